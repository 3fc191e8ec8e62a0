section
theorem pk_us {f : Nat → Int32} {k : Nat} {x : Int32} : upd f k x k = x := if_pos rfl
theorem pk_un {f : Nat → Int32} {k j : Nat} {x : Int32} (h : j ≠ k) : upd f k x j = f j := if_neg h
theorem pk_sub {a b : Nat} (h : b ≤ a) : nI a - nI b = nI (a - b) := by
  obtain ⟨c, rfl⟩ : ∃ c, a = c + b := ⟨a - b, by omega⟩
  rw [← nI_add, Int32.add_sub_cancel, Nat.add_sub_cancel]
theorem pk_mul (a b : Nat) : nI a * nI b = nI (a * b) := (Int32.ofNat_mul a b).symm
theorem pk_div {a d : Nat} (ha : a < 2 ^ 31) (h0 : 0 < d) (hd : d < 2 ^ 31) : nI a / nI d = nI (a / d) := by
  apply Int32.toInt_inj.mp
  rw [lg_idiv_nonneg (by rw [nI_toInt ha]; omega) (by rw [nI_toInt hd]; omega), nI_toInt ha, nI_toInt hd, nI_toInt (Nat.lt_of_le_of_lt (Nat.div_le_self a d) ha)]
  first | rfl | exact (Int.natCast_ediv _ _).symm
theorem pk_rem {a d : Nat} (ha : a < 2 ^ 31) (h0 : 0 < d) (hd : d < 2 ^ 31) : nI a - nI a / nI d * nI d = nI (a % d) := by
  rw [pk_div ha h0 hd, pk_mul, pk_sub (Nat.div_mul_le_self a d)]
  exact congrArg nI (by have := Nat.div_add_mod' a d; omega)
theorem pk_tn {n : Nat} (h : n < 2 ^ 32) : (nI n).toBitVec.toNat = n := Nat.mod_eq_of_lt h
theorem pk_and (x : Int32) {m : Int32} (k : Nat) (hm : m.toBitVec.toNat = 2 ^ k - 1) : x &&& m = nI (x.toBitVec.toNat % 2 ^ k) := by
  apply Int32.toBitVec_inj.mp
  apply BitVec.eq_of_toNat_eq
  rw [Int32.toBitVec_and, BitVec.toNat_and, hm, Nat.and_two_pow_sub_one_eq_mod]
  show _ = (BitVec.ofNat 32 _).toNat
  rw [BitVec.toNat_ofNat]
  exact (Nat.mod_eq_of_lt (Nat.lt_of_le_of_lt (Nat.mod_le _ _) x.toBitVec.isLt)).symm
theorem pk_andN {n : Nat} (h : n < 2 ^ 32) {m : Int32} (k : Nat) (hm : m.toBitVec.toNat = 2 ^ k - 1) : nI n &&& m = nI (n % 2 ^ k) := by
  rw [pk_and _ k hm, pk_tn h]
end
section
/-! numbers, ranges, what a line and a card hold -/
def rc_b (B : Int) (x : Int32) : Prop := -B ≤ x.toInt ∧ x.toInt ≤ B
theorem rc_b_up {x : Int32} (h : rc_b 999 x) : rc_b 999999 x := by
  obtain ⟨h1, h2⟩ := h
  exact ⟨by omega, by omega⟩
theorem rc_t0 : (0 : Int32).toInt = 0 := by decide
theorem rc_b_0 {B : Int} (h : 0 ≤ B) : rc_b B 0 := by
  unfold rc_b
  rw [rc_t0]
  omega
theorem rc_cut (v : Int64) : rc_b 999999 ((v - v / 1000000 * 1000000).toInt32) := by
  have e : (v - v / 1000000 * 1000000).toInt = v.toInt.tmod 1000000 := Jvm.Kit.i64_rem v 1000000
  have hb := tmod_bounds (a := v.toInt) (M := 1000000) (by decide)
  have e2 : ((v - v / 1000000 * 1000000).toInt32).toInt = v.toInt.tmod 1000000 := by
    rw [Jvm.Kit.i32_of_i64 (by rw [e]; omega) (by rw [e]; omega), e]
  unfold rc_b
  rw [e2]
  omega
theorem rc_10 : ¬ (1 : Int32) = 0 := by decide
theorem rc_t10 : ¬ (10 : Int32) = 0 := by decide
theorem rc_m6 : ¬ (1000000 : Int64) = 0 := by decide
theorem rc_n1 : vp_nar .boolean 1 = 1 := rfl
theorem rc_n0 : vp_nar .boolean 0 = 0 := rfl
theorem rc_nm1 {q : Nat} (h : q < 2 ^ 31) : ¬ nI q = (-1 : Int32) := by
  intro z
  have h1 := nI_toInt h
  rw [z] at h1
  have h2 : (-1 : Int32).toInt = -1 := by decide
  omega
theorem rc_and3 {w : Nat} (h : w ≤ 3) : nI w &&& 3 = nI w := by
  have h' : w = 0 ∨ w = 1 ∨ w = 2 ∨ w = 3 := by omega
  rcases h' with rfl | rfl | rfl | rfl <;> decide
theorem rc_and15 {w : Nat} (h : w < 16) : nI w &&& 15 = nI w := by
  rw [pk_andN (by omega) 4 (by decide)]
  exact congrArg nI (Nat.mod_eq_of_lt (by omega))
def rc_01 (f : Nat → Int32) : Prop := ∀ j : Nat, f j = 0 ∨ f j = 1
theorem rc_01u {f : Nat → Int32} (h : rc_01 f) (k : Nat) {x : Int32} (hx : x = 0 ∨ x = 1) : rc_01 (upd f k x) := by
  intro j
  by_cases e : j = k
  · subst e
    rw [pk_us]
    exact hx
  · rw [pk_un e]
    exact h j
def rc_W (f : Nat → Int32) : Prop := ∀ j : Nat, rc_b 999999 (f j)
theorem rc_Wu {f : Nat → Int32} (h : rc_W f) (k : Nat) {x : Int32} (hx : rc_b 999999 x) : rc_W (upd f k x) := by
  intro j
  by_cases e : j = k
  · subst e
    rw [pk_us]
    exact hx
  · rw [pk_un e]
    exact h j
theorem rc_pos {z : Int32} (h : rc_b 999999 z) (h0 : 0 ≤ z) : ∃ m : Nat, m ≤ 999999 ∧ z = nI m := by
  obtain ⟨m, hm, rfl⟩ := nI_of (x := z) (Int32.not_lt.mpr h0)
  obtain ⟨_, h2⟩ := h
  rw [nI_toInt hm] at h2
  exact ⟨m, by omega, rfl⟩
theorem rc_neg {z : Int32} (h : rc_b 999999 z) (h0 : ¬ 0 ≤ z) : ∃ m : Nat, m ≤ 999999 ∧ -z = nI m := by
  obtain ⟨h1, h2⟩ := h
  have h3 : z.toInt < 0 := by
    have h4 := Int32.not_le.mp h0
    rw [Int32.lt_iff_toInt_lt, rc_t0] at h4
    exact h4
  have e : (-z).toInt = -z.toInt := Jvm.Kit.i32_neg (by omega)
  have h5 : 0 ≤ -z := by
    rw [Int32.le_iff_toInt_le, e, rc_t0]
    omega
  obtain ⟨m, hm, em⟩ := nI_of (x := -z) (Int32.not_lt.mpr h5)
  have h6 : (-z).toInt = (m : Int) := by rw [em, nI_toInt hm]
  exact ⟨m, by omega, em⟩
theorem rc_le64 (x y : Int32) : x.toInt64 ≤ y.toInt64 ↔ x ≤ y := by
  rw [Int64.le_iff_toInt_le, Int32.toInt_toInt64, Int32.toInt_toInt64, Int32.le_iff_toInt_le]
theorem rc_eq64 (x y : Int32) : x.toInt64 = y.toInt64 ↔ x = y := by
  rw [← Int64.toInt_inj, Int32.toInt_toInt64, Int32.toInt_toInt64, Int32.toInt_inj]
theorem rc_i64 (x : Int32) : x.toInt64.toInt32 = x := by
  rw [← Int32.toInt_inj, Jvm.Kit.i32_of_i64, Int32.toInt_toInt64]
  · rw [Int32.toInt_toInt64]
    exact x.le_toInt
  · rw [Int32.toInt_toInt64]
    exact x.toInt_lt
/-- x from a to b, as both sides ask it -/
def rc_o (a b x : Int32) : Prop := ¬ x < a ∧ ¬ b < x
theorem rc_on {M x : Int32} {n : Nat} (hM : M.toInt = n) (h : rc_o 0 M x) : ∃ j : Nat, j ≤ n ∧ x = nI j := nI_of2 hM h.1 (Int32.not_lt.mp h.2)
theorem rc_ob {a b x : Int32} {B : Int} (h : rc_o a b x) (ha : -B ≤ a.toInt) (hb : b.toInt ≤ B) : rc_b B x := by
  have h1 := Int32.not_lt.mp h.1
  have h2 := Int32.not_lt.mp h.2
  rw [Int32.le_iff_toInt_le] at h1 h2
  exact ⟨by omega, by omega⟩
theorem rc_34 (w : Int32) : 4 ≤ w ↔ 3 < w := by
  rw [Int32.le_iff_toInt_le, Int32.lt_iff_toInt_lt]
  have h1 : (4 : Int32).toInt = 4 := by decide
  have h2 : (3 : Int32).toInt = 3 := by decide
  omega
theorem rc_56 (w : Int32) : 6 ≤ w ↔ 5 < w := by
  rw [Int32.le_iff_toInt_le, Int32.lt_iff_toInt_lt]
  have h1 : (6 : Int32).toInt = 6 := by decide
  have h2 : (5 : Int32).toInt = 5 := by decide
  omega
def rc_vc (kk kp kf ks : Nat → Int32) : Prop := ∀ j : Nat, rc_b 999 (kk j) ∧ rc_b 999 (kp j) ∧ rc_b 999 (kf j) ∧ rc_b 999 (ks j)
def rc_v1 (w c o t x y k : Int32) : Prop :=
  (∃ a : Nat, a ≤ 3 ∧ w = nI a) ∧ (∃ a : Nat, a ≤ 8 ∧ c = nI a) ∧ (∃ a b : Nat, a ≤ 9 ∧ b ≤ 5 ∧ o = nI a ∧ t = nI b ∧ (a = 6 ∨ a = 7 → b ≤ 3)) ∧
  (∃ a : Nat, a ≤ 10 ∧ x = nI a) ∧ (∃ a : Nat, a ≤ 10 ∧ y = nI a) ∧ rc_b 999 k
def rc_vl (lw lc lo lt lx ly lk : Nat → Int32) : Prop := ∀ j : Nat, rc_v1 (lw j) (lc j) (lo j) (lt j) (lx j) (ly j) (lk j)
theorem rc_vcu {kk kp kf ks : Nat → Int32} (h : rc_vc kk kp kf ks) (k : Nat) {a b c d : Int32} (ha : rc_b 999 a) (hb : rc_b 999 b) (hc : rc_b 999 c) (hd : rc_b 999 d) :
    rc_vc (upd kk k a) (upd kp k b) (upd kf k c) (upd ks k d) := by
  intro j
  by_cases e : j = k
  · subst e
    rw [pk_us, pk_us, pk_us, pk_us]
    exact ⟨ha, hb, hc, hd⟩
  · rw [pk_un e, pk_un e, pk_un e, pk_un e]
    exact h j
theorem rc_vlu {lw lc lo lt lx ly lk : Nat → Int32} (h : rc_vl lw lc lo lt lx ly lk) (i : Nat) {w c o t x y k : Int32} (hv : rc_v1 w c o t x y k) :
    rc_vl (upd lw i w) (upd lc i c) (upd lo i o) (upd lt i t) (upd lx i x) (upd ly i y) (upd lk i k) := by
  intro j
  by_cases e : j = i
  · subst e
    rw [pk_us, pk_us, pk_us, pk_us, pk_us, pk_us, pk_us]
    exact hv
  · rw [pk_un e, pk_un e, pk_un e, pk_un e, pk_un e, pk_un e, pk_un e]
    exact h j
theorem rc_vlo {lw lc lo lt lx ly lk : Nat → Int32} (h : rc_vl lw lc lo lt lx ly lk) (i : Nat) {x y k : Int32} (hx : ∃ a : Nat, a ≤ 10 ∧ x = nI a) (hy : ∃ a : Nat, a ≤ 10 ∧ y = nI a) (hk : rc_b 999 k) :
    rc_vl lw lc lo lt (upd lx i x) (upd ly i y) (upd lk i k) := by
  intro j
  have hj := h j
  by_cases e : j = i
  · subst e
    rw [pk_us, pk_us, pk_us]
    exact ⟨hj.1, hj.2.1, hj.2.2.1, hx, hy, hk⟩
  · rw [pk_un e, pk_un e, pk_un e]
    exact hj
end
section
/-! the small own methods of both sides -/
theorem rc_iw1 {post : Int32 → Prop} {x a b : Int32} (h : rc_o a b x) (hp : post 1) : wpX_isWithin post x a b := br_f h.1 (br_f h.2 hp)
theorem rc_iw0 {post : Int32 → Prop} {x a b : Int32} (h : ¬ rc_o a b x) (hp : post 0) : wpX_isWithin post x a b := by
  by_cases h1 : x < a
  · exact br_t h1 hp
  · by_cases h2 : b < x
    · exact br_f h1 (br_t h2 hp)
    · exact absurd ⟨h1, h2⟩ h
theorem rc_am1 {post : Int32 → Prop} {x : Int32} (h : rc_o (-999) 999 x) (hp : post 1) : wpX_isAmount post x := rc_iw1 h ⟨rfl, hp⟩
theorem rc_am0 {post : Int32 → Prop} {x : Int32} (h : ¬ rc_o (-999) 999 x) (hp : post 0) : wpX_isAmount post x := rc_iw0 h ⟨rfl, hp⟩
theorem rc_jn1 {post : Int32 → Prop} {u : SY} {x a b : Int32} (h : rc_o a b x) (hp : post 1) : wpY_in post u x a b := by
  obtain ⟨_, _, _, _, _, _, _, _, _, _, _, _, _, _, _, _, _, _, _⟩ := u
  exact br_f h.1 (br_f h.2 hp)
theorem rc_jn0 {post : Int32 → Prop} {u : SY} {x a b : Int32} (h : ¬ rc_o a b x) (hp : post 0) : wpY_in post u x a b := by
  obtain ⟨_, _, _, _, _, _, _, _, _, _, _, _, _, _, _, _, _, _, _⟩ := u
  by_cases h1 : x < a
  · exact br_t h1 hp
  · by_cases h2 : b < x
    · exact br_f h1 (br_t h2 hp)
    · exact absurd ⟨h1, h2⟩ h
theorem rc_it1 {post : Int32 → Prop} {w z b : Int32} (hz : z ≤ w ↔ b < w) (h : rc_o 0 b w) (hp : post 1) : wX_isTarget_18 post w z :=
  br_f h.1 (br_f (fun q => h.2 (hz.mp q)) hp)
theorem rc_it0 {post : Int32 → Prop} {w z b : Int32} (hz : z ≤ w ↔ b < w) (h : ¬ rc_o 0 b w) (hp : post 0) : wX_isTarget_18 post w z := by
  by_cases h1 : w < 0
  · exact br_t h1 hp
  · by_cases h2 : b < w
    · exact br_f h1 (br_t (hz.mpr h2) hp)
    · exact absurd ⟨h1, h2⟩ h
theorem rc_itA {post : Int32 → Prop} {o w : Int32} (h : o = 6 ∨ o = 7) (hp : wX_isTarget_18 post w 4) : wpX_isTarget post o w := by
  by_cases h6 : o = 6
  · exact br_t h6 hp
  · exact br_f h6 (br_t (h.resolve_left h6) hp)
theorem rc_itB {post : Int32 → Prop} {o w : Int32} (h : ¬ (o = 6 ∨ o = 7)) (hp : wX_isTarget_18 post w 6) : wpX_isTarget post o w :=
  br_f (fun z => h (Or.inl z)) (br_f (fun z => h (Or.inr z)) hp)

section
variable {C L : Nat} {lev : Int32} {kk kp kf ks lw lc lo lt lx ly lk code ss se : Nat → Int32} {p : Int32} {t : Nat} {e e' : Int32} {wf ind ch : Nat → Int32}

/-- a source: both sides find the same number -/
theorem rc_src (hp : p = -1 ∨ ∃ q : Nat, q < 16 ∧ p = nI q) (hvc : rc_vc kk kp kf ks) (hk : ∀ j : Nat, rc_b 999 (lk j)) (hW : rc_W wf) {s : Int32} {a : Nat} (ha : a ≤ 10) (hs : s = nI a) {i : Nat} (hi : i < 14) :
    ∃ z : Int32, rc_b 999999 z ∧ (∀ post : Int32 → Prop, post z → wpX_sourceNumber post ((nI C), (nI L), lev, (nI t), p, e, kk, kp, kf, ks, lw, lc, lo, lt, lx, ly, lk, code, ss, se, wf, ind, ch) s (lk (nI i).toNatClampNeg)) ∧
      (∀ post : Int32 → Prop, post z → wpY_source post ((nI C), (nI L), p, e', (nI t), kk, kp, kf, ks, lw, lc, lo, lt, lx, ly, lk, wf, ind, ch) s (nI i)) := by
  subst hs
  by_cases h6 : a < 6
  · have g6 : ¬ (6 : Int32) ≤ nI a := nI_ge (b := 6) h6 (by decide)
    have v6 : vp_in (nI a) 6 := vp_in_nI h6 (by decide)
    exact ⟨wf (nI a).toNatClampNeg, hW _, fun post h => br_f g6 ⟨v6, h⟩, fun post h => br_f g6 ⟨v6, h⟩⟩
  · have g6 : (6 : Int32) ≤ nI a := nI_le (a := 6) (by omega) (by omega)
    by_cases h10 : a = 10
    · subst h10
      exact ⟨lk (nI i).toNatClampNeg, rc_b_up (hk _), fun post h => br_t g6 (br_t rfl h), fun post h => br_t g6 (br_t rfl ⟨vp_in_nI hi (by decide), h⟩)⟩
    · have g10 : ¬ nI a = (10 : Int32) := fun h => h10 ((nI_eq (b := 10) (by omega) (by omega)).mp h)
      rcases hp with rfl | ⟨q, hq, rfl⟩
      · exact ⟨0, rc_b_0 (by decide), fun post h => br_t g6 (br_f g10 (br_t rfl h)), fun post h => br_t g6 (br_f g10 (br_f (by decide) h))⟩
      · have n1 : ¬ nI q = (-1 : Int32) := rc_nm1 (by omega)
        have g0 : (0 : Int32) ≤ nI q := nI_pos' (by omega)
        have vq : vp_in (nI q) 16 := vp_in_nI hq (by decide)
        have n6 : ¬ nI a < (6 : Int32) := nI_nlt (b := 6) (by omega) (by omega)
        obtain ⟨v1, v2, v3, v4⟩ := hvc (nI q).toNatClampNeg
        have ha' : a = 6 ∨ a = 7 ∨ a = 8 ∨ a = 9 := by omega
        rcases ha' with rfl | rfl | rfl | rfl
        · exact ⟨kk (nI q).toNatClampNeg, rc_b_up v1, fun post h => br_t g6 (br_f g10 (br_f n1 (br_f n6 (br_f (by decide) (br_t rfl ⟨vq, h⟩))))),
            fun post h => br_t g6 (br_f g10 (br_t g0 (br_t rfl ⟨vq, h⟩)))⟩
        · exact ⟨kp (nI q).toNatClampNeg, rc_b_up v2, fun post h => br_t g6 (br_f g10 (br_f n1 (br_f n6 (br_f (by decide) (br_f (by decide) (br_t rfl ⟨vq, h⟩)))))),
            fun post h => br_t g6 (br_f g10 (br_t g0 (br_f (by decide) (br_t rfl ⟨vq, h⟩))))⟩
        · exact ⟨kf (nI q).toNatClampNeg, rc_b_up v3, fun post h => br_t g6 (br_f g10 (br_f n1 (br_f n6 (br_f (by decide) (br_f (by decide) (br_f (by decide) (br_t rfl ⟨vq, h⟩))))))),
            fun post h => br_t g6 (br_f g10 (br_t g0 (br_f (by decide) (br_f (by decide) (br_t rfl ⟨vq, h⟩)))))⟩
        · exact ⟨ks (nI q).toNatClampNeg, rc_b_up v4, fun post h => br_t g6 (br_f g10 (br_f n1 (br_f n6 (br_t (by decide) ⟨vq, h⟩)))),
            fun post h => br_t g6 (br_f g10 (br_t g0 (br_f (by decide) (br_f (by decide) (br_f (by decide) ⟨vq, h⟩)))))⟩

/-- a condition: both sides find the same answer -/
theorem rc_cond (h01 : rc_01 ind) {s : Int32} {a : Nat} (ha : a ≤ 8) (hs : s = nI a) :
    ∃ r : Int32, (∀ post : Int32 → Prop, post r → wpX_conditionHolds post ((nI C), (nI L), lev, (nI t), p, e, kk, kp, kf, ks, lw, lc, lo, lt, lx, ly, lk, code, ss, se, wf, ind, ch) s) ∧ (∀ post : Int32 → Prop, post r → wpY_isMet post ((nI C), (nI L), p, e', (nI t), kk, kp, kf, ks, lw, lc, lo, lt, lx, ly, lk, wf, ind, ch) s) := by
  subst hs
  by_cases h0 : a = 0
  · subst h0
    exact ⟨1, fun post h => br_t rfl h, fun post h => br_t rfl h⟩
  · have n0 : ¬ nI a = 0 := nI_ne0 (by omega) (by omega)
    by_cases h5 : 5 ≤ a
    · obtain ⟨b, rfl⟩ : ∃ b, a = b + 5 := ⟨a - 5, by omega⟩
      have e1 : nI (b + 5) - 1 - 4 = nI b := by
        have z : nI (b + 5) - 1 = nI (b + 4) := nI_pred (b + 4)
        rw [z]
        exact (pk_sub (a := b + 4) (b := 4) (by omega)).trans (congrArg nI (by omega))
      have e2 : (nI (b + 5) - 5) &&& 3 = nI b := by
        have z : nI (b + 5) - 5 = nI b := (pk_sub (a := b + 5) (b := 5) (by omega)).trans (congrArg nI (by omega))
        rw [z]
        exact rc_and3 (by omega)
      have c4 : (4 : Int32) < nI (b + 5) := nI_lt (a := 4) (by omega) (by omega)
      have c5 : (5 : Int32) ≤ nI (b + 5) := nI_le (a := 5) (by omega) (by omega)
      have vb : vp_in (nI b) 4 := vp_in_nI (by omega) (by decide)
      by_cases z : ind (nI b).toNatClampNeg = 0
      · refine ⟨1, fun post h => br_f n0 (br_t c4 ?_), fun post h => br_f n0 (br_t c5 ?_)⟩
        · rw [e1]
          exact ⟨vb, br_t z h⟩
        · rw [e2]
          exact ⟨vb, br_t z h⟩
      · refine ⟨0, fun post h => br_f n0 (br_t c4 ?_), fun post h => br_f n0 (br_t c5 ?_)⟩
        · rw [e1]
          exact ⟨vb, br_f z h⟩
        · rw [e2]
          exact ⟨vb, br_f z h⟩
    · obtain ⟨b, rfl⟩ : ∃ b, a = b + 1 := ⟨a - 1, by omega⟩
      have e1 : nI (b + 1) - 1 = nI b := nI_pred b
      have e2 : (nI (b + 1) - 1) &&& 3 = nI b := by
        rw [e1]
        exact rc_and3 (by omega)
      have c4 : ¬ (4 : Int32) < nI (b + 1) := nI_nlt (a := 4) (by omega) (by decide)
      have c5 : ¬ (5 : Int32) ≤ nI (b + 1) := nI_ge (b := 5) (by omega) (by decide)
      have vb : vp_in (nI b) 4 := vp_in_nI (by omega) (by decide)
      rcases h01 (nI b).toNatClampNeg with z | z
      · refine ⟨0, fun post h => br_f n0 (br_f c4 ?_), fun post h => br_f n0 (br_f c5 ?_)⟩
        · rw [e1, z]
          exact ⟨vb, rfl, h⟩
        · rw [e2]
          exact ⟨vb, br_t z h⟩
      · refine ⟨1, fun post h => br_f n0 (br_f c4 ?_), fun post h => br_f n0 (br_f c5 ?_)⟩
        · rw [e1, z]
          exact ⟨vb, rfl, h⟩
        · rw [e2]
          exact ⟨vb, br_f (by rw [z]; decide) h⟩

/-- the text with one character more: kept while it is below 80 -/
def rc_ch (t : Nat) (ch : Nat → Int32) (x : Int32) : Nat → Int32 := if t < 80 then upd ch (nI t).toNatClampNeg x else ch
theorem rc_aX (ht : t < 2 ^ 30) {post : SX → Prop} {x : Int32} (h : post ((nI C), (nI L), lev, (nI (t + 1)), p, e, kk, kp, kf, ks, lw, lc, lo, lt, lx, ly, lk, code, ss, se, wf, ind, (rc_ch t ch x))) : wpX_addCharacter post ((nI C), (nI L), lev, (nI t), p, e, kk, kp, kf, ks, lw, lc, lo, lt, lx, ly, lk, code, ss, se, wf, ind, ch) x := by
  unfold rc_ch at h
  by_cases h8 : t < 80
  · rw [if_pos h8] at h
    exact br_f (nI_ge (b := 80) h8 (by decide)) ⟨vp_in_nI h8 (by decide), nm_e (nm_r (nI_1 t) h)⟩
  · rw [if_neg h8] at h
    exact br_t (nI_le (a := 80) (by omega) (by omega)) (nm_r (nI_1 t) h)
theorem rc_aY (ht : t < 2 ^ 30) {post : SY → Prop} {x : Int32} (h : post ((nI C), (nI L), p, e, (nI (t + 1)), kk, kp, kf, ks, lw, lc, lo, lt, lx, ly, lk, wf, ind, (rc_ch t ch x))) : wpY_put post ((nI C), (nI L), p, e, (nI t), kk, kp, kf, ks, lw, lc, lo, lt, lx, ly, lk, wf, ind, ch) x := by
  unfold rc_ch at h
  by_cases h8 : t < 80
  · rw [if_pos h8] at h
    exact br_f (nI_ge (b := 80) h8 (by decide)) ⟨vp_in_nI h8 (by decide), nm_e (nm_r (nI_1 t) h)⟩
  · rw [if_neg h8] at h
    exact br_t (nI_le (a := 80) (by omega) (by omega)) (nm_r (nI_1 t) h)
end
end
section
/-! printing a number: one digit, then all -/
def rc_d (m u : Nat) : Int32 := nI m / nI u - nI m / nI u / 10 * 10
theorem rc_dd {m u : Nat} (hm : m ≤ 999999) (hu : 1 ≤ u) (hu' : u ≤ 100000) : rc_d m u = nI (m / u % 10) := by
  have h1 : m / u ≤ m := Nat.div_le_self m u
  unfold rc_d
  rw [pk_div (by omega) hu (by omega)]
  exact pk_rem (d := 10) (by omega) (by decide) (by decide)
theorem rc_d0 {m u : Nat} (hm : m ≤ 999999) (hu : 1 ≤ u) (hu' : u ≤ 100000) (h : 0 < rc_d m u) : u ≤ m := by
  rw [rc_dd hm hu hu'] at h
  by_cases z : u ≤ m
  · exact z
  · rw [Nat.div_eq_of_lt (by omega)] at h
    exact absurd h (by decide)
theorem rc_d1 {m u : Nat} (hm : m ≤ 999999) (hu : 1 ≤ u) (hu' : u ≤ 100000) (h : ¬ 0 < rc_d m u) (h1 : u ≤ m) : 10 * u ≤ m := by
  rw [rc_dd hm hu hu'] at h
  by_cases z : 10 * u ≤ m
  · exact z
  · have a1 : m / u < 10 := Nat.div_lt_of_lt_mul (by omega)
    have a2 : 0 < m / u := Nat.div_pos h1 hu
    rw [Nat.mod_eq_of_lt a1] at h
    exact absurd (nI_lt (a := 0) a2 (by omega)) h
def rc_pt (m u t : Nat) : Nat := if u ≤ m ∨ u = 1 then t + 1 else t
def rc_pc (m u t : Nat) (ch : Nat → Int32) : Nat → Int32 := if u ≤ m ∨ u = 1 then rc_ch t ch (48 + rc_d m u) else ch
theorem rc_pt_le (m u t : Nat) : rc_pt m u t ≤ t + 1 := by
  unfold rc_pt
  split <;> omega

section
variable {C L : Nat} {lev : Int32} {kk kp kf ks lw lc lo lt lx ly lk code ss se : Nat → Int32} {p : Int32} {t : Nat} {e e' : Int32} {wf ind ch : Nat → Int32}

theorem rc_pX {m u n : Nat} (hm : m ≤ 999999) (hu : 1 ≤ u) (hu' : u ≤ 100000) (ht : t < 2 ^ 30) {post : SX → Prop}
    (h : wX_print_18 post (nI m) n (nI (u / 10)) (nI C) (nI L) lev (nI (rc_pt m u t)) p e kk kp kf ks lw lc lo lt lx ly lk code ss se wf ind (rc_pc m u t ch)) : wX_print_18 post (nI m) (n + 1) (nI u) (nI C) (nI L) lev (nI t) p e kk kp kf ks lw lc lo lt lx ly lk code ss se wf ind ch := by
  have d10 : nI u / 10 = nI (u / 10) := pk_div (d := 10) (by omega) (by decide) (by decide)
  have nu : ¬ nI u < 1 := nI_nlt (b := 1) hu (by omega)
  have nz : ¬ nI u = 0 := nI_ne0 (by omega) (by omega)
  by_cases hq : u ≤ m ∨ u = 1
  · unfold rc_pt rc_pc at h
    rw [if_pos hq, if_pos hq] at h
    have hc : wX_print_33 post (wX_print_18 post (nI m) n) (nI m) (nI u) (nI C) (nI L) lev (nI t) p e kk kp kf ks lw lc lo lt lx ly lk code ss se wf ind ch :=
      And.intro nz (And.intro rc_t10 (rc_aX ht (And.intro rc_t10 (nm_r d10 h))))
    by_cases h1 : u ≤ m
    · exact br_f nu (br_t (nI_le h1 (by omega)) hc)
    · exact br_f nu (br_f (nI_ge (by omega) (by omega)) (br_t (congrArg nI (hq.resolve_left h1)) hc))
  · unfold rc_pt rc_pc at h
    rw [if_neg hq, if_neg hq] at h
    have h1 : ¬ u ≤ m := fun z => hq (Or.inl z)
    have h2 : ¬ u = 1 := fun z => hq (Or.inr z)
    exact br_f nu (br_f (nI_ge (by omega) (by omega)) (br_f (fun z => h2 ((nI_eq (b := 1) (by omega) (by omega)).mp z)) (And.intro rc_t10 (nm_r d10 h))))

theorem rc_pY {m u k n : Nat} {s s' : Int32} (hm : m ≤ 999999) (hu : 1 ≤ u) (hu' : u ≤ 100000) (hk : k ≤ 5) (hk5 : k = 5 ↔ u = 1) (ht : t < 2 ^ 30)
    (hs : s = if 10 * u ≤ m then 1 else 0) (hs' : s' = if u ≤ m ∨ u = 1 then 1 else 0) {post : SY → Prop}
    (h : wY_print_30 post (nI m) n s' (nI (u / 10)) (nI (k + 1)) (nI C) (nI L) p e (nI (rc_pt m u t)) kk kp kf ks lw lc lo lt lx ly lk wf ind (rc_pc m u t ch)) : wY_print_30 post (nI m) (n + 1) s (nI u) (nI k) (nI C) (nI L) p e (nI t) kk kp kf ks lw lc lo lt lx ly lk wf ind ch := by
  have d10 : nI u / 10 = nI (u / 10) := pk_div (d := 10) (by omega) (by decide) (by decide)
  have nk : ¬ (6 : Int32) ≤ nI k := nI_ge (b := 6) (by omega) (by decide)
  have u1 : (1 : Int32) ≤ nI u := nI_le (a := 1) hu (by omega)
  have nz : ¬ nI u = 0 := nI_ne0 (by omega) (by omega)
  have key : ∀ s0 : Int32, s0 = s' → wY_print_69 post (wY_print_30 post (nI m) n) (nI m) s0 (nI u) (nI k) (rc_d m u) (nI C) (nI L) p e (nI t) kk kp kf ks lw lc lo lt lx ly lk wf ind ch := by
    intro s0 es
    subst es
    by_cases hq : u ≤ m ∨ u = 1
    · unfold rc_pt rc_pc at h
      rw [if_pos hq, if_pos hq] at h
      rw [if_pos hq] at hs'
      exact br_f (by rw [hs']; decide) (rc_aY ht (And.intro rc_t10 (nm_r d10 (nm_r (nI_1 k) h))))
    · unfold rc_pt rc_pc at h
      rw [if_neg hq, if_neg hq] at h
      rw [if_neg hq] at hs'
      exact br_t hs' (And.intro rc_t10 (nm_r d10 (nm_r (nI_1 k) h)))
  refine br_f nk (br_t u1 (And.intro nz (And.intro rc_t10 (nm_e ?_))))
  by_cases hD : 0 < rc_d m u
  · exact br_t hD (key 1 (by rw [hs', if_pos (Or.inl (rc_d0 hm hu hu' hD))]))
  · by_cases h5 : k = 5
    · exact br_f hD (br_t (congrArg nI h5) (key 1 (by rw [hs', if_pos (Or.inr (hk5.mp h5))])))
    · refine br_f hD (br_f (fun z => h5 ((nI_eq (b := 5) (by omega) (by omega)).mp z)) (key s ?_))
      have hn : ¬ u = 1 := fun z => h5 (hk5.mpr z)
      rw [hs, hs']
      by_cases z : u ≤ m
      · rw [if_pos (Or.inl z), if_pos (rc_d1 hm hu hu' hD z)]
      · rw [if_neg (by omega), if_neg (by omega)]

/-- from the digit of 10 ^ d on, both sides add the same characters -/
theorem rc_pr {m : Nat} (hm : m ≤ 999999) : ∀ (d : Nat) (t : Nat) (ch : Nat → Int32) (s : Int32), d ≤ 5 → t + d + 2 < 2 ^ 30 → s = (if 10 * 10 ^ d ≤ m then 1 else 0) →
    ∃ (t' : Nat) (ch' : Nat → Int32), t' ≤ t + d + 2 ∧ (∀ post : SX → Prop, post ((nI C), (nI L), lev, (nI t'), p, e, kk, kp, kf, ks, lw, lc, lo, lt, lx, ly, lk, code, ss, se, wf, ind, ch') → wX_print_18 post (nI m) (d + 2) (nI (10 ^ d)) (nI C) (nI L) lev (nI t) p e kk kp kf ks lw lc lo lt lx ly lk code ss se wf ind ch) ∧
      (∀ post : SY → Prop, post ((nI C), (nI L), p, e', (nI t'), kk, kp, kf, ks, lw, lc, lo, lt, lx, ly, lk, wf, ind, ch') → wY_print_30 post (nI m) (d + 2) s (nI (10 ^ d)) (nI (5 - d)) (nI C) (nI L) p e' (nI t) kk kp kf ks lw lc lo lt lx ly lk wf ind ch) := by
  intro d
  induction d with
  | zero =>
    intro t ch s _ ht hs
    have b1 := rc_pt_le m 1 t
    refine ⟨rc_pt m 1 t + 1, rc_ch (rc_pt m 1 t) (rc_pc m 1 t ch) 32, by omega, fun post h => ?_, fun post h => ?_⟩
    · exact rc_pX (u := 1) hm (by decide) (by decide) (by omega) (br_t (by decide) (rc_aX (by omega) h))
    · exact rc_pY (u := 1) (k := 5) hm (by decide) (by decide) (by decide) (by decide) (by omega) hs (s' := 1) (by rw [if_pos (Or.inr rfl)]) (br_t (by decide) (rc_aY (by omega) h))
  | succ d ih =>
    intro t ch s hd ht hs
    have p1 : 1 ≤ 10 ^ d := Nat.one_le_pow _ _ (by decide)
    have p2 : 10 ^ (d + 1) = 10 * 10 ^ d := by rw [Nat.pow_succ, Nat.mul_comm]
    have p3 : 10 ^ (d + 1) ≤ 100000 := Nat.pow_le_pow_right (n := 10) (j := 5) (by decide) hd
    have p4 : 10 ^ (d + 1) / 10 = 10 ^ d := by rw [p2, Nat.mul_div_cancel_left _ (by decide)]
    have b1 := rc_pt_le m (10 ^ (d + 1)) t
    obtain ⟨t', ch', hb, hX, hY⟩ := ih (rc_pt m (10 ^ (d + 1)) t) (rc_pc m (10 ^ (d + 1)) t ch) (if 10 ^ (d + 1) ≤ m ∨ 10 ^ (d + 1) = 1 then 1 else 0) (by omega) (by omega)
      (by
        by_cases z : 10 * 10 ^ d ≤ m
        · rw [if_pos z, if_pos (by omega)]
        · rw [if_neg z, if_neg (by omega)])
    refine ⟨t', ch', by omega, fun post h => ?_, fun post h => ?_⟩
    · have g := hX post h
      rw [← p4] at g
      exact rc_pX hm (by omega) p3 (by omega) g
    · have g := hY post h
      have e5 : 5 - d = 5 - (d + 1) + 1 := by omega
      rw [← p4, e5] at g
      exact rc_pY hm (by omega) p3 (by omega) (by omega) (by omega) hs rfl g

theorem rc_print (ht : t + 8 < 2 ^ 30) {z : Int32} (hz : rc_b 999999 z) :
    ∃ (t' : Nat) (ch' : Nat → Int32), t' ≤ t + 8 ∧ (∀ post : SX → Prop, post ((nI C), (nI L), lev, (nI t'), p, e, kk, kp, kf, ks, lw, lc, lo, lt, lx, ly, lk, code, ss, se, wf, ind, ch') → wpX_print post ((nI C), (nI L), lev, (nI t), p, e, kk, kp, kf, ks, lw, lc, lo, lt, lx, ly, lk, code, ss, se, wf, ind, ch) z) ∧
      (∀ post : SY → Prop, post ((nI C), (nI L), p, e', (nI t'), kk, kp, kf, ks, lw, lc, lo, lt, lx, ly, lk, wf, ind, ch') → wpY_print post ((nI C), (nI L), p, e', (nI t), kk, kp, kf, ks, lw, lc, lo, lt, lx, ly, lk, wf, ind, ch) z) := by
  by_cases h0 : 0 ≤ z
  · obtain ⟨m, hm, rfl⟩ := rc_pos hz h0
    obtain ⟨t', ch', hb, hX, hY⟩ := rc_pr (C := C) (L := L) (lev := lev) (kk := kk) (kp := kp) (kf := kf) (ks := ks) (lw := lw) (lc := lc) (lo := lo) (lt := lt) (lx := lx) (ly := ly) (lk := lk) (code := code) (ss := ss) (se := se) (p := p) (e := e) (e' := e') (wf := wf) (ind := ind) hm 5 t ch 0 (by decide) (by omega) (by rw [if_neg (by omega)])
    exact ⟨t', ch', by omega, fun post h => br_t h0 ⟨_, hX post h⟩, fun post h => br_t h0 (br_t h0 ⟨_, hY post h⟩)⟩
  · obtain ⟨m, hm, em⟩ := rc_neg hz h0
    obtain ⟨t', ch', hb, hX, hY⟩ := rc_pr (C := C) (L := L) (lev := lev) (kk := kk) (kp := kp) (kf := kf) (ks := ks) (lw := lw) (lc := lc) (lo := lo) (lt := lt) (lx := lx) (ly := ly) (lk := lk) (code := code) (ss := ss) (se := se) (p := p) (e := e) (e' := e') (wf := wf) (ind := ind) hm 5 (t + 1) (rc_ch t ch 45) 0 (by decide) (by omega) (by rw [if_neg (by omega)])
    exact ⟨t', ch', by omega, fun post h => br_f h0 (rc_aX (by omega) (nm_r em ⟨_, hX post h⟩)), fun post h => br_f h0 (rc_aY (by omega) (br_f h0 (nm_r em ⟨_, hY post h⟩)))⟩
end
end
section
/-! one line executed: both sides come to the same run state -/
section
variable {C L : Nat} {lev : Int32} {kk kp kf ks lw lc lo lt lx ly lk code ss se : Nat → Int32} {p : Int32} {t : Nat} {e e' : Int32} {wf ind ch : Nat → Int32}

theorem rc_ne {a : Nat} (b : Nat) (ha : a < 2 ^ 31) (hb : b < 2 ^ 31) (h : ¬ a = b) : ¬ nI a = nI b := fun z => h ((nI_eq ha hb).mp z)
theorem rc_228 {a : Nat} (h : a ≤ 5) {x3 : Int32} {x4 : Int64} {post : SY → Prop} (hp : post ((nI C), (nI L), p, e, (nI t), kk, kp, kf, ks, lw, lc, lo, lt, lx, ly, lk, wf, ind, ch)) : wY_execute_228 post (nI a) x3 x4 (nI C) (nI L) p e (nI t) kk kp kf ks lw lc lo lt lx ly lk wf ind ch :=
  br_f (rc_ne 6 (by omega) (by omega) (by omega)) (br_f (rc_ne 7 (by omega) (by omega) (by omega)) (br_f (rc_ne 8 (by omega) (by omega) (by omega)) (br_f (rc_ne 9 (by omega) (by omega) (by omega)) hp)))
theorem rc_151 {a : Nat} (h : a ≤ 4) {w : Nat} (hw : w ≤ 5) {x4 x6 z : Int64} {post : SY → Prop} (hp : post ((nI C), (nI L), p, e, (nI t), kk, kp, kf, ks, lw, lc, lo, lt, lx, ly, lk, (upd wf (nI w).toNatClampNeg ((z - z / 1000000 * 1000000).toInt32)), ind, ch)) :
    wY_execute_151 post (nI a) (nI w) x4 x6 z (nI C) (nI L) p e (nI t) kk kp kf ks lw lc lo lt lx ly lk wf ind ch :=
  And.intro rc_m6 (And.intro (vp_in_nI (by omega) (by decide)) (nm_e (br_f (rc_ne 5 (by omega) (by omega) (by omega)) (rc_228 (by omega) hp))))

theorem rc_ar (h01 : rc_01 ind) {o : Int32} {a : Nat} (ha : a ≤ 4) (ho : o = nI a) {w : Nat} (hw : w ≤ 5) (x y : Int32) :
    ∃ (r : Int32) (ind' : Nat → Int32), rc_b 999999 r ∧ rc_01 ind' ∧ (∀ post : Int32 → SX → Prop, post r ((nI C), (nI L), lev, (nI t), p, e, kk, kp, kf, ks, lw, lc, lo, lt, lx, ly, lk, code, ss, se, wf, ind', ch) → wpX_calculate post ((nI C), (nI L), lev, (nI t), p, e, kk, kp, kf, ks, lw, lc, lo, lt, lx, ly, lk, code, ss, se, wf, ind, ch) o x.toInt64 y.toInt64) ∧
      (∀ post : SY → Prop, post ((nI C), (nI L), p, e', (nI t), kk, kp, kf, ks, lw, lc, lo, lt, lx, ly, lk, (upd wf (nI w).toNatClampNeg r), ind', ch) →
        (((nI a) = 4 → ((y.toInt64 = 0 → (∀ b : Nat → Int32, b = upd ind 3 (vp_nar .boolean 1) → wY_execute_71 post (nI a) (nI w) x.toInt64 y.toInt64 (nI C) (nI L) p e' (nI t) kk kp kf ks lw lc lo lt lx ly lk wf b ch)) ∧ (¬ y.toInt64 = 0 → wY_execute_71 post (nI a) (nI w) x.toInt64 y.toInt64 (nI C) (nI L) p e' (nI t) kk kp kf ks lw lc lo lt lx ly lk wf ind ch))) ∧ (¬ (nI a) = 4 → wY_execute_71 post (nI a) (nI w) x.toInt64 y.toInt64 (nI C) (nI L) p e' (nI t) kk kp kf ks lw lc lo lt lx ly lk wf ind ch))) := by
  subst ho
  have ha' : a = 0 ∨ a = 1 ∨ a = 2 ∨ a = 3 ∨ a = 4 := by omega
  rcases ha' with rfl | rfl | rfl | rfl | rfl
  · exact ⟨_, ind, rc_cut x.toInt64, h01, fun post h => br_t (by decide) (And.intro rc_m6 h),
      fun post h => br_f (by decide) (br_f (by decide) (br_t rfl (rc_151 (by decide) hw h)))⟩
  · exact ⟨_, ind, rc_cut (x.toInt64 + y.toInt64), h01, fun post h => br_f (by decide) (br_f (by decide) (br_t rfl (nm_e (And.intro rc_m6 h)))),
      fun post h => br_f (by decide) (br_f (by decide) (br_f (by decide) (br_t rfl (rc_151 (by decide) hw h))))⟩
  · exact ⟨_, ind, rc_cut (x.toInt64 - y.toInt64), h01, fun post h => br_f (by decide) (br_f (by decide) (br_f (by decide) (br_t rfl (nm_e (And.intro rc_m6 h))))),
      fun post h => br_f (by decide) (br_f (by decide) (br_f (by decide) (br_f (by decide) (br_t rfl (rc_151 (by decide) hw h)))))⟩
  · exact ⟨_, ind, rc_cut (x.toInt64 * y.toInt64), h01, fun post h => br_f (by decide) (br_f (by decide) (br_f (by decide) (br_f (by decide) (br_t rfl (nm_e (And.intro rc_m6 h)))))),
      fun post h => br_f (by decide) (br_f (by decide) (br_f (by decide) (br_f (by decide) (br_f (by decide) (br_t rfl (rc_151 (by decide) hw h))))))⟩
  · by_cases y0 : y.toInt64 = 0
    · exact ⟨_, upd ind 3 (vp_nar .boolean 1), rc_cut 0, rc_01u h01 3 (Or.inr rc_n1), fun post h => br_f (by decide) (br_f (by decide) (br_f (by decide) (br_f (by decide) (br_f (by decide) (br_t rfl (br_t y0 (nm_e (And.intro rc_m6 h)))))))),
        fun post h => br_t rfl (br_t y0 (nm_e (br_f (by decide) (br_f (by decide) (br_f (by decide) (br_f (by decide) (br_f (by decide) (br_t y0 (rc_151 (by decide) hw h)))))))))⟩
    · exact ⟨_, ind, rc_cut (x.toInt64 / y.toInt64), h01, fun post h => br_f (by decide) (br_f (by decide) (br_f (by decide) (br_f (by decide) (br_f (by decide) (br_t rfl (br_f y0 (And.intro y0 (And.intro rc_m6 h)))))))),
        fun post h => br_t rfl (br_f y0 (br_f (by decide) (br_f (by decide) (br_f (by decide) (br_f (by decide) (br_f (by decide) (br_f y0 (br_f y0 (And.intro y0 (rc_151 (by decide) hw h))))))))))⟩

theorem rc_v4 {n : Nat} (h : n < 4) : vp_in (nI n) 4 := vp_in_nI h (by decide)
theorem rc_cmp (h01 : rc_01 ind) (x y : Int32) {x3 : Int32} :
    ∃ ind' : Nat → Int32, rc_01 ind' ∧ (∀ post : SX → Prop, post ((nI C), (nI L), lev, (nI t), p, e, kk, kp, kf, ks, lw, lc, lo, lt, lx, ly, lk, code, ss, se, wf, ind', ch) → wpX_compare post ((nI C), (nI L), lev, (nI t), p, e, kk, kp, kf, ks, lw, lc, lo, lt, lx, ly, lk, code, ss, se, wf, ind, ch) x y) ∧
      (∀ post : SY → Prop, post ((nI C), (nI L), p, e', (nI t), kk, kp, kf, ks, lw, lc, lo, lt, lx, ly, lk, wf, ind', ch) → wY_execute_166 post (nI 5) x3 x.toInt64 y.toInt64 (nI C) (nI L) p e' (nI t) kk kp kf ks lw lc lo lt lx ly lk wf ind ch) := by
  have v0 : vp_in 0 4 := rc_v4 (n := 0) (by decide)
  have v1 : vp_in 1 4 := rc_v4 (n := 1) (by decide)
  have v2 : vp_in 2 4 := rc_v4 (n := 2) (by decide)
  by_cases h1 : x ≤ y <;> by_cases h2 : y ≤ x <;> by_cases h3 : x = y
  · exact ⟨upd (upd (upd ind (0 : Int32).toNatClampNeg (vp_nar .boolean 0)) (1 : Int32).toNatClampNeg (vp_nar .boolean 0)) 2 (vp_nar .boolean 1),
      rc_01u (rc_01u (rc_01u h01 _ (Or.inl rc_n0)) _ (Or.inl rc_n0)) _ (Or.inr rc_n1),
      fun post h => br_t h1 (And.intro v0 (nm_e (br_t h2 (And.intro v1 (nm_e (br_t h3 (nm_e h))))))),
      fun post h => br_t rfl (br_t ((rc_le64 x y).mpr h1) (And.intro v0 (nm_e (br_t ((rc_le64 y x).mpr h2) (And.intro v1 (nm_e (br_t ((rc_eq64 x y).mpr h3) (And.intro v2 (nm_e (rc_228 (by decide) h)))))))))) ⟩
  · exact ⟨upd (upd (upd ind (0 : Int32).toNatClampNeg (vp_nar .boolean 0)) (1 : Int32).toNatClampNeg (vp_nar .boolean 0)) 2 (vp_nar .boolean 0),
      rc_01u (rc_01u (rc_01u h01 _ (Or.inl rc_n0)) _ (Or.inl rc_n0)) _ (Or.inl rc_n0),
      fun post h => br_t h1 (And.intro v0 (nm_e (br_t h2 (And.intro v1 (nm_e (br_f h3 (nm_e h))))))),
      fun post h => br_t rfl (br_t ((rc_le64 x y).mpr h1) (And.intro v0 (nm_e (br_t ((rc_le64 y x).mpr h2) (And.intro v1 (nm_e (br_f (fun z => h3 ((rc_eq64 x y).mp z)) (And.intro v2 (nm_e (rc_228 (by decide) h)))))))))) ⟩
  · exact ⟨upd (upd (upd ind (0 : Int32).toNatClampNeg (vp_nar .boolean 0)) (1 : Int32).toNatClampNeg (vp_nar .boolean 1)) 2 (vp_nar .boolean 1),
      rc_01u (rc_01u (rc_01u h01 _ (Or.inl rc_n0)) _ (Or.inr rc_n1)) _ (Or.inr rc_n1),
      fun post h => br_t h1 (And.intro v0 (nm_e (br_f h2 (And.intro v1 (nm_e (br_t h3 (nm_e h))))))),
      fun post h => br_t rfl (br_t ((rc_le64 x y).mpr h1) (And.intro v0 (nm_e (br_f (fun z => h2 ((rc_le64 y x).mp z)) (And.intro v1 (nm_e (br_t ((rc_eq64 x y).mpr h3) (And.intro v2 (nm_e (rc_228 (by decide) h)))))))))) ⟩
  · exact ⟨upd (upd (upd ind (0 : Int32).toNatClampNeg (vp_nar .boolean 0)) (1 : Int32).toNatClampNeg (vp_nar .boolean 1)) 2 (vp_nar .boolean 0),
      rc_01u (rc_01u (rc_01u h01 _ (Or.inl rc_n0)) _ (Or.inr rc_n1)) _ (Or.inl rc_n0),
      fun post h => br_t h1 (And.intro v0 (nm_e (br_f h2 (And.intro v1 (nm_e (br_f h3 (nm_e h))))))),
      fun post h => br_t rfl (br_t ((rc_le64 x y).mpr h1) (And.intro v0 (nm_e (br_f (fun z => h2 ((rc_le64 y x).mp z)) (And.intro v1 (nm_e (br_f (fun z => h3 ((rc_eq64 x y).mp z)) (And.intro v2 (nm_e (rc_228 (by decide) h)))))))))) ⟩
  · exact ⟨upd (upd (upd ind (0 : Int32).toNatClampNeg (vp_nar .boolean 1)) (1 : Int32).toNatClampNeg (vp_nar .boolean 0)) 2 (vp_nar .boolean 1),
      rc_01u (rc_01u (rc_01u h01 _ (Or.inr rc_n1)) _ (Or.inl rc_n0)) _ (Or.inr rc_n1),
      fun post h => br_f h1 (And.intro v0 (nm_e (br_t h2 (And.intro v1 (nm_e (br_t h3 (nm_e h))))))),
      fun post h => br_t rfl (br_f (fun z => h1 ((rc_le64 x y).mp z)) (And.intro v0 (nm_e (br_t ((rc_le64 y x).mpr h2) (And.intro v1 (nm_e (br_t ((rc_eq64 x y).mpr h3) (And.intro v2 (nm_e (rc_228 (by decide) h)))))))))) ⟩
  · exact ⟨upd (upd (upd ind (0 : Int32).toNatClampNeg (vp_nar .boolean 1)) (1 : Int32).toNatClampNeg (vp_nar .boolean 0)) 2 (vp_nar .boolean 0),
      rc_01u (rc_01u (rc_01u h01 _ (Or.inr rc_n1)) _ (Or.inl rc_n0)) _ (Or.inl rc_n0),
      fun post h => br_f h1 (And.intro v0 (nm_e (br_t h2 (And.intro v1 (nm_e (br_f h3 (nm_e h))))))),
      fun post h => br_t rfl (br_f (fun z => h1 ((rc_le64 x y).mp z)) (And.intro v0 (nm_e (br_t ((rc_le64 y x).mpr h2) (And.intro v1 (nm_e (br_f (fun z => h3 ((rc_eq64 x y).mp z)) (And.intro v2 (nm_e (rc_228 (by decide) h)))))))))) ⟩
  · exact ⟨upd (upd (upd ind (0 : Int32).toNatClampNeg (vp_nar .boolean 1)) (1 : Int32).toNatClampNeg (vp_nar .boolean 1)) 2 (vp_nar .boolean 1),
      rc_01u (rc_01u (rc_01u h01 _ (Or.inr rc_n1)) _ (Or.inr rc_n1)) _ (Or.inr rc_n1),
      fun post h => br_f h1 (And.intro v0 (nm_e (br_f h2 (And.intro v1 (nm_e (br_t h3 (nm_e h))))))),
      fun post h => br_t rfl (br_f (fun z => h1 ((rc_le64 x y).mp z)) (And.intro v0 (nm_e (br_f (fun z => h2 ((rc_le64 y x).mp z)) (And.intro v1 (nm_e (br_t ((rc_eq64 x y).mpr h3) (And.intro v2 (nm_e (rc_228 (by decide) h)))))))))) ⟩
  · exact ⟨upd (upd (upd ind (0 : Int32).toNatClampNeg (vp_nar .boolean 1)) (1 : Int32).toNatClampNeg (vp_nar .boolean 1)) 2 (vp_nar .boolean 0),
      rc_01u (rc_01u (rc_01u h01 _ (Or.inr rc_n1)) _ (Or.inr rc_n1)) _ (Or.inl rc_n0),
      fun post h => br_f h1 (And.intro v0 (nm_e (br_f h2 (And.intro v1 (nm_e (br_f h3 (nm_e h))))))),
      fun post h => br_t rfl (br_f (fun z => h1 ((rc_le64 x y).mp z)) (And.intro v0 (nm_e (br_f (fun z => h2 ((rc_le64 y x).mp z)) (And.intro v1 (nm_e (br_f (fun z => h3 ((rc_eq64 x y).mp z)) (And.intro v2 (nm_e (rc_228 (by decide) h)))))))))) ⟩

/-- a line: from one run state both sides come to the same one; X counts ahead of it, Y within -/
theorem rc_line (hp : p = -1 ∨ ∃ q : Nat, q < 16 ∧ p = nI q) (hvc : rc_vc kk kp kf ks) (hvl : rc_vl lw lc lo lt lx ly lk) (hW : rc_W wf) (h01 : rc_01 ind) (ht : t + 8 < 2 ^ 30) {i : Nat} (hi : i < 14) :
    ∃ (t' : Nat) (wf' ind' ch' : Nat → Int32), t' ≤ t + 8 ∧ rc_W wf' ∧ rc_01 ind' ∧
      (∀ post : SX → Prop, post ((nI C), (nI L), lev, (nI t'), p, e, kk, kp, kf, ks, lw, lc, lo, lt, lx, ly, lk, code, ss, se, wf', ind', ch') → wpX_executeLine post ((nI C), (nI L), lev, (nI t), p, e, kk, kp, kf, ks, lw, lc, lo, lt, lx, ly, lk, code, ss, se, wf, ind, ch) (nI i)) ∧
      (∀ post : SY → Prop, post ((nI C), (nI L), p, (e' + 1), (nI t'), kk, kp, kf, ks, lw, lc, lo, lt, lx, ly, lk, wf', ind', ch') → wpY_execute post ((nI C), (nI L), p, e', (nI t), kk, kp, kf, ks, lw, lc, lo, lt, lx, ly, lk, wf, ind, ch) (nI i)) := by
  have vi : vp_in (nI i) 14 := vp_in_nI hi (by decide)
  have hk : ∀ j : Nat, rc_b 999 (lk j) := fun j => (hvl j).2.2.2.2.2
  obtain ⟨-, -, ⟨a, w, ha, hw, ho, htg, h67⟩, ⟨bx, hbx, ex⟩, ⟨by', hby, ey⟩, -⟩ := hvl (nI i).toNatClampNeg
  obtain ⟨x, hx, xX, xY⟩ := rc_src (C := C) (L := L) (lev := lev) (lw := lw) (lc := lc) (lo := lo) (lt := lt) (lx := lx) (ly := ly) (code := code) (ss := ss) (se := se) (t := t) (e := e) (e' := e') (ind := ind) (ch := ch) hp hvc hk hW hbx ex hi
  obtain ⟨y, hy, yX, yY⟩ := rc_src (C := C) (L := L) (lev := lev) (lw := lw) (lc := lc) (lo := lo) (lt := lt) (lx := lx) (ly := ly) (code := code) (ss := ss) (se := se) (t := t) (e := e) (e' := e') (ind := ind) (ch := ch) hp hvc hk hW hby ey hi
  by_cases h4 : a ≤ 4
  · obtain ⟨r, ind', hr, hi', cX, cY⟩ := rc_ar (C := C) (L := L) (lev := lev) (kk := kk) (kp := kp) (kf := kf) (ks := ks) (lw := lw) (lc := lc) (lo := lo) (lt := lt) (lx := lx) (ly := ly) (lk := lk) (code := code) (ss := ss) (se := se) (p := p) (t := t) (e := e) (e' := e' + 1) (wf := wf) (ch := ch) h01 h4 ho hw x y
    refine ⟨t, upd wf (nI w).toNatClampNeg r, ind', ch, by omega, rc_Wu hW _ hr, hi', fun post h => ?_, fun post h => ?_⟩
    · exact And.intro vi (And.intro vi (xX _ (And.intro vi (And.intro vi (yX _ (And.intro vi (nm_r htg (And.intro vi (nm_r ho
        (br_t (nI_lt (b := 5) (by omega) (by decide)) (And.intro vi (cX _ (And.intro (vp_in_nI (by omega) (by decide)) (nm_e h))))))))))))))
    · exact And.intro vi (nm_r ho (And.intro vi (nm_r htg (And.intro vi (xY _ (And.intro vi (yY _ (nm_e (cY _ h)))))))))
  · have a' : a = 5 ∨ a = 6 ∨ a = 7 ∨ a = 8 ∨ a = 9 := by omega
    rcases a' with rfl | rfl | rfl | rfl | rfl
    · obtain ⟨ind', hi', cX, cY⟩ := rc_cmp (C := C) (L := L) (lev := lev) (kk := kk) (kp := kp) (kf := kf) (ks := ks) (lw := lw) (lc := lc) (lo := lo) (lt := lt) (lx := lx) (ly := ly) (lk := lk) (code := code) (ss := ss) (se := se) (p := p) (t := t) (e := e) (e' := e' + 1) (wf := wf) (ch := ch) h01 x y (x3 := nI w)
      exact ⟨t, wf, ind', ch, by omega, hW, hi', fun post h => And.intro vi (And.intro vi (xX _ (And.intro vi (And.intro vi (yX _ (And.intro vi (nm_r htg (And.intro vi (nm_r ho (br_f (by decide) (br_f (by decide) (br_t rfl (cX _ h))))))))))))),
        fun post h => And.intro vi (nm_r ho (And.intro vi (nm_r htg (And.intro vi (xY _ (And.intro vi (yY _ (nm_e (br_f (by decide) (br_t (by decide) (cY _ h)))))))))))⟩
    · have hw3 : w ≤ 3 := h67 (by decide)
      have ew : nI w &&& 3 = nI w := rc_and3 hw3
      refine ⟨t, wf, upd ind (nI w).toNatClampNeg (vp_nar .boolean 1), ch, by omega, hW, rc_01u h01 _ (Or.inr rc_n1), fun post h => And.intro vi (And.intro vi (xX _ (And.intro vi (And.intro vi (yX _ (And.intro vi (nm_r htg (And.intro vi (nm_r ho (br_f (by decide) (br_f (by decide) (br_f (by decide) (br_t rfl (And.intro (vp_in_nI (by omega) (by decide)) (nm_e h))))))))))))))), fun post h => ?_⟩
      have k258 : wY_execute_258 post (nI 6) x.toInt64 1 (nI w &&& 3) (nI C) (nI L) p (e' + 1) (nI t) kk kp kf ks lw lc lo lt lx ly lk wf ind ch := by
        rw [ew]
        exact And.intro (vp_in_nI (by omega) (by decide)) (nm_e (br_f (by decide) (br_f (by decide) h)))
      exact And.intro vi (nm_r ho (And.intro vi (nm_r htg (And.intro vi (xY _ (And.intro vi (yY _ (nm_e (br_f (by decide) (br_t (by decide) (br_f (by decide) (br_t rfl (br_t rfl (k258))))))))))))))
    · have hw3 : w ≤ 3 := h67 (by decide)
      have ew : nI w &&& 3 = nI w := rc_and3 hw3
      refine ⟨t, wf, upd ind (nI w).toNatClampNeg (vp_nar .boolean 0), ch, by omega, hW, rc_01u h01 _ (Or.inl rc_n0), fun post h => And.intro vi (And.intro vi (xX _ (And.intro vi (And.intro vi (yX _ (And.intro vi (nm_r htg (And.intro vi (nm_r ho (br_f (by decide) (br_f (by decide) (br_f (by decide) (br_f (by decide) (br_t rfl (And.intro (vp_in_nI (by omega) (by decide)) (nm_e h)))))))))))))))), fun post h => ?_⟩
      have k258 : wY_execute_258 post (nI 7) x.toInt64 0 (nI w &&& 3) (nI C) (nI L) p (e' + 1) (nI t) kk kp kf ks lw lc lo lt lx ly lk wf ind ch := by
        rw [ew]
        exact And.intro (vp_in_nI (by omega) (by decide)) (nm_e (br_f (by decide) (br_f (by decide) h)))
      exact And.intro vi (nm_r ho (And.intro vi (nm_r htg (And.intro vi (xY _ (And.intro vi (yY _ (nm_e (br_f (by decide) (br_t (by decide) (br_f (by decide) (br_f (by decide) (br_t rfl (br_f (by decide) (k258)))))))))))))))
    · obtain ⟨t', ch', hb, cX, cY⟩ := rc_print (C := C) (L := L) (lev := lev) (kk := kk) (kp := kp) (kf := kf) (ks := ks) (lw := lw) (lc := lc) (lo := lo) (lt := lt) (lx := lx) (ly := ly) (lk := lk) (code := code) (ss := ss) (se := se) (p := p) (e := e) (e' := e' + 1) (wf := wf) (ind := ind) (ch := ch) ht hx
      refine ⟨t', wf, ind, ch', hb, hW, h01, fun post h => And.intro vi (And.intro vi (xX _ (And.intro vi (And.intro vi (yX _ (And.intro vi (nm_r htg (And.intro vi (nm_r ho (br_f (by decide) (br_f (by decide) (br_f (by decide) (br_f (by decide) (br_f (by decide) (br_t rfl (cX _ h)))))))))))))))), fun post h => ?_⟩
      have k259 : wY_execute_259 post (nI 8) x.toInt64 (nI C) (nI L) p (e' + 1) (nI t) kk kp kf ks lw lc lo lt lx ly lk wf ind ch := by
        refine br_t rfl ?_
        rw [rc_i64]
        exact cY _ (br_f (by decide) h)
      exact And.intro vi (nm_r ho (And.intro vi (nm_r htg (And.intro vi (xY _ (And.intro vi (yY _ (nm_e (br_f (by decide) (br_t (by decide) (br_f (by decide) (br_f (by decide) (br_f (by decide) k259)))))))))))))
    · exact ⟨t + 1, wf, ind, rc_ch t ch 10, by omega, hW, h01, fun post h => And.intro vi (And.intro vi (xX _ (And.intro vi (And.intro vi (yX _ (And.intro vi (nm_r htg (And.intro vi (nm_r ho (br_f (by decide) (br_f (by decide) (br_f (by decide) (br_f (by decide) (br_f (by decide) (br_f (by decide) (br_t rfl (rc_aX (by omega) h))))))))))))))))),
        fun post h => And.intro vi (nm_r ho (And.intro vi (nm_r htg (And.intro vi (xY _ (And.intro vi (yY _ (nm_e (br_f (by decide) (br_t (by decide) (br_f (by decide) (br_f (by decide) (br_f (by decide) (br_f (by decide) (br_t rfl (rc_aY (by omega) h))))))))))))))))⟩
end
end
section
/-! a section: both sides execute the same list of lines -/
abbrev rc_R : Type := Nat × Int32 × (Nat → Int32) × (Nat → Int32) × (Nat → Int32)
def rc_I (B : Nat) (R : rc_R) : Prop := R.1 ≤ B ∧ rc_W R.2.2.1 ∧ rc_01 R.2.2.2.1
/-- the lines of one when among the d lines that g names from place i on -/
def rc_ls (g : Nat → Nat) (lw : Nat → Int32) (w : Int32) : Nat → Nat → List Nat
  | 0, _ => []
  | d + 1, i => if lw (g i) = w then g i :: rc_ls g lw w d (i + 1) else rc_ls g lw w d (i + 1)
theorem rc_ls_len (g : Nat → Nat) (lw : Nat → Int32) (w : Int32) : ∀ d i : Nat, (rc_ls g lw w d i).length ≤ d := by
  intro d
  induction d with
  | zero => intro i; exact Nat.le_refl 0
  | succ d ih =>
    intro i
    have h := ih (i + 1)
    show (if lw (g i) = w then g i :: rc_ls g lw w d (i + 1) else rc_ls g lw w d (i + 1)).length ≤ d + 1
    by_cases z : lw (g i) = w
    · rw [if_pos z, List.length_cons]
      omega
    · rw [if_neg z]
      omega
theorem rc_ls_mem (lw : Nat → Int32) (w : Int32) : ∀ d i : Nat, ∀ j ∈ rc_ls (fun j => j) lw w d i, j < i + d := by
  intro d
  induction d with
  | zero => intro i j h; exact absurd h List.not_mem_nil
  | succ d ih =>
    intro i j h
    have h' : j ∈ (if lw i = w then i :: rc_ls (fun j => j) lw w d (i + 1) else rc_ls (fun j => j) lw w d (i + 1)) := h
    by_cases z : lw i = w
    · rw [if_pos z] at h'
      rcases List.mem_cons.mp h' with rfl | h2
      · omega
      · have := ih (i + 1) j h2
        omega
    · rw [if_neg z] at h'
      have := ih (i + 1) j h'
      omega
theorem rc_ls_congr {g g' : Nat → Nat} {lw : Nat → Int32} {w : Int32} : ∀ d i : Nat, (∀ j, i ≤ j → j < i + d → g j = g' j) → rc_ls g lw w d i = rc_ls g' lw w d i := by
  intro d
  induction d with
  | zero => intro i _; rfl
  | succ d ih =>
    intro i h
    have h1 := ih (i + 1) (fun j a b => h j (by omega) (by omega))
    have h2 := h i (Nat.le_refl i) (by omega)
    show (if lw (g i) = w then g i :: rc_ls g lw w d (i + 1) else rc_ls g lw w d (i + 1)) = (if lw (g' i) = w then g' i :: rc_ls g' lw w d (i + 1) else rc_ls g' lw w d (i + 1))
    rw [h1, h2]

section
variable {C L : Nat} {lev : Int32} {kk kp kf ks lw lc lo lt lx ly lk code ss se : Nat → Int32} {p : Int32}

def rc_go (C L : Nat) (lev : Int32) (kk kp kf ks lw lc lo lt lx ly lk code ss se : Nat → Int32) (p : Int32) (R : rc_R) (i : Nat) (R' : rc_R) : Prop :=
  ∃ r : Int32, (∀ post : Int32 → Prop, post r → wpX_conditionHolds post ((nI C), (nI L), lev, (nI R.1), p, R.2.1, kk, kp, kf, ks, lw, lc, lo, lt, lx, ly, lk, code, ss, se, R.2.2.1, R.2.2.2.1, R.2.2.2.2) (lc (nI i).toNatClampNeg)) ∧ (∀ post : Int32 → Prop, post r → wpY_isMet post ((nI C), (nI L), p, R.2.1, (nI R.1), kk, kp, kf, ks, lw, lc, lo, lt, lx, ly, lk, R.2.2.1, R.2.2.2.1, R.2.2.2.2) (lc (nI i).toNatClampNeg)) ∧
    ((r = 0 ∧ R' = R) ∨ (¬ r = 0 ∧ (∀ post : SX → Prop, post ((nI C), (nI L), lev, (nI R'.1), p, R'.2.1, kk, kp, kf, ks, lw, lc, lo, lt, lx, ly, lk, code, ss, se, R'.2.2.1, R'.2.2.2.1, R'.2.2.2.2) → wpX_executeLine post ((nI C), (nI L), lev, (nI R.1), p, (R.2.1 + 1), kk, kp, kf, ks, lw, lc, lo, lt, lx, ly, lk, code, ss, se, R.2.2.1, R.2.2.2.1, R.2.2.2.2) (nI i)) ∧ (∀ post : SY → Prop, post ((nI C), (nI L), p, R'.2.1, (nI R'.1), kk, kp, kf, ks, lw, lc, lo, lt, lx, ly, lk, R'.2.2.1, R'.2.2.2.1, R'.2.2.2.2) → wpY_execute post ((nI C), (nI L), p, R.2.1, (nI R.1), kk, kp, kf, ks, lw, lc, lo, lt, lx, ly, lk, R.2.2.1, R.2.2.2.1, R.2.2.2.2) (nI i))))
def rc_fo (C L : Nat) (lev : Int32) (kk kp kf ks lw lc lo lt lx ly lk code ss se : Nat → Int32) (p : Int32) : List Nat → rc_R → rc_R → Prop
  | [], R, R' => R' = R
  | i :: l, R, R' => ∃ R1 : rc_R, rc_go C L lev kk kp kf ks lw lc lo lt lx ly lk code ss se p R i R1 ∧ rc_fo C L lev kk kp kf ks lw lc lo lt lx ly lk code ss se p l R1 R'

theorem rc_go_ex (hp : p = -1 ∨ ∃ q : Nat, q < 16 ∧ p = nI q) (hvc : rc_vc kk kp kf ks) (hvl : rc_vl lw lc lo lt lx ly lk) {B : Nat} {R : rc_R} (hR : rc_I B R) (hB : B + 8 < 2 ^ 30) {i : Nat} (hi : i < 14) :
    ∃ R' : rc_R, rc_go C L lev kk kp kf ks lw lc lo lt lx ly lk code ss se p R i R' ∧ rc_I (B + 8) R' := by
  obtain ⟨t, e, wf, ind, ch⟩ := R
  obtain ⟨h1, h2, h3⟩ := hR
  have h1' : t ≤ B := h1
  obtain ⟨-, ⟨a, ha, ea⟩, -⟩ := hvl (nI i).toNatClampNeg
  obtain ⟨r, cX, cY⟩ := rc_cond (C := C) (L := L) (lev := lev) (kk := kk) (kp := kp) (kf := kf) (ks := ks) (lw := lw) (lc := lc) (lo := lo) (lt := lt) (lx := lx) (ly := ly) (lk := lk) (code := code) (ss := ss) (se := se) (p := p) (t := t) (e := e) (e' := e) (wf := wf) (ch := ch) h3 ha ea
  by_cases hr : r = 0
  · exact ⟨(t, e, wf, ind, ch), ⟨r, cX, cY, Or.inl ⟨hr, rfl⟩⟩, Nat.le_add_right_of_le h1', h2, h3⟩
  · obtain ⟨t', wf', ind', ch', b1, b2, b3, lX, lY⟩ := rc_line (C := C) (L := L) (lev := lev) (code := code) (ss := ss) (se := se) (t := t) (e := e + 1) (e' := e) (ch := ch) hp hvc hvl h2 h3 (by omega) hi
    exact ⟨(t', e + 1, wf', ind', ch'), ⟨r, cX, cY, Or.inr ⟨hr, lX, lY⟩⟩, (by omega : t' ≤ B + 8), b2, b3⟩
theorem rc_fo_ex (hp : p = -1 ∨ ∃ q : Nat, q < 16 ∧ p = nI q) (hvc : rc_vc kk kp kf ks) (hvl : rc_vl lw lc lo lt lx ly lk) : ∀ (l : List Nat) (B : Nat) (R : rc_R), (∀ i ∈ l, i < 14) → rc_I B R → B + 8 * l.length < 2 ^ 30 →
    ∃ R' : rc_R, rc_fo C L lev kk kp kf ks lw lc lo lt lx ly lk code ss se p l R R' ∧ rc_I (B + 8 * l.length) R' := by
  intro l
  induction l with
  | nil => intro B R _ hR _; exact ⟨R, rfl, hR⟩
  | cons i l ih =>
    intro B R hl hR hB
    rw [List.length_cons] at hB
    obtain ⟨R1, g1, i1⟩ := rc_go_ex (C := C) (L := L) (lev := lev) (code := code) (ss := ss) (se := se) hp hvc hvl hR (by omega) (hl i (List.mem_cons_self))
    obtain ⟨R2, g2, i2⟩ := ih (B + 8) R1 (fun j hj => hl j (List.mem_cons_of_mem i hj)) i1 (by omega)
    refine ⟨R2, ⟨R1, g1, g2⟩, ?_⟩
    rw [List.length_cons]
    have e : B + 8 * (l.length + 1) = B + 8 + 8 * l.length := by omega
    rw [e]
    exact i2

theorem rc_sX {w E : Nat} (hE : E ≤ 14) {post : SX → Prop} : ∀ (d n i : Nat) (R R' : rc_R), i + d = E → d < n → (∀ j, i ≤ j → j < E → ∃ q : Nat, q < 14 ∧ code j = nI q) →
    rc_fo C L lev kk kp kf ks lw lc lo lt lx ly lk code ss se p (rc_ls (fun j => (code j).toNatClampNeg) lw (nI w) d i) R R' → post ((nI C), (nI L), lev, (nI R'.1), p, R'.2.1, kk, kp, kf, ks, lw, lc, lo, lt, lx, ly, lk, code, ss, se, R'.2.2.1, R'.2.2.2.1, R'.2.2.2.2) → wX_executeSection_14 post (nI w) (nI E) n (nI i) (nI C) (nI L) lev (nI R.1) p R.2.1 kk kp kf ks lw lc lo lt lx ly lk code ss se R.2.2.1 R.2.2.2.1 R.2.2.2.2 := by
  intro d
  induction d with
  | zero =>
    intro n i R R' hi hn _ hf h
    obtain ⟨n, rfl⟩ : ∃ m, n = m + 1 := ⟨n - 1, by omega⟩
    have hf' : R' = R := hf
    subst hf'
    exact br_t (nI_le (by omega) (by omega)) h
  | succ d ih =>
    intro n i R R' hi hn hc hf h
    obtain ⟨n, rfl⟩ : ∃ m, n = m + 1 := ⟨n - 1, by omega⟩
    obtain ⟨q, hq, eq⟩ := hc i (Nat.le_refl i) (by omega)
    have ci : (nI i).toNatClampNeg = i := nI_clamp (by omega)
    have cq : (nI q).toNatClampNeg = q := nI_clamp (by omega)
    have vq : vp_in (nI q) 14 := vp_in_nI hq (by decide)
    have ec : code (nI i).toNatClampNeg = nI q := by rw [ci, eq]
    have hf' : rc_fo C L lev kk kp kf ks lw lc lo lt lx ly lk code ss se p (if lw (code i).toNatClampNeg = nI w then (code i).toNatClampNeg :: rc_ls (fun j => (code j).toNatClampNeg) lw (nI w) d (i + 1) else rc_ls (fun j => (code j).toNatClampNeg) lw (nI w) d (i + 1)) R R' := hf
    rw [eq, cq] at hf'
    have hc' : ∀ j, i + 1 ≤ j → j < E → ∃ q : Nat, q < 14 ∧ code j = nI q := fun j a b => hc j (by omega) b
    refine br_f (nI_ge (by omega) (by omega)) (And.intro (vp_in_nI (by omega) (by decide)) (nm_r ec (And.intro vq ?_)))
    by_cases hw : lw q = nI w
    · rw [if_pos hw] at hf'
      obtain ⟨R1, ⟨r, cX, cY, hg⟩, hf2⟩ := hf'
      refine br_t (by rw [cq]; exact hw) (And.intro vq ?_)
      rcases hg with ⟨hr, rfl⟩ | ⟨hr, lX, lY⟩
      · exact cX _ (br_t hr (nm_r (nI_1 i) (ih n (i + 1) _ R' (by omega) (by omega) hc' hf2 h)))
      · exact cX _ (br_f hr (nm_e (lX _ (nm_r (nI_1 i) (ih n (i + 1) R1 R' (by omega) (by omega) hc' hf2 h)))))
    · rw [if_neg hw] at hf'
      exact br_f (by rw [cq]; exact hw) (nm_r (nI_1 i) (ih n (i + 1) R R' (by omega) (by omega) hc' hf' h))

theorem rc_sY {w : Nat} (hL : L ≤ 14) {post : SY → Prop} : ∀ (d n i : Nat) (R R' : rc_R), i + d = L → d < n →
    rc_fo C L lev kk kp kf ks lw lc lo lt lx ly lk code ss se p (rc_ls (fun j => j) lw (nI w) d i) R R' → post ((nI C), (nI L), p, R'.2.1, (nI R'.1), kk, kp, kf, ks, lw, lc, lo, lt, lx, ly, lk, R'.2.2.1, R'.2.2.2.1, R'.2.2.2.2) → wY_all_2 post (nI w) n (nI i) (nI C) (nI L) p R.2.1 (nI R.1) kk kp kf ks lw lc lo lt lx ly lk R.2.2.1 R.2.2.2.1 R.2.2.2.2 := by
  intro d
  induction d with
  | zero =>
    intro n i R R' hi hn hf h
    obtain ⟨n, rfl⟩ : ∃ m, n = m + 1 := ⟨n - 1, by omega⟩
    have hf' : R' = R := hf
    subst hf'
    exact br_t (nI_le (by omega) (by omega)) h
  | succ d ih =>
    intro n i R R' hi hn hf h
    obtain ⟨n, rfl⟩ : ∃ m, n = m + 1 := ⟨n - 1, by omega⟩
    have ci : (nI i).toNatClampNeg = i := nI_clamp (by omega)
    have vi : vp_in (nI i) 14 := vp_in_nI (by omega) (by decide)
    have hf' : rc_fo C L lev kk kp kf ks lw lc lo lt lx ly lk code ss se p (if lw i = nI w then i :: rc_ls (fun j => j) lw (nI w) d (i + 1) else rc_ls (fun j => j) lw (nI w) d (i + 1)) R R' := hf
    refine br_f (nI_ge (by omega) (by omega)) (And.intro vi ?_)
    by_cases hw : lw i = nI w
    · rw [if_pos hw] at hf'
      obtain ⟨R1, ⟨r, cX, cY, hg⟩, hf2⟩ := hf'
      refine br_t (by rw [ci]; exact hw) (And.intro vi ?_)
      rcases hg with ⟨hr, rfl⟩ | ⟨hr, lX, lY⟩
      · exact cY _ (br_t hr (nm_r (nI_1 i) (ih n (i + 1) _ R' (by omega) (by omega) hf2 h)))
      · exact cY _ (br_f hr (lY _ (nm_r (nI_1 i) (ih n (i + 1) R1 R' (by omega) (by omega) hf2 h))))
    · rw [if_neg hw] at hf'
      exact br_f (by rw [ci]; exact hw) (nm_r (nI_1 i) (ih n (i + 1) R R' (by omega) (by omega) hf' h))

/-- the code is compiled: section w, passed over from its start to its end, has the lines of when w in their order -/
def rc_ok (L : Nat) (lw code ss se : Nat → Int32) : Prop := ∀ w : Nat, w < 4 → ∃ s d : Nat, ss w = nI s ∧ se w = nI (s + d) ∧ s + d ≤ 14 ∧
  (∀ j, s ≤ j → j < s + d → ∃ q : Nat, q < 14 ∧ code j = nI q) ∧ rc_ls (fun j => (code j).toNatClampNeg) lw (nI w) d s = rc_ls (fun j => j) lw (nI w) L 0

theorem rc_sec (hok : rc_ok L lw code ss se) (hL : L ≤ 14) (hp : p = -1 ∨ ∃ q : Nat, q < 16 ∧ p = nI q) (hvc : rc_vc kk kp kf ks) (hvl : rc_vl lw lc lo lt lx ly lk) {w : Nat} (hw : w < 4) {B : Nat} {R : rc_R} (hR : rc_I B R) (hB : B + 112 < 2 ^ 30) :
    ∃ R' : rc_R, rc_I (B + 112) R' ∧ (∀ post : SX → Prop, post ((nI C), (nI L), lev, (nI R'.1), p, R'.2.1, kk, kp, kf, ks, lw, lc, lo, lt, lx, ly, lk, code, ss, se, R'.2.2.1, R'.2.2.2.1, R'.2.2.2.2) → wpX_executeSection post ((nI C), (nI L), lev, (nI R.1), p, R.2.1, kk, kp, kf, ks, lw, lc, lo, lt, lx, ly, lk, code, ss, se, R.2.2.1, R.2.2.2.1, R.2.2.2.2) (nI w)) ∧ (∀ post : SY → Prop, post ((nI C), (nI L), p, R'.2.1, (nI R'.1), kk, kp, kf, ks, lw, lc, lo, lt, lx, ly, lk, R'.2.2.1, R'.2.2.2.1, R'.2.2.2.2) → wpY_all post ((nI C), (nI L), p, R.2.1, (nI R.1), kk, kp, kf, ks, lw, lc, lo, lt, lx, ly, lk, R.2.2.1, R.2.2.2.1, R.2.2.2.2) (nI w)) := by
  obtain ⟨s, d, es, ee, hd, hc, hls⟩ := hok w hw
  have hlen := rc_ls_len (fun j => j) lw (nI w) L 0
  obtain ⟨R', hf, hI⟩ := rc_fo_ex (C := C) (L := L) (lev := lev) (code := code) (ss := ss) (se := se) hp hvc hvl (rc_ls (fun j => j) lw (nI w) L 0) B R (fun i hi => by have := rc_ls_mem lw (nI w) L 0 i hi; omega) hR (by omega)
  have cw : (nI w).toNatClampNeg = w := nI_clamp (by omega)
  have vw : vp_in (nI w) 4 := vp_in_nI hw (by decide)
  refine ⟨R', ⟨by have := hI.1; omega, hI.2⟩, fun post h => ?_, fun post h => ?_⟩
  · have hf2 := hf
    rw [← hls] at hf2
    exact And.intro vw (nm_r (by rw [cw]; exact ee) (And.intro vw (nm_r (by rw [cw]; exact es) ⟨d + 1, rc_sX hd d (d + 1) s R R' rfl (by omega) hc hf2 h⟩)))
  · exact ⟨L + 1, rc_sY hL L (L + 1) 0 R R' (by omega) (by omega) hf h⟩
end
end
section
/-! what a run begins with, and compiling -/
def rc_z (n : Nat) (f : Nat → Int32) : Nat → Int32 := fun j => if j < n then 0 else f j
theorem rc_z0 (f : Nat → Int32) : rc_z 0 f = f := funext fun j => if_neg (Nat.not_lt_zero j)
theorem rc_zs {i : Nat} (hi : i < 2 ^ 31) (f : Nat → Int32) : upd (rc_z i f) (nI i).toNatClampNeg 0 = rc_z (i + 1) f := by
  rw [nI_clamp hi]
  funext j
  show (if j = i then 0 else if j < i then 0 else f j) = if j < i + 1 then 0 else f j
  by_cases h1 : j = i
  · rw [if_pos h1, if_pos (by omega)]
  · by_cases h2 : j < i
    · rw [if_neg h1, if_pos h2, if_pos (by omega)]
    · rw [if_neg h1, if_neg h2, if_neg (by omega)]
theorem rc_zW {f : Nat → Int32} (n : Nat) (h : rc_W f) : rc_W (rc_z n f) := by
  intro j
  show rc_b 999999 (if j < n then 0 else f j)
  by_cases z : j < n
  · rw [if_pos z]
    exact rc_b_0 (by decide)
  · rw [if_neg z]
    exact h j
theorem rc_z01 {f : Nat → Int32} (n : Nat) (h : rc_01 f) : rc_01 (rc_z n f) := by
  intro j
  show (if j < n then 0 else f j) = 0 ∨ (if j < n then 0 else f j) = 1
  by_cases z : j < n
  · rw [if_pos z]
    exact Or.inl rfl
  · rw [if_neg z]
    exact h j

section
variable {C L : Nat} {lev : Int32} {kk kp kf ks lw lc lo lt lx ly lk code ss se : Nat → Int32} {p : Int32} {t : Nat} {e e' : Int32} {wf ind ch : Nat → Int32}

theorem rc_bX23 {post : SX → Prop} (h : post ((nI C), (nI L), lev, (nI 0), (-1), 0, kk, kp, kf, ks, lw, lc, lo, lt, lx, ly, lk, code, ss, se, wf, (rc_z 4 ind), ch)) : ∀ d i : Nat, i + d = 4 → wX_beginRun_23 post (nI C) (nI L) lev (nI t) p e (d + 1) (nI i) kk kp kf ks lw lc lo lt lx ly lk code ss se wf (rc_z i ind) ch := by
  intro d
  induction d with
  | zero =>
    intro i hi
    have h4 : i = 4 := hi
    subst h4
    exact br_t (by decide) h
  | succ d ih =>
    intro i hi
    exact br_f (nI_ge (b := 4) (by omega) (by decide)) (And.intro (vp_in_nI (by omega) (by decide)) (nm_r (rc_zs (by omega) ind) (nm_r (nI_1 i) (ih (i + 1) (by omega)))))
theorem rc_bX2 {post : SX → Prop} (h : post ((nI C), (nI L), lev, (nI 0), (-1), 0, kk, kp, kf, ks, lw, lc, lo, lt, lx, ly, lk, code, ss, se, (rc_z 6 wf), (rc_z 4 ind), ch)) : ∀ d i : Nat, i + d = 6 → wX_beginRun_2 post (nI C) (nI L) lev (nI t) p e (d + 1) (nI i) kk kp kf ks lw lc lo lt lx ly lk code ss se (rc_z i wf) ind ch := by
  intro d
  induction d with
  | zero =>
    intro i hi
    have h4 : i = 6 := hi
    subst h4
    have g := rc_bX23 (p := p) (t := t) (e := e) h 4 0 (by decide)
    rw [rc_z0] at g
    exact br_t (by decide) ⟨5, g⟩
  | succ d ih =>
    intro i hi
    exact br_f (nI_ge (b := 6) (by omega) (by decide)) (And.intro (vp_in_nI (by omega) (by decide)) (nm_r (rc_zs (by omega) wf) (nm_r (nI_1 i) (ih (i + 1) (by omega)))))
theorem rc_bX {post : SX → Prop} (h : post ((nI C), (nI L), lev, (nI 0), (-1), 0, kk, kp, kf, ks, lw, lc, lo, lt, lx, ly, lk, code, ss, se, (rc_z 6 wf), (rc_z 4 ind), ch)) : wpX_beginRun post ((nI C), (nI L), lev, (nI t), p, e, kk, kp, kf, ks, lw, lc, lo, lt, lx, ly, lk, code, ss, se, wf, ind, ch) := by
  have g := rc_bX2 (p := p) (t := t) (e := e) h 6 0 (by decide)
  rw [rc_z0] at g
  exact ⟨7, g⟩
theorem rc_bY23 {post : Int32 → SY → Prop} (h : ∃ n : Nat, wY_run_58 post n (nI 0) (nI C) (nI L) (-1) 0 (nI 0) kk kp kf ks lw lc lo lt lx ly lk wf (rc_z 4 ind) ch) : ∀ d i : Nat, i + d = 4 → wY_run_23 post (nI C) (nI L) p e (nI t) (d + 1) (nI i) kk kp kf ks lw lc lo lt lx ly lk wf (rc_z i ind) ch := by
  intro d
  induction d with
  | zero =>
    intro i hi
    have h4 : i = 4 := hi
    subst h4
    exact br_t (by decide) h
  | succ d ih =>
    intro i hi
    exact br_f (nI_ge (b := 4) (by omega) (by decide)) (And.intro (vp_in_nI (by omega) (by decide)) (nm_r (rc_zs (by omega) ind) (nm_r (nI_1 i) (ih (i + 1) (by omega)))))
theorem rc_bY2 {post : Int32 → SY → Prop} (h : ∃ n : Nat, wY_run_58 post n (nI 0) (nI C) (nI L) (-1) 0 (nI 0) kk kp kf ks lw lc lo lt lx ly lk (rc_z 6 wf) (rc_z 4 ind) ch) : ∀ d i : Nat, i + d = 6 → wY_run_2 post (nI C) (nI L) p e (nI t) (d + 1) (nI i) kk kp kf ks lw lc lo lt lx ly lk (rc_z i wf) ind ch := by
  intro d
  induction d with
  | zero =>
    intro i hi
    have h4 : i = 6 := hi
    subst h4
    have g := rc_bY23 (p := p) (t := t) (e := e) h 4 0 (by decide)
    rw [rc_z0] at g
    exact br_t (by decide) ⟨5, g⟩
  | succ d ih =>
    intro i hi
    exact br_f (nI_ge (b := 6) (by omega) (by decide)) (And.intro (vp_in_nI (by omega) (by decide)) (nm_r (rc_zs (by omega) wf) (nm_r (nI_1 i) (ih (i + 1) (by omega)))))
theorem rc_bY {post : Int32 → SY → Prop} (h : ∃ n : Nat, wY_run_58 post n (nI 0) (nI C) (nI L) (-1) 0 (nI 0) kk kp kf ks lw lc lo lt lx ly lk (rc_z 6 wf) (rc_z 4 ind) ch) : wpY_run post ((nI C), (nI L), p, e, (nI t), kk, kp, kf, ks, lw, lc, lo, lt, lx, ly, lk, wf, ind, ch) := by
  have g := rc_bY2 (p := p) (t := t) (e := e) h 6 0 (by decide)
  rw [rc_z0] at g
  exact ⟨7, g⟩

/-! level 0: all lines in every section -/
theorem rc_cW25 (hL : L ≤ 14) {post : SX → Prop} (hc : ∀ j, j < L → code j = nI j) (H : ∀ ss' se' : Nat → Int32, (∀ j, j < 4 → ss' j = nI 0 ∧ se' j = nI L) → post ((nI C), (nI L), lev, (nI t), p, e, kk, kp, kf, ks, lw, lc, lo, lt, lx, ly, lk, code, ss', se', wf, ind, ch)) :
    ∀ (d i : Nat) (ss se : Nat → Int32), i + d = 4 → (∀ j, j < i → ss j = nI 0 ∧ se j = nI L) → wX_compileWhole_25 post (nI C) (nI L) lev (nI t) p e (d + 1) (nI i) kk kp kf ks lw lc lo lt lx ly lk code ss se wf ind ch := by
  intro d
  induction d with
  | zero =>
    intro i ss se hi hs
    have h4 : i = 4 := hi
    subst h4
    exact br_t (by decide) (H ss se hs)
  | succ d ih =>
    intro i ss se hi hs
    have ci : (nI i).toNatClampNeg = i := nI_clamp (by omega)
    have vi : vp_in (nI i) 4 := vp_in_nI (by omega) (by decide)
    refine br_f (nI_ge (b := 4) (by omega) (by decide)) (And.intro vi (nm_e (And.intro vi (nm_e (nm_r (nI_1 i) (ih (i + 1) _ _ (by omega) ?_))))))
    intro j hj
    rw [ci]
    by_cases z : j = i
    · subst z
      rw [pk_us, pk_us]
      exact ⟨rfl, rfl⟩
    · rw [pk_un z, pk_un z]
      exact hs j (by omega)
theorem rc_cW2 (hL : L ≤ 14) {post : SX → Prop} (H : ∀ code' ss' se' : Nat → Int32, (∀ j, j < L → code' j = nI j) → (∀ j, j < 4 → ss' j = nI 0 ∧ se' j = nI L) → post ((nI C), (nI L), lev, (nI t), p, e, kk, kp, kf, ks, lw, lc, lo, lt, lx, ly, lk, code', ss', se', wf, ind, ch)) :
    ∀ (d i : Nat) (code : Nat → Int32), i + d = L → (∀ j, j < i → code j = nI j) → wX_compileWhole_2 post (nI C) (nI L) lev (nI t) p e (d + 1) (nI i) kk kp kf ks lw lc lo lt lx ly lk code ss se wf ind ch := by
  intro d
  induction d with
  | zero =>
    intro i code hi hc
    have h4 : i = L := hi
    subst h4
    exact br_t (nI_le (Nat.le_refl _) (by omega)) ⟨5, rc_cW25 hL hc (fun ss' se' h => H code ss' se' hc h) 4 0 ss se (by decide) (fun j hj => absurd hj (Nat.not_lt_zero j))⟩
  | succ d ih =>
    intro i code hi hc
    have ci : (nI i).toNatClampNeg = i := nI_clamp (by omega)
    refine br_f (nI_ge (by omega) (by omega)) (And.intro (vp_in_nI (by omega) (by decide)) (nm_e (nm_r (nI_1 i) (ih (i + 1) _ (by omega) ?_))))
    intro j hj
    rw [ci]
    by_cases z : j = i
    · subst z
      rw [pk_us]
    · rw [pk_un z]
      exact hc j (by omega)
theorem rc_okW (hL : L ≤ 14) {code ss se : Nat → Int32} (hc : ∀ j, j < L → code j = nI j) (hs : ∀ j, j < 4 → ss j = nI 0 ∧ se j = nI L) : rc_ok L lw code ss se := by
  intro w hw
  refine ⟨0, L, (hs w hw).1, ?_, by omega, fun j _ hj => ⟨j, by omega, hc j (by omega)⟩, rc_ls_congr L 0 (fun j _ hj => ?_)⟩
  · rw [Nat.zero_add]
    exact (hs w hw).2
  · show (code j).toNatClampNeg = j
    rw [hc j (by omega)]
    exact nI_clamp (by omega)
end
end
section
/-! level 1: the lines of one when stand together -/
def rc_cf (lw : Nat → Int32) (w : Nat) : Nat → Nat → Nat
  | 0, _ => 0
  | d + 1, i => (if lw i = nI w then 1 else 0) + rc_cf lw w d (i + 1)
theorem rc_cf4 {lw : Nat → Int32} (h : ∀ j : Nat, ∃ a : Nat, a ≤ 3 ∧ lw j = nI a) : ∀ d i : Nat, rc_cf lw 0 d i + (rc_cf lw 1 d i + (rc_cf lw 2 d i + (rc_cf lw 3 d i + 0))) ≤ d := by
  intro d
  induction d with
  | zero => intro i; exact Nat.le_refl 0
  | succ d ih =>
    intro i
    have h1 := ih (i + 1)
    obtain ⟨a, ha, ea⟩ := h i
    show ((if lw i = nI 0 then 1 else 0) + rc_cf lw 0 d (i + 1)) + (((if lw i = nI 1 then 1 else 0) + rc_cf lw 1 d (i + 1)) + (((if lw i = nI 2 then 1 else 0) + rc_cf lw 2 d (i + 1)) + (((if lw i = nI 3 then 1 else 0) + rc_cf lw 3 d (i + 1)) + 0))) ≤ d + 1
    rw [ea]
    have ha' : a = 0 ∨ a = 1 ∨ a = 2 ∨ a = 3 := by omega
    rcases ha' with rfl | rfl | rfl | rfl
    · rw [if_pos rfl, if_neg (by decide), if_neg (by decide), if_neg (by decide)]
      omega
    · rw [if_neg (by decide), if_pos rfl, if_neg (by decide), if_neg (by decide)]
      omega
    · rw [if_neg (by decide), if_neg (by decide), if_pos rfl, if_neg (by decide)]
      omega
    · rw [if_neg (by decide), if_neg (by decide), if_neg (by decide), if_pos rfl]
      omega
theorem rc_ux {f : Nat → Int32} {i : Nat} {x : Int32} (h : i < 2 ^ 31) : upd f (nI i).toNatClampNeg x = upd f i x := by rw [nI_clamp h]
/-- what is wanted still in the sections from w on -/
def rc_cs (lw : Nat → Int32) (L : Nat) : Nat → Nat → Nat
  | 0, _ => 0
  | d + 1, w => rc_cf lw w L 0 + rc_cs lw L d (w + 1)

section
variable {C L : Nat} {lev : Int32} {kk kp kf ks lw lc lo lt lx ly lk code ss se : Nat → Int32} {p : Int32} {t : Nat} {e e' : Int32} {wf ind ch : Nat → Int32}

theorem rc_c18 {w : Nat} (hw : w < 4) (hL : L ≤ 14) {post : SX → Prop} {J : Int32 → Int32 → (Nat → Int32) → (Nat → Int32) → (Nat → Int32) → (Nat → Int32) → (Nat → Int32) → (Nat → Int32) → (Nat → Int32) → (Nat → Int32) → (Nat → Int32) → (Nat → Int32) → (Nat → Int32) → (Nat → Int32) → (Nat → Int32) → (Nat → Int32) → (Nat → Int32) → (Nat → Int32) → (Nat → Int32) → Prop} :
    ∀ (d i len : Nat) (code : Nat → Int32), i + d = L → len + rc_cf lw w d i ≤ 14 →
    (∀ code' : Nat → Int32, (∀ j, j < len → code' j = code j) → (∀ j, len ≤ j → j < len + rc_cf lw w d i → ∃ q : Nat, q < 14 ∧ code' j = nI q) →
      rc_ls (fun j => (code' j).toNatClampNeg) lw (nI w) (rc_cf lw w d i) len = rc_ls (fun j => j) lw (nI w) d i →
      J (nI (len + rc_cf lw w d i)) (nI (w + 1)) kk kp kf ks lw lc lo lt lx ly lk code' ss (upd se w (nI (len + rc_cf lw w d i))) wf ind ch) →
    wX_compileSections_18 post J (nI w) (nI C) (nI L) lev (nI t) p e (d + 1) (nI len) (nI i) kk kp kf ks lw lc lo lt lx ly lk code ss se wf ind ch := by
  intro d
  induction d with
  | zero =>
    intro i len code hi hl H
    have h := H code (fun _ _ => rfl) (fun j a b => absurd (show j < len + 0 from b) (by omega)) rfl
    exact br_t (nI_le (by omega) (by omega)) (And.intro (vp_in_nI hw (by decide)) (nm_r (rc_ux (by omega)) (nm_r (nI_1 w) h)))
  | succ d ih =>
    intro i len code hi hl H
    have ci : (nI i).toNatClampNeg = i := nI_clamp (by omega)
    have u1 : rc_cf lw w (d + 1) i = (if lw i = nI w then 1 else 0) + rc_cf lw w d (i + 1) := rfl
    have u2 : rc_ls (fun j => j) lw (nI w) (d + 1) i = if lw i = nI w then i :: rc_ls (fun j => j) lw (nI w) d (i + 1) else rc_ls (fun j => j) lw (nI w) d (i + 1) := rfl
    refine br_f (nI_ge (by omega) (by omega)) (And.intro (vp_in_nI (by omega) (by decide)) ?_)
    by_cases hq : lw i = nI w
    · rw [if_pos hq] at u1 u2
      rw [u1, u2] at H
      rw [u1] at hl
      refine br_t (by rw [ci]; exact hq) (And.intro (vp_in_nI (by omega) (by decide)) (nm_r (rc_ux (by omega)) (nm_r (nI_1 len) (nm_r (nI_1 i) (ih (i + 1) (len + 1) (upd code len (nI i)) (by omega) (by omega) ?_)))))
      intro code' k1 k2 k3
      have e0 : code' len = nI i := by rw [k1 len (by omega), pk_us]
      have e1 : len + 1 + rc_cf lw w d (i + 1) = len + (1 + rc_cf lw w d (i + 1)) := by omega
      have g := H code' (fun j hj => by rw [k1 j (by omega), pk_un (by omega)])
        (fun j a b => by
          by_cases z : j = len
          · subst z
            exact ⟨i, by omega, e0⟩
          · exact k2 j (by omega) (by omega))
        (by
          rw [Nat.add_comm 1]
          show (if lw (code' len).toNatClampNeg = nI w then (code' len).toNatClampNeg :: rc_ls (fun j => (code' j).toNatClampNeg) lw (nI w) (rc_cf lw w d (i + 1)) (len + 1) else rc_ls (fun j => (code' j).toNatClampNeg) lw (nI w) (rc_cf lw w d (i + 1)) (len + 1)) = _
          rw [e0, ci, if_pos hq, k3])
      rw [e1]
      exact g
    · rw [if_neg hq, Nat.zero_add] at u1
      rw [if_neg hq] at u2
      rw [u1, u2] at H
      rw [u1] at hl
      exact br_f (by rw [ci]; exact hq) (nm_r (nI_1 i) (ih (i + 1) len code (by omega) hl H))

/-- the sections below w are compiled, all below place len -/
def rc_okw (L : Nat) (lw code ss se : Nat → Int32) (w0 len : Nat) : Prop := ∀ w : Nat, w < w0 → ∃ s d : Nat, ss w = nI s ∧ se w = nI (s + d) ∧ s + d ≤ len ∧
  (∀ j, s ≤ j → j < s + d → ∃ q : Nat, q < 14 ∧ code j = nI q) ∧ rc_ls (fun j => (code j).toNatClampNeg) lw (nI w) d s = rc_ls (fun j => j) lw (nI w) L 0

theorem rc_c4 (hL : L ≤ 14) {post : SX → Prop} (H : ∀ code' ss' se' : Nat → Int32, rc_ok L lw code' ss' se' → post ((nI C), (nI L), lev, (nI t), p, e, kk, kp, kf, ks, lw, lc, lo, lt, lx, ly, lk, code', ss', se', wf, ind, ch)) :
    ∀ (d w len : Nat) (code ss se : Nat → Int32), w + d = 4 → len + rc_cs lw L d w ≤ 14 → rc_okw L lw code ss se w len →
    wX_compileSections_4 post (nI C) (nI L) lev (nI t) p e (d + 1) (nI len) (nI w) kk kp kf ks lw lc lo lt lx ly lk code ss se wf ind ch := by
  intro d
  induction d with
  | zero =>
    intro w len code ss se hw hl hk
    have h4 : w = 4 := hw
    subst h4
    have hl' : len ≤ 14 := hl
    refine br_t (by decide) (H code ss se (fun w hw => ?_))
    obtain ⟨s, d, a1, a2, a3, a4, a5⟩ := hk w hw
    exact ⟨s, d, a1, a2, by omega, a4, a5⟩
  | succ d ih =>
    intro w len code ss se hw hl hk
    have u1 : rc_cs lw L (d + 1) w = rc_cf lw w L 0 + rc_cs lw L d (w + 1) := rfl
    rw [u1] at hl
    refine br_f (nI_ge (b := 4) (by omega) (by decide)) (And.intro (vp_in_nI (by omega) (by decide)) (nm_r (rc_ux (by omega)) ⟨L + 1, rc_c18 (w := w) (by omega) hL L 0 len code (by omega) (by omega) ?_⟩))
    intro code' k1 k2 k3
    refine ih (w + 1) (len + rc_cf lw w L 0) code' _ _ (by omega) (by omega) ?_
    intro v hv
    by_cases z : v = w
    · subst z
      exact ⟨len, rc_cf lw v L 0, pk_us, pk_us, by omega, k2, k3⟩
    · obtain ⟨s, d', a1, a2, a3, a4, a5⟩ := hk v (by omega)
      refine ⟨s, d', by rw [pk_un z]; exact a1, by rw [pk_un z]; exact a2, by omega, fun j b1 b2 => ?_, ?_⟩
      · rw [k1 j (by omega)]
        exact a4 j b1 b2
      · rw [← a5]
        exact rc_ls_congr d' s (fun j b1 b2 => by rw [k1 j (by omega)])

theorem rc_comp (hL : L ≤ 14) (hvl : rc_vl lw lc lo lt lx ly lk) {post : SX → Prop} (H : ∀ code' ss' se' : Nat → Int32, rc_ok L lw code' ss' se' → post ((nI C), (nI L), lev, (nI t), p, e, kk, kp, kf, ks, lw, lc, lo, lt, lx, ly, lk, code', ss', se', wf, ind, ch)) :
    wpX_compileReport post ((nI C), (nI L), lev, (nI t), p, e, kk, kp, kf, ks, lw, lc, lo, lt, lx, ly, lk, code, ss, se, wf, ind, ch) := by
  by_cases h : lev = 0
  · exact br_t h ⟨L + 1, rc_cW2 hL (fun code' ss' se' a b => H code' ss' se' (rc_okW hL a b)) L 0 code (by omega) (fun j hj => absurd hj (Nat.not_lt_zero j))⟩
  · have h4 : rc_cs lw L 4 0 ≤ L := rc_cf4 (fun j => (hvl j).1) L 0
    exact br_f h ⟨5, rc_c4 hL (fun code' ss' se' a => H code' ss' se' a) 4 0 0 code ss se (by decide) (by omega) (fun w hw => absurd hw (Nat.not_lt_zero w))⟩
end
end
section
/-! the course of a run -/
section
variable {C L : Nat} {lev : Int32} {kk kp kf ks lw lc lo lt lx ly lk code ss se : Nat → Int32}

theorem rc_h0 : (-1 : Int32) < 0 := by decide
theorem rc_loop (hok : rc_ok L lw code ss se) (hC : C ≤ 16) (hL : L ≤ 14) (hvc : rc_vc kk kp kf ks) (hvl : rc_vl lw lc lo lt lx ly lk) :
    ∀ (d k B : Nat) (p : Int32) (R : rc_R), k + d = C → ((p = -1 ∧ k = 0) ∨ ∃ q : Nat, k = q + 1 ∧ p = nI q) → rc_I B R → B + 336 * (d + 1) < 2 ^ 30 →
    ∃ (p' : Int32) (R' : rc_R), rc_I (B + 336 * (d + 1)) R' ∧ (∀ post : Int32 → SX → Prop, post R'.2.1 ((nI C), (nI L), lev, (nI R'.1), p', R'.2.1, kk, kp, kf, ks, lw, lc, lo, lt, lx, ly, lk, code, ss, se, R'.2.2.1, R'.2.2.2.1, R'.2.2.2.2) → wX_run_10 post (d + 1) (nI k) (nI C) (nI L) lev (nI R.1) p R.2.1 kk kp kf ks lw lc lo lt lx ly lk code ss se R.2.2.1 R.2.2.2.1 R.2.2.2.2) ∧
      (∀ post : Int32 → SY → Prop, post R'.2.1 ((nI C), (nI L), p', R'.2.1, (nI R'.1), kk, kp, kf, ks, lw, lc, lo, lt, lx, ly, lk, R'.2.2.1, R'.2.2.2.1, R'.2.2.2.2) → wY_run_58 post (d + 2) (nI k) (nI C) (nI L) p R.2.1 (nI R.1) kk kp kf ks lw lc lo lt lx ly lk R.2.2.1 R.2.2.2.1 R.2.2.2.2) := by
  have S : ∀ (w : Nat), w < 4 → ∀ (B : Nat) (p : Int32) (R : rc_R), (p = -1 ∨ ∃ q : Nat, q < 16 ∧ p = nI q) → rc_I B R → B + 112 < 2 ^ 30 →
      ∃ R' : rc_R, rc_I (B + 112) R' ∧ (∀ post : SX → Prop, post ((nI C), (nI L), lev, (nI R'.1), p, R'.2.1, kk, kp, kf, ks, lw, lc, lo, lt, lx, ly, lk, code, ss, se, R'.2.2.1, R'.2.2.2.1, R'.2.2.2.2) → wpX_executeSection post ((nI C), (nI L), lev, (nI R.1), p, R.2.1, kk, kp, kf, ks, lw, lc, lo, lt, lx, ly, lk, code, ss, se, R.2.2.1, R.2.2.2.1, R.2.2.2.2) (nI w)) ∧ (∀ post : SY → Prop, post ((nI C), (nI L), p, R'.2.1, (nI R'.1), kk, kp, kf, ks, lw, lc, lo, lt, lx, ly, lk, R'.2.2.1, R'.2.2.2.1, R'.2.2.2.2) → wpY_all post ((nI C), (nI L), p, R.2.1, (nI R.1), kk, kp, kf, ks, lw, lc, lo, lt, lx, ly, lk, R.2.2.1, R.2.2.2.1, R.2.2.2.2) (nI w)) :=
    fun w hw B p R hp hR hB => rc_sec hok hL hp hvc hvl hw hR hB
  have up : ∀ {B B' : Nat} {R : rc_R}, B ≤ B' → rc_I B R → rc_I B' R := fun h g => ⟨Nat.le_trans g.1 h, g.2⟩
  intro d
  induction d with
  | zero =>
    intro k B p R hk hp hR hB
    have hk' : k = C := hk
    subst hk'
    have c1 : nI k ≤ nI k := nI_le (Nat.le_refl k) (by omega)
    have c2 : ¬ nI k < nI k := nI_nlt (Nat.le_refl k) (by omega)
    have c3 : nI k < nI (k + 1) := nI_lt (by omega) (by omega)
    rcases hp with ⟨rfl, rfl⟩ | ⟨q, rfl, rfl⟩
    · obtain ⟨R3, i3, X3, Y3⟩ := S 3 (by decide) B (-1) R (Or.inl rfl) hR (by omega)
      refine ⟨-1, R3, up (by omega) i3, fun post h => ?_, fun post h => ?_⟩
      · exact br_t c1 (br_t rfl (X3 _ h))
      · exact br_f c2 (br_t rfl (br_t rc_h0 (br_t rfl (br_t rc_h0 (br_t rfl (br_f rc_10 (nm_r (nI_1 0) (br_t c3 (Y3 _ h)))))))))
    · have n1 : ¬ nI q = (-1 : Int32) := rc_nm1 (by omega)
      have n0 : ¬ nI q < 0 := nI_pos (by omega)
      have hq : nI q = -1 ∨ ∃ j : Nat, j < 16 ∧ nI q = nI j := Or.inr ⟨q, by omega, rfl⟩
      obtain ⟨R1, i1, X1, Y1⟩ := S 1 (by decide) B (nI q) R hq hR (by omega)
      obtain ⟨R2, i2, X2, Y2⟩ := S 2 (by decide) (B + 112) (nI q) R1 hq i1 (by omega)
      obtain ⟨R3, i3, X3, Y3⟩ := S 3 (by decide) (B + 112 + 112) (nI q) R2 hq i2 (by omega)
      refine ⟨nI q, R3, up (by omega) i3, fun post h => ?_, fun post h => ?_⟩
      · exact br_t c1 (br_f n1 (X1 _ (X2 _ (X3 _ h))))
      · exact br_f c2 (br_t rfl (br_f n0 (br_f rc_10 (br_f rc_10 (Y1 _ (br_f rc_10 (Y2 _ (br_f rc_10 (nm_r (nI_1 (q + 1)) (br_t c3 (Y3 _ h)))))))))))
  | succ d ih =>
    intro k B p R hk hp hR hB
    have c1 : ¬ nI C ≤ nI k := nI_ge (by omega) (by omega)
    have c2 : ¬ nI C < nI k := nI_nlt (by omega) (by omega)
    have c3 : ¬ nI k = nI C := rc_ne C (by omega) (by omega) (by omega)
    have hk0 : nI k = -1 ∨ ∃ j : Nat, j < 16 ∧ nI k = nI j := Or.inr ⟨k, by omega, rfl⟩
    have vk : vp_in (nI k) 16 := vp_in_nI (by omega) (by decide)
    have go : ∀ (R2 : rc_R), rc_I (B + 224) R2 → ∃ (p' : Int32) (R' : rc_R), rc_I (B + 336 * (d + 1 + 1)) R' ∧
        (∀ post : Int32 → SX → Prop, post R'.2.1 ((nI C), (nI L), lev, (nI R'.1), p', R'.2.1, kk, kp, kf, ks, lw, lc, lo, lt, lx, ly, lk, code, ss, se, R'.2.2.1, R'.2.2.2.1, R'.2.2.2.2) → wpX_executeSection (fun u => match u with | (n0, n1, n2, n3, n4, n5, n6, n7, n8, n9, n10, n11, n12, n13, n14, n15, n16, n17, n18, n19, n20, n21, n22) => (∀ y : Int32, y = nI k + 1 → wX_run_10 post (d + 1) y n0 n1 n2 n3 n4 n5 n6 n7 n8 n9 n10 n11 n12 n13 n14 n15 n16 n17 n18 n19 n20 n21 n22)) ((nI C), (nI L), lev, (nI R2.1), (nI k), R2.2.1, kk, kp, kf, ks, lw, lc, lo, lt, lx, ly, lk, code, ss, se, R2.2.2.1, R2.2.2.2.1, R2.2.2.2.2) (nI 0)) ∧
        (∀ post : Int32 → SY → Prop, post R'.2.1 ((nI C), (nI L), p', R'.2.1, (nI R'.1), kk, kp, kf, ks, lw, lc, lo, lt, lx, ly, lk, R'.2.2.1, R'.2.2.2.1, R'.2.2.2.2) → wY_run_161 post (wY_run_58 post (d + 2)) (nI k) 0 (nI C) (nI L) p R2.2.1 (nI R2.1) kk kp kf ks lw lc lo lt lx ly lk R2.2.2.1 R2.2.2.2.1 R2.2.2.2.2) := by
      intro R2 i2
      obtain ⟨R0, i0, X0, Y0⟩ := S 0 (by decide) (B + 224) (nI k) R2 hk0 i2 (by omega)
      obtain ⟨p', R', iI, hX, hY⟩ := ih (k + 1) (B + 224 + 112) (nI k) R0 (by omega) (Or.inr ⟨k, rfl, rfl⟩) i0 (by omega)
      refine ⟨p', R', up (by omega) iI, fun post h => ?_, fun post h => ?_⟩
      · exact X0 _ (nm_r (nI_1 k) (hX post h))
      · exact br_t rfl (Y0 _ (nm_r (nI_1 k) (hY post h)))
    rcases hp with ⟨rfl, rfl⟩ | ⟨q, rfl, rfl⟩
    · obtain ⟨p', R', iI, hX, hY⟩ := go R (up (by omega) hR)
      refine ⟨p', R', iI, fun post h => ?_, fun post h => ?_⟩
      · exact br_f c1 (br_t rfl (hX post h))
      · exact br_f c2 (br_f c3 (br_t rc_h0 (br_t rfl (br_t rc_h0 (br_t rfl (hY post h))))))
    · have n1 : ¬ nI q = (-1 : Int32) := rc_nm1 (by omega)
      have n0 : ¬ nI q < 0 := nI_pos (by omega)
      have hq : nI q = -1 ∨ ∃ j : Nat, j < 16 ∧ nI q = nI j := Or.inr ⟨q, by omega, rfl⟩
      have vq : vp_in (nI q) 16 := vp_in_nI (by omega) (by decide)
      have e15 : nI (q + 1) &&& 15 = nI (q + 1) := rc_and15 (by omega)
      by_cases hpt : kp (nI q).toNatClampNeg = kp (nI (q + 1)).toNatClampNeg
      · by_cases hky : kk (nI q).toNatClampNeg = kk (nI (q + 1)).toNatClampNeg
        · obtain ⟨p', R', iI, hX, hY⟩ := go R (up (by omega) hR)
          refine ⟨p', R', iI, fun post h => ?_, fun post h => ?_⟩
          · exact br_f c1 (br_f n1 (And.intro vq (And.intro vk (br_t hpt (And.intro vq (And.intro vk (br_t hky (hX post h))))))))
          · refine br_f c2 (br_f c3 (br_f n0 (br_t rfl (And.intro vk (And.intro vq (br_t hpt.symm (br_t rfl (br_f n0 ?_))))))))
            rw [e15]
            exact And.intro vk (And.intro vq (br_t hky.symm (br_t rfl (hY post h))))
        · obtain ⟨R1, i1, X1, Y1⟩ := S 1 (by decide) B (nI q) R hq hR (by omega)
          obtain ⟨p', R', iI, hX, hY⟩ := go R1 (up (by omega) i1)
          refine ⟨p', R', iI, fun post h => ?_, fun post h => ?_⟩
          · exact br_f c1 (br_f n1 (And.intro vq (And.intro vk (br_t hpt (And.intro vq (And.intro vk (br_f hky (X1 _ (hX post h)))))))))
          · refine br_f c2 (br_f c3 (br_f n0 (br_t rfl (And.intro vk (And.intro vq (br_t hpt.symm (br_t rfl (br_f n0 ?_))))))))
            rw [e15]
            exact And.intro vk (And.intro vq (br_f (fun z => hky z.symm) (Y1 _ (br_t rfl (hY post h)))))
      · obtain ⟨R1, i1, X1, Y1⟩ := S 1 (by decide) B (nI q) R hq hR (by omega)
        obtain ⟨R2, i2, X2, Y2⟩ := S 2 (by decide) (B + 112) (nI q) R1 hq i1 (by omega)
        obtain ⟨p', R', iI, hX, hY⟩ := go R2 (up (by omega) i2)
        refine ⟨p', R', iI, fun post h => ?_, fun post h => ?_⟩
        · exact br_f c1 (br_f n1 (And.intro vq (And.intro vk (br_f hpt (X1 _ (X2 _ (hX post h)))))))
        · exact br_f c2 (br_f c3 (br_f n0 (br_t rfl (And.intro vk (And.intro vq (br_f (fun z => hpt z.symm) (br_f rc_10 (Y1 _ (br_f rc_10 (Y2 _ (hY post h)))))))))))
end
end
section
/-! the relation, and what is owed -/
def i_Rel (k : Nat) (u : SX) (v : SY) : Prop := ∃ (C L t : Nat) (lev p e p' e' : Int32) (kk kp kf ks lw lc lo lt lx ly lk code ss se wf ind ch : Nat → Int32), u = ((nI C), (nI L), lev, (nI t), p, e, kk, kp, kf, ks, lw, lc, lo, lt, lx, ly, lk, code, ss, se, wf, ind, ch) ∧ v = ((nI C), (nI L), p', e', (nI t), kk, kp, kf, ks, lw, lc, lo, lt, lx, ly, lk, wf, ind, ch) ∧
  C ≤ 16 ∧ L ≤ 14 ∧ t ≤ 100000 ∧ rc_vc kk kp kf ks ∧ rc_vl lw lc lo lt lx ly lk ∧ rc_W wf ∧ rc_01 ind
theorem i_up {k : Nat} {u : SX} {v : SY} (h : i_Rel k u v) : i_Rel (k + 5) u v := h
theorem rc_mk {k C L t : Nat} {lev p e p' e' : Int32} {kk kp kf ks lw lc lo lt lx ly lk code ss se wf ind ch : Nat → Int32} (hC : C ≤ 16) (hL : L ≤ 14) (ht : t ≤ 100000) (hc : rc_vc kk kp kf ks) (hl : rc_vl lw lc lo lt lx ly lk) (hW : rc_W wf) (hi : rc_01 ind) :
    i_Rel k ((nI C), (nI L), lev, (nI t), p, e, kk, kp, kf, ks, lw, lc, lo, lt, lx, ly, lk, code, ss, se, wf, ind, ch) ((nI C), (nI L), p', e', (nI t), kk, kp, kf, ks, lw, lc, lo, lt, lx, ly, lk, wf, ind, ch) :=
  ⟨C, L, t, lev, p, e, p', e', kk, kp, kf, ks, lw, lc, lo, lt, lx, ly, lk, code, ss, se, wf, ind, ch, rfl, rfl, hC, hL, ht, hc, hl, hW, hi⟩
theorem rc_v0 : rc_v1 0 0 0 0 0 0 0 := ⟨⟨0, by decide, rfl⟩, ⟨0, by decide, rfl⟩, ⟨0, 0, by decide, by decide, rfl, rfl, fun _ => by decide⟩, ⟨0, by decide, rfl⟩, ⟨0, by decide, rfl⟩, rc_b_0 (by decide)⟩
theorem i_vc0 : wpX_init (fun u => wpY_init (fun v => i_Rel 0 u v)) :=
  rc_mk (k := 0) (C := 0) (L := 0) (t := 0) (by decide) (by decide) (by decide) (fun _ => ⟨rc_b_0 (by decide), rc_b_0 (by decide), rc_b_0 (by decide), rc_b_0 (by decide)⟩) (fun _ => rc_v0) (fun _ => rc_b_0 (by decide)) (fun _ => Or.inl rfl)
theorem i_vc_card {k : Nat} {u : SX} {v : SY} (I : i_Rel k u v) (hk : k + 5 ≤ 2560) (v1 : Int32) (v2 : Int32) (v3 : Int32) (v4 : Int32) : wpX_card (fun r u' => wpY_card (fun r' v' => r' = r ∧ i_Rel (k + 5) u' v') v v1 v2 v3 v4) u v1 v2 v3 v4 := by
  obtain ⟨C, L, t, lev, p, e, p', e', kk, kp, kf, ks, lw, lc, lo, lt, lx, ly, lk, code, ss, se, wf, ind, ch, rfl, rfl, hC, hL, ht, hc, hl, hW, hi⟩ := I
  have J : i_Rel (k + 5) ((nI C), (nI L), lev, (nI t), p, e, kk, kp, kf, ks, lw, lc, lo, lt, lx, ly, lk, code, ss, se, wf, ind, ch) ((nI C), (nI L), p', e', (nI t), kk, kp, kf, ks, lw, lc, lo, lt, lx, ly, lk, wf, ind, ch) := rc_mk hC hL ht hc hl hW hi
  by_cases h16 : C < 16
  · have c1 : nI C < (16 : Int32) := nI_lt (b := 16) h16 (by decide)
    have c2 : ¬ nI C = (16 : Int32) := fun z => absurd ((nI_eq (b := 16) (by omega) (by omega)).mp z) (by omega)
    have vc : vp_in (nI C) 16 := vp_in_nI h16 (by decide)
    by_cases h1 : rc_o 0 99 v1
    · by_cases h2 : rc_o 0 99 v2
      · by_cases h3 : rc_o (-999) 999 v3
        · by_cases h4 : rc_o (-999) 999 v4
          · refine br_t c1 (rc_iw1 h1 (br_f rc_10 (rc_iw1 h2 (br_f rc_10 (rc_am1 h3 (br_f rc_10 (rc_am1 h4 (br_f rc_10 (And.intro vc (nm_e (And.intro vc (nm_e (And.intro vc (nm_e (And.intro vc (nm_e (nm_r (nI_1 C) ?_)))))))))))))))))
            refine br_f c2 (rc_jn1 h1 (br_f rc_10 (rc_jn1 h2 (br_f rc_10 (rc_jn1 h3 (br_f rc_10 (rc_jn1 h4 (br_f rc_10 (And.intro vc (nm_e (And.intro vc (nm_e (And.intro vc (nm_e (And.intro vc (nm_e (nm_r (nI_1 C) (And.intro rfl ?_))))))))))))))))))
            exact rc_mk (C := C + 1) (by omega) hL ht (rc_vcu hc _ (rc_ob h1 (by decide) (by decide)) (rc_ob h2 (by decide) (by decide)) (rc_ob h3 (by decide) (by decide)) (rc_ob h4 (by decide) (by decide))) hl hW hi
          · exact br_t c1 (rc_iw1 h1 (br_f rc_10 (rc_iw1 h2 (br_f rc_10 (rc_am1 h3 (br_f rc_10 (rc_am0 h4 (br_t rfl
              (br_f c2 (rc_jn1 h1 (br_f rc_10 (rc_jn1 h2 (br_f rc_10 (rc_jn1 h3 (br_f rc_10 (rc_jn0 h4 (br_t rfl (And.intro rfl J))))))))))))))))))
        · exact br_t c1 (rc_iw1 h1 (br_f rc_10 (rc_iw1 h2 (br_f rc_10 (rc_am0 h3 (br_t rfl
            (br_f c2 (rc_jn1 h1 (br_f rc_10 (rc_jn1 h2 (br_f rc_10 (rc_jn0 h3 (br_t rfl (And.intro rfl J))))))))))))))
      · exact br_t c1 (rc_iw1 h1 (br_f rc_10 (rc_iw0 h2 (br_t rfl (br_f c2 (rc_jn1 h1 (br_f rc_10 (rc_jn0 h2 (br_t rfl (And.intro rfl J))))))))))
    · exact br_t c1 (rc_iw0 h1 (br_t rfl (br_f c2 (rc_jn0 h1 (br_t rfl (And.intro rfl J))))))
  · have h16' : C = 16 := by omega
    exact br_f (nI_nlt (b := 16) (by omega) (by omega)) (br_t (congrArg nI h16') (And.intro rfl J))
theorem i_vc_clear {k : Nat} {u : SX} {v : SY} (I : i_Rel k u v) (hk : k + 5 ≤ 2560) : wpX_clear (fun r u' => wpY_clear (fun r' v' => r' = r ∧ i_Rel (k + 5) u' v') v) u := by
  obtain ⟨C, L, t, lev, p, e, p', e', kk, kp, kf, ks, lw, lc, lo, lt, lx, ly, lk, code, ss, se, wf, ind, ch, rfl, rfl, hC, hL, ht, hc, hl, hW, hi⟩ := I
  have J : i_Rel (k + 5) ((nI C), (nI L), lev, (nI t), p, e, kk, kp, kf, ks, lw, lc, lo, lt, lx, ly, lk, code, ss, se, wf, ind, ch) ((nI C), (nI L), p', e', (nI t), kk, kp, kf, ks, lw, lc, lo, lt, lx, ly, lk, wf, ind, ch) := rc_mk hC hL ht hc hl hW hi
  exact And.intro rfl (rc_mk (C := 0) (by decide) hL ht hc hl hW hi)
theorem i_vc_line {k : Nat} {u : SX} {v : SY} (I : i_Rel k u v) (hk : k + 5 ≤ 2560) (v1 : Int32) (v2 : Int32) (v3 : Int32) (v4 : Int32) : wpX_line (fun r u' => wpY_line (fun r' v' => r' = r ∧ i_Rel (k + 5) u' v') v v1 v2 v3 v4) u v1 v2 v3 v4 := by
  obtain ⟨C, L, t, lev, p, e, p', e', kk, kp, kf, ks, lw, lc, lo, lt, lx, ly, lk, code, ss, se, wf, ind, ch, rfl, rfl, hC, hL, ht, hc, hl, hW, hi⟩ := I
  have J : i_Rel (k + 5) ((nI C), (nI L), lev, (nI t), p, e, kk, kp, kf, ks, lw, lc, lo, lt, lx, ly, lk, code, ss, se, wf, ind, ch) ((nI C), (nI L), p', e', (nI t), kk, kp, kf, ks, lw, lc, lo, lt, lx, ly, lk, wf, ind, ch) := rc_mk hC hL ht hc hl hW hi
  by_cases h14 : L < 14
  · have c1 : nI L < (14 : Int32) := nI_lt (b := 14) h14 (by decide)
    have c2 : ¬ nI L = (14 : Int32) := fun z => absurd ((nI_eq (b := 14) (by omega) (by omega)).mp z) (by omega)
    have vc : vp_in (nI L) 14 := vp_in_nI h14 (by decide)
    by_cases h1 : rc_o 0 3 v1
    · by_cases h2 : rc_o 0 8 v2
      · by_cases h3 : rc_o 0 9 v3
        · obtain ⟨a1, b1, e1⟩ := rc_on (n := 3) (by decide) h1
          obtain ⟨a2, b2, e2⟩ := rc_on (n := 8) (by decide) h2
          obtain ⟨a3, b3, e3⟩ := rc_on (n := 9) (by decide) h3
          by_cases h67 : v3 = 6 ∨ v3 = 7
          · have Y67 : ∀ post : Int32 → SY → Prop, wY_line_65 post v1 v2 v3 v4 3 0 v4 (nI C) (nI L) p' e' (nI t) kk kp kf ks lw lc lo lt lx ly lk wf ind ch → wpY_line post ((nI C), (nI L), p', e', (nI t), kk, kp, kf, ks, lw, lc, lo, lt, lx, ly, lk, wf, ind, ch) v1 v2 v3 v4 := by
              intro post g
              refine br_f c2 (rc_jn1 h1 (br_f rc_10 (rc_jn1 h2 (br_f rc_10 (rc_jn1 h3 (br_f rc_10 (?_)))))))
              by_cases z6 : v3 = 6
              · exact br_t z6 g
              · exact br_f z6 (br_t (h67.resolve_left z6) g)
            by_cases h4 : rc_o 0 3 v4
            · obtain ⟨a4, b4, e4⟩ := rc_on (n := 3) (by decide) h4
              refine br_t c1 (rc_iw1 h1 (br_f rc_10 (rc_iw1 h2 (br_f rc_10 (rc_iw1 h3 (br_f rc_10 (rc_itA h67 (rc_it1 (rc_34 v4) h4 (br_f rc_10 (And.intro vc (nm_e (And.intro vc (nm_e (And.intro vc (nm_e (And.intro vc (nm_e (And.intro vc (nm_e (And.intro vc (nm_e (And.intro vc (nm_e ((nm_r (nI_1 L) ?_)))))))))))))))))))))))))
              refine Y67 _ (rc_jn1 h4 (br_f rc_10 (And.intro vc (nm_e (And.intro vc (nm_e (And.intro vc (nm_e (And.intro vc (nm_e (And.intro vc (nm_e (And.intro vc (nm_e (And.intro vc (nm_e ((nm_r (nI_1 L) (And.intro rfl ?_)))))))))))))))))))
              exact rc_mk (L := L + 1) hC (by omega) ht hc (rc_vlu hl _ ⟨⟨a1, b1, e1⟩, ⟨a2, b2, e2⟩, ⟨a3, a4, b3, by omega, e3, e4, fun _ => b4⟩, ⟨0, by decide, rfl⟩, ⟨0, by decide, rfl⟩, rc_b_0 (by decide)⟩) hW hi
            · exact br_t c1 (rc_iw1 h1 (br_f rc_10 (rc_iw1 h2 (br_f rc_10 (rc_iw1 h3 (br_f rc_10 (rc_itA h67 (rc_it0 (rc_34 v4) h4 (br_t rfl (Y67 _ (rc_jn0 h4 (br_t rfl (And.intro rfl J)))))))))))))
          · have Y67 : ∀ post : Int32 → SY → Prop, wY_line_65 post v1 v2 v3 v4 5 0 v4 (nI C) (nI L) p' e' (nI t) kk kp kf ks lw lc lo lt lx ly lk wf ind ch → wpY_line post ((nI C), (nI L), p', e', (nI t), kk, kp, kf, ks, lw, lc, lo, lt, lx, ly, lk, wf, ind, ch) v1 v2 v3 v4 := by
              intro post g
              exact br_f c2 (rc_jn1 h1 (br_f rc_10 (rc_jn1 h2 (br_f rc_10 (rc_jn1 h3 (br_f rc_10 (br_f (fun z => h67 (Or.inl z)) (br_f (fun z => h67 (Or.inr z)) g))))))))
            by_cases h4 : rc_o 0 5 v4
            · obtain ⟨a4, b4, e4⟩ := rc_on (n := 5) (by decide) h4
              have n67 : a3 = 6 ∨ a3 = 7 → a4 ≤ 3 := fun z => absurd (z.elim (fun q => Or.inl (by rw [e3, q]; rfl)) (fun q => Or.inr (by rw [e3, q]; rfl))) h67
              refine br_t c1 (rc_iw1 h1 (br_f rc_10 (rc_iw1 h2 (br_f rc_10 (rc_iw1 h3 (br_f rc_10 (rc_itB h67 (rc_it1 (rc_56 v4) h4 (br_f rc_10 (And.intro vc (nm_e (And.intro vc (nm_e (And.intro vc (nm_e (And.intro vc (nm_e (And.intro vc (nm_e (And.intro vc (nm_e (And.intro vc (nm_e ((nm_r (nI_1 L) ?_)))))))))))))))))))))))))
              refine Y67 _ (rc_jn1 h4 (br_f rc_10 (And.intro vc (nm_e (And.intro vc (nm_e (And.intro vc (nm_e (And.intro vc (nm_e (And.intro vc (nm_e (And.intro vc (nm_e (And.intro vc (nm_e ((nm_r (nI_1 L) (And.intro rfl ?_)))))))))))))))))))
              exact rc_mk (L := L + 1) hC (by omega) ht hc (rc_vlu hl _ ⟨⟨a1, b1, e1⟩, ⟨a2, b2, e2⟩, ⟨a3, a4, b3, b4, e3, e4, n67⟩, ⟨0, by decide, rfl⟩, ⟨0, by decide, rfl⟩, rc_b_0 (by decide)⟩) hW hi
            · exact br_t c1 (rc_iw1 h1 (br_f rc_10 (rc_iw1 h2 (br_f rc_10 (rc_iw1 h3 (br_f rc_10 (rc_itB h67 (rc_it0 (rc_56 v4) h4 (br_t rfl (Y67 _ (rc_jn0 h4 (br_t rfl (And.intro rfl J)))))))))))))
        · exact br_t c1 (rc_iw1 h1 (br_f rc_10 (rc_iw1 h2 (br_f rc_10 (rc_iw0 h3 (br_t rfl
            (br_f c2 (rc_jn1 h1 (br_f rc_10 (rc_jn1 h2 (br_f rc_10 (rc_jn0 h3 (br_t rfl (And.intro rfl J))))))))))))))
      · exact br_t c1 (rc_iw1 h1 (br_f rc_10 (rc_iw0 h2 (br_t rfl (br_f c2 (rc_jn1 h1 (br_f rc_10 (rc_jn0 h2 (br_t rfl (And.intro rfl J))))))))))
    · exact br_t c1 (rc_iw0 h1 (br_t rfl (br_f c2 (rc_jn0 h1 (br_t rfl (And.intro rfl J))))))
  · have h14' : L = 14 := by omega
    exact br_f (nI_nlt (b := 14) (by omega) (by omega)) (br_t (congrArg nI h14') (And.intro rfl J))
theorem rc_opL {L j : Nat} (hL : L ≤ 14) (hj : j < 2 ^ 31) : nI L - 1 < nI j ↔ L ≤ j := by
  cases L with
  | zero =>
    have h1 : nI 0 - 1 = -1 := by decide
    have h2 : (-1 : Int32).toInt = -1 := by decide
    rw [h1, Int32.lt_iff_toInt_lt, h2, nI_toInt hj]
    omega
  | succ M =>
    rw [nI_pred, nI_ltI (by omega) hj]
    omega
theorem i_vc_operands {k : Nat} {u : SX} {v : SY} (I : i_Rel k u v) (hk : k + 5 ≤ 2560) (v1 : Int32) (v2 : Int32) (v3 : Int32) (v4 : Int32) : wpX_operands (fun r u' => wpY_operands (fun r' v' => r' = r ∧ i_Rel (k + 5) u' v') v v1 v2 v3 v4) u v1 v2 v3 v4 := by
  obtain ⟨C, L, t, lev, p, e, p', e', kk, kp, kf, ks, lw, lc, lo, lt, lx, ly, lk, code, ss, se, wf, ind, ch, rfl, rfl, hC, hL, ht, hc, hl, hW, hi⟩ := I
  have J : i_Rel (k + 5) ((nI C), (nI L), lev, (nI t), p, e, kk, kp, kf, ks, lw, lc, lo, lt, lx, ly, lk, code, ss, se, wf, ind, ch) ((nI C), (nI L), p', e', (nI t), kk, kp, kf, ks, lw, lc, lo, lt, lx, ly, lk, wf, ind, ch) := rc_mk hC hL ht hc hl hW hi
  by_cases h0 : v1 < 0
  · refine br_t h0 ?_
    unfold wpY_operands
    exact rc_jn0 (fun z => z.1 h0) (br_t rfl (And.intro rfl J))
  · obtain ⟨j, hj, rfl⟩ := nI_of h0
    by_cases hjL : j < L
    · have c1 : nI j < nI L := nI_lt hjL (by omega)
      have h1 : rc_o 0 (nI L - 1) (nI j) := ⟨h0, fun z => absurd ((rc_opL hL hj).mp z) (by omega)⟩
      have vj : vp_in (nI j) 14 := vp_in_nI (by omega) (by decide)
      by_cases h2 : rc_o 0 10 v2
      · by_cases h3 : rc_o 0 10 v3
        · by_cases h4 : rc_o (-999) 999 v4
          · refine br_f h0 (br_t c1 (rc_iw1 h2 (br_f rc_10 (rc_iw1 h3 (br_f rc_10 (rc_am1 h4 (br_f rc_10 (And.intro vj (nm_e (And.intro vj (nm_e (And.intro vj (nm_e ?_)))))))))))))
            unfold wpY_operands
            refine rc_jn1 h1 (br_f rc_10 (rc_jn1 h2 (br_f rc_10 (rc_jn1 h3 (br_f rc_10 (rc_jn1 h4 (br_f rc_10 (And.intro vj (nm_e (And.intro vj (nm_e (And.intro vj (nm_e (And.intro rfl ?_))))))))))))))
            exact rc_mk hC hL ht hc (rc_vlo hl _ (rc_on (by decide) h2) (rc_on (by decide) h3) (rc_ob h4 (by decide) (by decide))) hW hi
          · refine br_f h0 (br_t c1 (rc_iw1 h2 (br_f rc_10 (rc_iw1 h3 (br_f rc_10 (rc_am0 h4 (br_t rfl ?_)))))))
            unfold wpY_operands
            exact rc_jn1 h1 (br_f rc_10 (rc_jn1 h2 (br_f rc_10 (rc_jn1 h3 (br_f rc_10 (rc_jn0 h4 (br_t rfl (And.intro rfl J))))))))
        · refine br_f h0 (br_t c1 (rc_iw1 h2 (br_f rc_10 (rc_iw0 h3 (br_t rfl ?_)))))
          unfold wpY_operands
          exact rc_jn1 h1 (br_f rc_10 (rc_jn1 h2 (br_f rc_10 (rc_jn0 h3 (br_t rfl (And.intro rfl J))))))
      · refine br_f h0 (br_t c1 (rc_iw0 h2 (br_t rfl ?_)))
        unfold wpY_operands
        exact rc_jn1 h1 (br_f rc_10 (rc_jn0 h2 (br_t rfl (And.intro rfl J))))
    · refine br_f h0 (br_f (nI_nlt (by omega) hj) ?_)
      unfold wpY_operands
      exact rc_jn0 (fun z => z.2 ((rc_opL hL hj).mpr (by omega))) (br_t rfl (And.intro rfl J))
theorem i_vc_retract {k : Nat} {u : SX} {v : SY} (I : i_Rel k u v) (hk : k + 5 ≤ 2560) : wpX_retract (fun r u' => wpY_retract (fun r' v' => r' = r ∧ i_Rel (k + 5) u' v') v) u := by
  obtain ⟨C, L, t, lev, p, e, p', e', kk, kp, kf, ks, lw, lc, lo, lt, lx, ly, lk, code, ss, se, wf, ind, ch, rfl, rfl, hC, hL, ht, hc, hl, hW, hi⟩ := I
  have J : i_Rel (k + 5) ((nI C), (nI L), lev, (nI t), p, e, kk, kp, kf, ks, lw, lc, lo, lt, lx, ly, lk, code, ss, se, wf, ind, ch) ((nI C), (nI L), p', e', (nI t), kk, kp, kf, ks, lw, lc, lo, lt, lx, ly, lk, wf, ind, ch) := rc_mk hC hL ht hc hl hW hi
  cases L with
  | zero => exact br_t rfl (br_t rfl (And.intro rfl J))
  | succ M =>
    have n0 : ¬ nI (M + 1) = 0 := nI_ne0 (by omega) (by omega)
    exact br_f n0 (nm_r (nI_pred M) (br_f n0 (nm_r (nI_pred M) (And.intro rfl (rc_mk (L := M) hC (by omega) ht hc hl hW hi)))))
theorem rc_run {C L t t2 : Nat} {lev p e p' e' : Int32} {kk kp kf ks lw lc lo lt lx ly lk code ss se wf ind ch : Nat → Int32} (hC : C ≤ 16) (hL : L ≤ 14) (hc : rc_vc kk kp kf ks) (hl : rc_vl lw lc lo lt lx ly lk) (hW : rc_W wf) (hi : rc_01 ind) (k : Nat) :
    wpX_run (fun r u' => wpY_run (fun r' v' => r' = r ∧ i_Rel k u' v') ((nI C), (nI L), p', e', (nI t2), kk, kp, kf, ks, lw, lc, lo, lt, lx, ly, lk, wf, ind, ch)) ((nI C), (nI L), lev, (nI t), p, e, kk, kp, kf, ks, lw, lc, lo, lt, lx, ly, lk, code, ss, se, wf, ind, ch) := by
  refine rc_bX (rc_comp hL hl (fun code' ss' se' hok => ?_))
  obtain ⟨p2, R2, hI, hX, hY⟩ := rc_loop (lev := lev) hok hC hL hc hl C 0 0 (-1) (0, 0, rc_z 6 wf, rc_z 4 ind, ch) (Nat.zero_add C) (Or.inl ⟨rfl, rfl⟩) ⟨Nat.le_refl 0, rc_zW 6 hW, rc_z01 4 hi⟩ (by omega)
  refine ⟨C + 1, hX _ ?_⟩
  refine rc_bY ⟨C + 2, hY _ (And.intro rfl ?_)⟩
  exact rc_mk hC hL (Nat.le_trans hI.1 (by omega)) hc hl hI.2.1 hI.2.2
theorem i_vc_run {k : Nat} {u : SX} {v : SY} (I : i_Rel k u v) (hk : k + 5 ≤ 2560) : wpX_run (fun r u' => wpY_run (fun r' v' => r' = r ∧ i_Rel (k + 5) u' v') v) u := by
  obtain ⟨C, L, t, lev, p, e, p', e', kk, kp, kf, ks, lw, lc, lo, lt, lx, ly, lk, code, ss, se, wf, ind, ch, rfl, rfl, hC, hL, ht, hc, hl, hW, hi⟩ := I
  have J : i_Rel (k + 5) ((nI C), (nI L), lev, (nI t), p, e, kk, kp, kf, ks, lw, lc, lo, lt, lx, ly, lk, code, ss, se, wf, ind, ch) ((nI C), (nI L), p', e', (nI t), kk, kp, kf, ks, lw, lc, lo, lt, lx, ly, lk, wf, ind, ch) := rc_mk hC hL ht hc hl hW hi
  exact rc_run hC hL hc hl hW hi (k + 5)
theorem i_vc_work {k : Nat} {u : SX} {v : SY} (I : i_Rel k u v) (hk : k + 5 ≤ 2560) (v1 : Int32) : wpX_work (fun r => wpY_work (fun r' => r' = r ∧ i_Rel (k + 5) u v) v v1) u v1 := by
  obtain ⟨C, L, t, lev, p, e, p', e', kk, kp, kf, ks, lw, lc, lo, lt, lx, ly, lk, code, ss, se, wf, ind, ch, rfl, rfl, hC, hL, ht, hc, hl, hW, hi⟩ := I
  have J : i_Rel (k + 5) ((nI C), (nI L), lev, (nI t), p, e, kk, kp, kf, ks, lw, lc, lo, lt, lx, ly, lk, code, ss, se, wf, ind, ch) ((nI C), (nI L), p', e', (nI t), kk, kp, kf, ks, lw, lc, lo, lt, lx, ly, lk, wf, ind, ch) := rc_mk hC hL ht hc hl hW hi
  by_cases h0 : v1 < 0
  · refine br_t h0 ?_
    unfold wpY_work
    exact rc_jn0 (fun z => z.1 h0) (br_t rfl (And.intro rfl J))
  · obtain ⟨j, hj, rfl⟩ := nI_of h0
    by_cases h6 : j < 6
    · have vj : vp_in (nI j) 6 := vp_in_nI h6 (by decide)
      refine br_f h0 (br_t (nI_lt (b := 6) h6 (by decide)) (And.intro vj ?_))
      unfold wpY_work
      exact rc_jn1 ⟨h0, nI_nlt (a := 5) (by omega) (by decide)⟩ (br_f rc_10 (And.intro vj (And.intro rfl J)))
    · refine br_f h0 (br_f (nI_nlt (b := 6) (by omega) hj) ?_)
      unfold wpY_work
      exact rc_jn0 (fun z => z.2 (nI_lt (a := 5) (by omega) hj)) (br_t rfl (And.intro rfl J))
theorem i_vc_indicator {k : Nat} {u : SX} {v : SY} (I : i_Rel k u v) (hk : k + 5 ≤ 2560) (v1 : Int32) : wpX_indicator (fun r => wpY_indicator (fun r' => r' = r ∧ i_Rel (k + 5) u v) v v1) u v1 := by
  obtain ⟨C, L, t, lev, p, e, p', e', kk, kp, kf, ks, lw, lc, lo, lt, lx, ly, lk, code, ss, se, wf, ind, ch, rfl, rfl, hC, hL, ht, hc, hl, hW, hi⟩ := I
  have J : i_Rel (k + 5) ((nI C), (nI L), lev, (nI t), p, e, kk, kp, kf, ks, lw, lc, lo, lt, lx, ly, lk, code, ss, se, wf, ind, ch) ((nI C), (nI L), p', e', (nI t), kk, kp, kf, ks, lw, lc, lo, lt, lx, ly, lk, wf, ind, ch) := rc_mk hC hL ht hc hl hW hi
  by_cases h0 : v1 < 0
  · refine br_t h0 ?_
    unfold wpY_indicator
    exact rc_jn0 (fun z => z.1 h0) (br_t rfl (And.intro rfl J))
  · obtain ⟨j, hj, rfl⟩ := nI_of h0
    by_cases h4 : j < 4
    · have vj : vp_in (nI j) 4 := vp_in_nI h4 (by decide)
      have h1 : rc_o 0 3 (nI j) := ⟨h0, nI_nlt (a := 3) (by omega) (by decide)⟩
      refine br_f h0 (br_t (nI_lt (b := 4) h4 (by decide)) (And.intro vj ?_))
      rcases hi (nI j).toNatClampNeg with z | z
      · refine And.intro (by rw [z]; rfl) ?_
        unfold wpY_indicator
        exact rc_jn1 h1 (br_f rc_10 (And.intro vj (br_t z (And.intro z.symm J))))
      · refine And.intro (by rw [z]; rfl) ?_
        unfold wpY_indicator
        exact rc_jn1 h1 (br_f rc_10 (And.intro vj (br_f (by rw [z]; decide) (And.intro z.symm J))))
    · refine br_f h0 (br_f (nI_nlt (b := 4) (by omega) hj) ?_)
      unfold wpY_indicator
      exact rc_jn0 (fun z => z.2 (nI_lt (a := 3) (by omega) hj)) (br_t rfl (And.intro rfl J))
theorem i_vc_printed {k : Nat} {u : SX} {v : SY} (I : i_Rel k u v) (hk : k + 5 ≤ 2560) : wpX_printed (fun r => wpY_printed (fun r' => r' = r ∧ i_Rel (k + 5) u v) v) u := by
  obtain ⟨C, L, t, lev, p, e, p', e', kk, kp, kf, ks, lw, lc, lo, lt, lx, ly, lk, code, ss, se, wf, ind, ch, rfl, rfl, hC, hL, ht, hc, hl, hW, hi⟩ := I
  have J : i_Rel (k + 5) ((nI C), (nI L), lev, (nI t), p, e, kk, kp, kf, ks, lw, lc, lo, lt, lx, ly, lk, code, ss, se, wf, ind, ch) ((nI C), (nI L), p', e', (nI t), kk, kp, kf, ks, lw, lc, lo, lt, lx, ly, lk, wf, ind, ch) := rc_mk hC hL ht hc hl hW hi
  exact And.intro rfl J
theorem i_vc_text {k : Nat} {u : SX} {v : SY} (I : i_Rel k u v) (hk : k + 5 ≤ 2560) (v1 : Int32) : wpX_text (fun r => wpY_text (fun r' => r' = r ∧ i_Rel (k + 5) u v) v v1) u v1 := by
  obtain ⟨C, L, t, lev, p, e, p', e', kk, kp, kf, ks, lw, lc, lo, lt, lx, ly, lk, code, ss, se, wf, ind, ch, rfl, rfl, hC, hL, ht, hc, hl, hW, hi⟩ := I
  have J : i_Rel (k + 5) ((nI C), (nI L), lev, (nI t), p, e, kk, kp, kf, ks, lw, lc, lo, lt, lx, ly, lk, code, ss, se, wf, ind, ch) ((nI C), (nI L), p', e', (nI t), kk, kp, kf, ks, lw, lc, lo, lt, lx, ly, lk, wf, ind, ch) := rc_mk hC hL ht hc hl hW hi
  by_cases h0 : v1 < 0
  · refine br_t h0 ?_
    unfold wpY_text
    exact rc_jn0 (fun z => z.1 h0) (br_t rfl (And.intro rfl J))
  · obtain ⟨j, hj, rfl⟩ := nI_of h0
    by_cases h8 : j < 80
    · have h1 : rc_o 0 79 (nI j) := ⟨h0, nI_nlt (a := 79) (by omega) (by decide)⟩
      have c8 : ¬ (80 : Int32) ≤ nI j := nI_ge (b := 80) h8 (by decide)
      have vj : vp_in (nI j) 80 := vp_in_nI h8 (by decide)
      by_cases hjt : j < t
      · refine br_f h0 (br_f c8 (br_t (nI_lt hjt (by omega)) (And.intro vj ?_)))
        unfold wpY_text
        exact rc_jn1 h1 (br_f rc_10 (br_f (nI_ge hjt (by omega)) (And.intro vj (And.intro rfl J))))
      · refine br_f h0 (br_f c8 (br_f (nI_nlt (by omega) hj) ?_))
        unfold wpY_text
        exact rc_jn1 h1 (br_f rc_10 (br_t (nI_le (by omega) hj) (And.intro rfl J)))
    · refine br_f h0 (br_t (nI_le (a := 80) (by omega) hj) ?_)
      unfold wpY_text
      exact rc_jn0 (fun z => z.2 (nI_lt (a := 79) (by omega) hj)) (br_t rfl (And.intro rfl J))
theorem i_vc_level {k : Nat} {u : SX} {v : SY} (I : i_Rel k u v) (hk : k + 5 ≤ 2560) (v1 : Int32) : wpX_level (fun r u' => wpY_level (fun r' => r' = r ∧ i_Rel (k + 5) u' v) v v1) u v1 := by
  obtain ⟨C, L, t, lev, p, e, p', e', kk, kp, kf, ks, lw, lc, lo, lt, lx, ly, lk, code, ss, se, wf, ind, ch, rfl, rfl, hC, hL, ht, hc, hl, hW, hi⟩ := I
  have J : i_Rel (k + 5) ((nI C), (nI L), lev, (nI t), p, e, kk, kp, kf, ks, lw, lc, lo, lt, lx, ly, lk, code, ss, se, wf, ind, ch) ((nI C), (nI L), p', e', (nI t), kk, kp, kf, ks, lw, lc, lo, lt, lx, ly, lk, wf, ind, ch) := rc_mk hC hL ht hc hl hW hi
  unfold wpX_level
  by_cases h0 : v1 = 0
  · subst h0
    exact rc_iw1 ⟨by decide, by decide⟩ (br_f rc_10 (br_t rfl (And.intro rfl (rc_mk hC hL ht hc hl hW hi))))
  · by_cases h1 : v1 = 1
    · subst h1
      exact rc_iw1 ⟨by decide, by decide⟩ (br_f rc_10 (br_f (by decide) (br_t rfl (And.intro rfl (rc_mk hC hL ht hc hl hW hi)))))
    · have hn : ¬ rc_o 0 1 v1 := by
        intro z
        obtain ⟨j, hj, ej⟩ := rc_on (n := 1) (by decide) z
        have hj' : j = 0 ∨ j = 1 := by omega
        rcases hj' with rfl | rfl
        · exact h0 ej
        · exact h1 ej
      exact rc_iw0 hn (br_t rfl (br_f h0 (br_f h1 (And.intro rfl J))))
end
