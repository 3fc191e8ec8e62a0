/-! numbers, ranges, what a line and a card hold -/
def rc_b (B : Int) (x : Int32) : Prop := -B ≤ x.toInt ∧ x.toInt ≤ B
theorem rc_b_up {x : Int32} (h : rc_b 999 x) : rc_b 999999 x := by
  obtain ⟨h1, h2⟩ := h
  exact ⟨by omega, by omega⟩
theorem rc_t0 : (0 : Int32).toInt = 0 := by decide
theorem rc_b_0 {B : Int} (h : 0 ≤ B) : rc_b B 0 := by
  unfold rc_b
  rw [rc_t0]
  omega
theorem rc_cut (v : Int64) : rc_b 999999 ((v - v / 1000000 * 1000000).toInt32) := by
  have e : (v - v / 1000000 * 1000000).toInt = v.toInt.tmod 1000000 := Jvm.Kit.i64_rem v 1000000
  have hb := tmod_bounds (a := v.toInt) (M := 1000000) (by decide)
  have e2 : ((v - v / 1000000 * 1000000).toInt32).toInt = v.toInt.tmod 1000000 := by
    rw [Jvm.Kit.i32_of_i64 (by rw [e]; omega) (by rw [e]; omega), e]
  unfold rc_b
  rw [e2]
  omega
theorem rc_10 : ¬ (1 : Int32) = 0 := by decide
theorem rc_t10 : ¬ (10 : Int32) = 0 := by decide
theorem rc_m6 : ¬ (1000000 : Int64) = 0 := by decide
theorem rc_n1 : vp_nar .boolean 1 = 1 := rfl
theorem rc_n0 : vp_nar .boolean 0 = 0 := rfl
theorem rc_nm1 {q : Nat} (h : q < 2 ^ 31) : ¬ nI q = (-1 : Int32) := by
  intro z
  have h1 := nI_toInt h
  rw [z] at h1
  have h2 : (-1 : Int32).toInt = -1 := by decide
  omega
theorem rc_and3 {w : Nat} (h : w ≤ 3) : nI w &&& 3 = nI w := by
  have h' : w = 0 ∨ w = 1 ∨ w = 2 ∨ w = 3 := by omega
  rcases h' with rfl | rfl | rfl | rfl <;> decide
theorem rc_and15 {w : Nat} (h : w < 16) : nI w &&& 15 = nI w := by
  rw [pk_andN (by omega) 4 (by decide)]
  exact congrArg nI (Nat.mod_eq_of_lt (by omega))
def rc_01 (f : Nat → Int32) : Prop := ∀ j : Nat, f j = 0 ∨ f j = 1
theorem rc_01u {f : Nat → Int32} (h : rc_01 f) (k : Nat) {x : Int32} (hx : x = 0 ∨ x = 1) : rc_01 (upd f k x) := by
  intro j
  by_cases e : j = k
  · subst e
    rw [pk_us]
    exact hx
  · rw [pk_un e]
    exact h j
def rc_W (f : Nat → Int32) : Prop := ∀ j : Nat, rc_b 999999 (f j)
theorem rc_Wu {f : Nat → Int32} (h : rc_W f) (k : Nat) {x : Int32} (hx : rc_b 999999 x) : rc_W (upd f k x) := by
  intro j
  by_cases e : j = k
  · subst e
    rw [pk_us]
    exact hx
  · rw [pk_un e]
    exact h j
theorem rc_pos {z : Int32} (h : rc_b 999999 z) (h0 : 0 ≤ z) : ∃ m : Nat, m ≤ 999999 ∧ z = nI m := by
  obtain ⟨m, hm, rfl⟩ := nI_of (x := z) (Int32.not_lt.mpr h0)
  obtain ⟨_, h2⟩ := h
  rw [nI_toInt hm] at h2
  exact ⟨m, by omega, rfl⟩
theorem rc_neg {z : Int32} (h : rc_b 999999 z) (h0 : ¬ 0 ≤ z) : ∃ m : Nat, m ≤ 999999 ∧ -z = nI m := by
  obtain ⟨h1, h2⟩ := h
  have h3 : z.toInt < 0 := by
    have h4 := Int32.not_le.mp h0
    rw [Int32.lt_iff_toInt_lt, rc_t0] at h4
    exact h4
  have e : (-z).toInt = -z.toInt := Jvm.Kit.i32_neg (by omega)
  have h5 : 0 ≤ -z := by
    rw [Int32.le_iff_toInt_le, e, rc_t0]
    omega
  obtain ⟨m, hm, em⟩ := nI_of (x := -z) (Int32.not_lt.mpr h5)
  have h6 : (-z).toInt = (m : Int) := by rw [em, nI_toInt hm]
  exact ⟨m, by omega, em⟩
theorem rc_le64 (x y : Int32) : x.toInt64 ≤ y.toInt64 ↔ x ≤ y := by
  rw [Int64.le_iff_toInt_le, Int32.toInt_toInt64, Int32.toInt_toInt64, Int32.le_iff_toInt_le]
theorem rc_eq64 (x y : Int32) : x.toInt64 = y.toInt64 ↔ x = y := by
  rw [← Int64.toInt_inj, Int32.toInt_toInt64, Int32.toInt_toInt64, Int32.toInt_inj]
theorem rc_i64 (x : Int32) : x.toInt64.toInt32 = x := by
  rw [← Int32.toInt_inj, Jvm.Kit.i32_of_i64, Int32.toInt_toInt64]
  · rw [Int32.toInt_toInt64]
    exact x.le_toInt
  · rw [Int32.toInt_toInt64]
    exact x.toInt_lt
/-- x from a to b, as both sides ask it -/
def rc_o (a b x : Int32) : Prop := ¬ x < a ∧ ¬ b < x
theorem rc_on {M x : Int32} {n : Nat} (hM : M.toInt = n) (h : rc_o 0 M x) : ∃ j : Nat, j ≤ n ∧ x = nI j := nI_of2 hM h.1 (Int32.not_lt.mp h.2)
theorem rc_ob {a b x : Int32} {B : Int} (h : rc_o a b x) (ha : -B ≤ a.toInt) (hb : b.toInt ≤ B) : rc_b B x := by
  have h1 := Int32.not_lt.mp h.1
  have h2 := Int32.not_lt.mp h.2
  rw [Int32.le_iff_toInt_le] at h1 h2
  exact ⟨by omega, by omega⟩
theorem rc_34 (w : Int32) : 4 ≤ w ↔ 3 < w := by
  rw [Int32.le_iff_toInt_le, Int32.lt_iff_toInt_lt]
  have h1 : (4 : Int32).toInt = 4 := by decide
  have h2 : (3 : Int32).toInt = 3 := by decide
  omega
theorem rc_56 (w : Int32) : 6 ≤ w ↔ 5 < w := by
  rw [Int32.le_iff_toInt_le, Int32.lt_iff_toInt_lt]
  have h1 : (6 : Int32).toInt = 6 := by decide
  have h2 : (5 : Int32).toInt = 5 := by decide
  omega
def rc_vc (kk kp kf ks : Nat → Int32) : Prop := ∀ j : Nat, rc_b 999 (kk j) ∧ rc_b 999 (kp j) ∧ rc_b 999 (kf j) ∧ rc_b 999 (ks j)
def rc_v1 (w c o t x y k : Int32) : Prop :=
  (∃ a : Nat, a ≤ 3 ∧ w = nI a) ∧ (∃ a : Nat, a ≤ 8 ∧ c = nI a) ∧ (∃ a b : Nat, a ≤ 9 ∧ b ≤ 5 ∧ o = nI a ∧ t = nI b ∧ (a = 6 ∨ a = 7 → b ≤ 3)) ∧
  (∃ a : Nat, a ≤ 10 ∧ x = nI a) ∧ (∃ a : Nat, a ≤ 10 ∧ y = nI a) ∧ rc_b 999 k
def rc_vl (lw lc lo lt lx ly lk : Nat → Int32) : Prop := ∀ j : Nat, rc_v1 (lw j) (lc j) (lo j) (lt j) (lx j) (ly j) (lk j)
theorem rc_vcu {kk kp kf ks : Nat → Int32} (h : rc_vc kk kp kf ks) (k : Nat) {a b c d : Int32} (ha : rc_b 999 a) (hb : rc_b 999 b) (hc : rc_b 999 c) (hd : rc_b 999 d) :
    rc_vc (upd kk k a) (upd kp k b) (upd kf k c) (upd ks k d) := by
  intro j
  by_cases e : j = k
  · subst e
    rw [pk_us, pk_us, pk_us, pk_us]
    exact ⟨ha, hb, hc, hd⟩
  · rw [pk_un e, pk_un e, pk_un e, pk_un e]
    exact h j
theorem rc_vlu {lw lc lo lt lx ly lk : Nat → Int32} (h : rc_vl lw lc lo lt lx ly lk) (i : Nat) {w c o t x y k : Int32} (hv : rc_v1 w c o t x y k) :
    rc_vl (upd lw i w) (upd lc i c) (upd lo i o) (upd lt i t) (upd lx i x) (upd ly i y) (upd lk i k) := by
  intro j
  by_cases e : j = i
  · subst e
    rw [pk_us, pk_us, pk_us, pk_us, pk_us, pk_us, pk_us]
    exact hv
  · rw [pk_un e, pk_un e, pk_un e, pk_un e, pk_un e, pk_un e, pk_un e]
    exact h j
theorem rc_vlo {lw lc lo lt lx ly lk : Nat → Int32} (h : rc_vl lw lc lo lt lx ly lk) (i : Nat) {x y k : Int32} (hx : ∃ a : Nat, a ≤ 10 ∧ x = nI a) (hy : ∃ a : Nat, a ≤ 10 ∧ y = nI a) (hk : rc_b 999 k) :
    rc_vl lw lc lo lt (upd lx i x) (upd ly i y) (upd lk i k) := by
  intro j
  have hj := h j
  by_cases e : j = i
  · subst e
    rw [pk_us, pk_us, pk_us]
    exact ⟨hj.1, hj.2.1, hj.2.2.1, hx, hy, hk⟩
  · rw [pk_un e, pk_un e, pk_un e]
    exact hj
