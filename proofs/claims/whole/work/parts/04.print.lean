/-! printing a number: one digit, then all -/
def rc_d (m u : Nat) : Int32 := nI m / nI u - nI m / nI u / 10 * 10
theorem rc_dd {m u : Nat} (hm : m ≤ 999999) (hu : 1 ≤ u) (hu' : u ≤ 100000) : rc_d m u = nI (m / u % 10) := by
  have h1 : m / u ≤ m := Nat.div_le_self m u
  unfold rc_d
  rw [pk_div (by omega) hu (by omega)]
  exact pk_rem (d := 10) (by omega) (by decide) (by decide)
theorem rc_d0 {m u : Nat} (hm : m ≤ 999999) (hu : 1 ≤ u) (hu' : u ≤ 100000) (h : 0 < rc_d m u) : u ≤ m := by
  rw [rc_dd hm hu hu'] at h
  by_cases z : u ≤ m
  · exact z
  · rw [Nat.div_eq_of_lt (by omega)] at h
    exact absurd h (by decide)
theorem rc_d1 {m u : Nat} (hm : m ≤ 999999) (hu : 1 ≤ u) (hu' : u ≤ 100000) (h : ¬ 0 < rc_d m u) (h1 : u ≤ m) : 10 * u ≤ m := by
  rw [rc_dd hm hu hu'] at h
  by_cases z : 10 * u ≤ m
  · exact z
  · have a1 : m / u < 10 := Nat.div_lt_of_lt_mul (by omega)
    have a2 : 0 < m / u := Nat.div_pos h1 hu
    rw [Nat.mod_eq_of_lt a1] at h
    exact absurd (nI_lt (a := 0) a2 (by omega)) h
def rc_pt (m u t : Nat) : Nat := if u ≤ m ∨ u = 1 then t + 1 else t
def rc_pc (m u t : Nat) (ch : Nat → Int32) : Nat → Int32 := if u ≤ m ∨ u = 1 then rc_ch t ch (48 + rc_d m u) else ch
theorem rc_pt_le (m u t : Nat) : rc_pt m u t ≤ t + 1 := by
  unfold rc_pt
  split <;> omega

section
variable {C L : Nat} {lev : Int32} {kk kp kf ks lw lc lo lt lx ly lk code ss se : Nat → Int32} {p : Int32} {t : Nat} {e e' : Int32} {wf ind ch : Nat → Int32}

theorem rc_pX {m u n : Nat} (hm : m ≤ 999999) (hu : 1 ≤ u) (hu' : u ≤ 100000) (ht : t < 2 ^ 30) {post : SX → Prop}
    (h : wX_print_18 post (nI m) n (nI (u / 10)) (nI C) (nI L) lev (nI (rc_pt m u t)) p e kk kp kf ks lw lc lo lt lx ly lk code ss se wf ind (rc_pc m u t ch)) : wX_print_18 post (nI m) (n + 1) (nI u) (nI C) (nI L) lev (nI t) p e kk kp kf ks lw lc lo lt lx ly lk code ss se wf ind ch := by
  have d10 : nI u / 10 = nI (u / 10) := pk_div (d := 10) (by omega) (by decide) (by decide)
  have nu : ¬ nI u < 1 := nI_nlt (b := 1) hu (by omega)
  have nz : ¬ nI u = 0 := nI_ne0 (by omega) (by omega)
  by_cases hq : u ≤ m ∨ u = 1
  · unfold rc_pt rc_pc at h
    rw [if_pos hq, if_pos hq] at h
    have hc : wX_print_33 post (wX_print_18 post (nI m) n) (nI m) (nI u) (nI C) (nI L) lev (nI t) p e kk kp kf ks lw lc lo lt lx ly lk code ss se wf ind ch :=
      And.intro nz (And.intro rc_t10 (rc_aX ht (And.intro rc_t10 (nm_r d10 h))))
    by_cases h1 : u ≤ m
    · exact br_f nu (br_t (nI_le h1 (by omega)) hc)
    · exact br_f nu (br_f (nI_ge (by omega) (by omega)) (br_t (congrArg nI (hq.resolve_left h1)) hc))
  · unfold rc_pt rc_pc at h
    rw [if_neg hq, if_neg hq] at h
    have h1 : ¬ u ≤ m := fun z => hq (Or.inl z)
    have h2 : ¬ u = 1 := fun z => hq (Or.inr z)
    exact br_f nu (br_f (nI_ge (by omega) (by omega)) (br_f (fun z => h2 ((nI_eq (b := 1) (by omega) (by omega)).mp z)) (And.intro rc_t10 (nm_r d10 h))))

theorem rc_pY {m u k n : Nat} {s s' : Int32} (hm : m ≤ 999999) (hu : 1 ≤ u) (hu' : u ≤ 100000) (hk : k ≤ 5) (hk5 : k = 5 ↔ u = 1) (ht : t < 2 ^ 30)
    (hs : s = if 10 * u ≤ m then 1 else 0) (hs' : s' = if u ≤ m ∨ u = 1 then 1 else 0) {post : SY → Prop}
    (h : wY_print_30 post (nI m) n s' (nI (u / 10)) (nI (k + 1)) (nI C) (nI L) p e (nI (rc_pt m u t)) kk kp kf ks lw lc lo lt lx ly lk wf ind (rc_pc m u t ch)) : wY_print_30 post (nI m) (n + 1) s (nI u) (nI k) (nI C) (nI L) p e (nI t) kk kp kf ks lw lc lo lt lx ly lk wf ind ch := by
  have d10 : nI u / 10 = nI (u / 10) := pk_div (d := 10) (by omega) (by decide) (by decide)
  have nk : ¬ (6 : Int32) ≤ nI k := nI_ge (b := 6) (by omega) (by decide)
  have u1 : (1 : Int32) ≤ nI u := nI_le (a := 1) hu (by omega)
  have nz : ¬ nI u = 0 := nI_ne0 (by omega) (by omega)
  have key : ∀ s0 : Int32, s0 = s' → wY_print_69 post (wY_print_30 post (nI m) n) (nI m) s0 (nI u) (nI k) (rc_d m u) (nI C) (nI L) p e (nI t) kk kp kf ks lw lc lo lt lx ly lk wf ind ch := by
    intro s0 es
    subst es
    by_cases hq : u ≤ m ∨ u = 1
    · unfold rc_pt rc_pc at h
      rw [if_pos hq, if_pos hq] at h
      rw [if_pos hq] at hs'
      exact br_f (by rw [hs']; decide) (rc_aY ht (And.intro rc_t10 (nm_r d10 (nm_r (nI_1 k) h))))
    · unfold rc_pt rc_pc at h
      rw [if_neg hq, if_neg hq] at h
      rw [if_neg hq] at hs'
      exact br_t hs' (And.intro rc_t10 (nm_r d10 (nm_r (nI_1 k) h)))
  refine br_f nk (br_t u1 (And.intro nz (And.intro rc_t10 (nm_e ?_))))
  by_cases hD : 0 < rc_d m u
  · exact br_t hD (key 1 (by rw [hs', if_pos (Or.inl (rc_d0 hm hu hu' hD))]))
  · by_cases h5 : k = 5
    · exact br_f hD (br_t (congrArg nI h5) (key 1 (by rw [hs', if_pos (Or.inr (hk5.mp h5))])))
    · refine br_f hD (br_f (fun z => h5 ((nI_eq (b := 5) (by omega) (by omega)).mp z)) (key s ?_))
      have hn : ¬ u = 1 := fun z => h5 (hk5.mpr z)
      rw [hs, hs']
      by_cases z : u ≤ m
      · rw [if_pos (Or.inl z), if_pos (rc_d1 hm hu hu' hD z)]
      · rw [if_neg (by omega), if_neg (by omega)]

/-- from the digit of 10 ^ d on, both sides add the same characters -/
theorem rc_pr {m : Nat} (hm : m ≤ 999999) : ∀ (d : Nat) (t : Nat) (ch : Nat → Int32) (s : Int32), d ≤ 5 → t + d + 2 < 2 ^ 30 → s = (if 10 * 10 ^ d ≤ m then 1 else 0) →
    ∃ (t' : Nat) (ch' : Nat → Int32), t' ≤ t + d + 2 ∧ (∀ post : SX → Prop, post ((nI C), (nI L), lev, (nI t'), p, e, kk, kp, kf, ks, lw, lc, lo, lt, lx, ly, lk, code, ss, se, wf, ind, ch') → wX_print_18 post (nI m) (d + 2) (nI (10 ^ d)) (nI C) (nI L) lev (nI t) p e kk kp kf ks lw lc lo lt lx ly lk code ss se wf ind ch) ∧
      (∀ post : SY → Prop, post ((nI C), (nI L), p, e', (nI t'), kk, kp, kf, ks, lw, lc, lo, lt, lx, ly, lk, wf, ind, ch') → wY_print_30 post (nI m) (d + 2) s (nI (10 ^ d)) (nI (5 - d)) (nI C) (nI L) p e' (nI t) kk kp kf ks lw lc lo lt lx ly lk wf ind ch) := by
  intro d
  induction d with
  | zero =>
    intro t ch s _ ht hs
    have b1 := rc_pt_le m 1 t
    refine ⟨rc_pt m 1 t + 1, rc_ch (rc_pt m 1 t) (rc_pc m 1 t ch) 32, by omega, fun post h => ?_, fun post h => ?_⟩
    · exact rc_pX (u := 1) hm (by decide) (by decide) (by omega) (br_t (by decide) (rc_aX (by omega) h))
    · exact rc_pY (u := 1) (k := 5) hm (by decide) (by decide) (by decide) (by decide) (by omega) hs (s' := 1) (by rw [if_pos (Or.inr rfl)]) (br_t (by decide) (rc_aY (by omega) h))
  | succ d ih =>
    intro t ch s hd ht hs
    have p1 : 1 ≤ 10 ^ d := Nat.one_le_pow _ _ (by decide)
    have p2 : 10 ^ (d + 1) = 10 * 10 ^ d := by rw [Nat.pow_succ, Nat.mul_comm]
    have p3 : 10 ^ (d + 1) ≤ 100000 := Nat.pow_le_pow_right (n := 10) (j := 5) (by decide) hd
    have p4 : 10 ^ (d + 1) / 10 = 10 ^ d := by rw [p2, Nat.mul_div_cancel_left _ (by decide)]
    have b1 := rc_pt_le m (10 ^ (d + 1)) t
    obtain ⟨t', ch', hb, hX, hY⟩ := ih (rc_pt m (10 ^ (d + 1)) t) (rc_pc m (10 ^ (d + 1)) t ch) (if 10 ^ (d + 1) ≤ m ∨ 10 ^ (d + 1) = 1 then 1 else 0) (by omega) (by omega)
      (by
        by_cases z : 10 * 10 ^ d ≤ m
        · rw [if_pos z, if_pos (by omega)]
        · rw [if_neg z, if_neg (by omega)])
    refine ⟨t', ch', by omega, fun post h => ?_, fun post h => ?_⟩
    · have g := hX post h
      rw [← p4] at g
      exact rc_pX hm (by omega) p3 (by omega) g
    · have g := hY post h
      have e5 : 5 - d = 5 - (d + 1) + 1 := by omega
      rw [← p4, e5] at g
      exact rc_pY hm (by omega) p3 (by omega) (by omega) (by omega) hs rfl g

theorem rc_print (ht : t + 8 < 2 ^ 30) {z : Int32} (hz : rc_b 999999 z) :
    ∃ (t' : Nat) (ch' : Nat → Int32), t' ≤ t + 8 ∧ (∀ post : SX → Prop, post ((nI C), (nI L), lev, (nI t'), p, e, kk, kp, kf, ks, lw, lc, lo, lt, lx, ly, lk, code, ss, se, wf, ind, ch') → wpX_print post ((nI C), (nI L), lev, (nI t), p, e, kk, kp, kf, ks, lw, lc, lo, lt, lx, ly, lk, code, ss, se, wf, ind, ch) z) ∧
      (∀ post : SY → Prop, post ((nI C), (nI L), p, e', (nI t'), kk, kp, kf, ks, lw, lc, lo, lt, lx, ly, lk, wf, ind, ch') → wpY_print post ((nI C), (nI L), p, e', (nI t), kk, kp, kf, ks, lw, lc, lo, lt, lx, ly, lk, wf, ind, ch) z) := by
  by_cases h0 : 0 ≤ z
  · obtain ⟨m, hm, rfl⟩ := rc_pos hz h0
    obtain ⟨t', ch', hb, hX, hY⟩ := rc_pr (C := C) (L := L) (lev := lev) (kk := kk) (kp := kp) (kf := kf) (ks := ks) (lw := lw) (lc := lc) (lo := lo) (lt := lt) (lx := lx) (ly := ly) (lk := lk) (code := code) (ss := ss) (se := se) (p := p) (e := e) (e' := e') (wf := wf) (ind := ind) hm 5 t ch 0 (by decide) (by omega) (by rw [if_neg (by omega)])
    exact ⟨t', ch', by omega, fun post h => br_t h0 ⟨_, hX post h⟩, fun post h => br_t h0 (br_t h0 ⟨_, hY post h⟩)⟩
  · obtain ⟨m, hm, em⟩ := rc_neg hz h0
    obtain ⟨t', ch', hb, hX, hY⟩ := rc_pr (C := C) (L := L) (lev := lev) (kk := kk) (kp := kp) (kf := kf) (ks := ks) (lw := lw) (lc := lc) (lo := lo) (lt := lt) (lx := lx) (ly := ly) (lk := lk) (code := code) (ss := ss) (se := se) (p := p) (e := e) (e' := e') (wf := wf) (ind := ind) hm 5 (t + 1) (rc_ch t ch 45) 0 (by decide) (by omega) (by rw [if_neg (by omega)])
    exact ⟨t', ch', by omega, fun post h => br_f h0 (rc_aX (by omega) (nm_r em ⟨_, hX post h⟩)), fun post h => br_f h0 (rc_aY (by omega) (br_f h0 (nm_r em ⟨_, hY post h⟩)))⟩
end
