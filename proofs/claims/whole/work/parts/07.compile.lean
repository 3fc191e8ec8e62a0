/-! what a run begins with, and compiling -/
def rc_z (n : Nat) (f : Nat → Int32) : Nat → Int32 := fun j => if j < n then 0 else f j
theorem rc_z0 (f : Nat → Int32) : rc_z 0 f = f := funext fun j => if_neg (Nat.not_lt_zero j)
theorem rc_zs {i : Nat} (hi : i < 2 ^ 31) (f : Nat → Int32) : upd (rc_z i f) (nI i).toNatClampNeg 0 = rc_z (i + 1) f := by
  rw [nI_clamp hi]
  funext j
  show (if j = i then 0 else if j < i then 0 else f j) = if j < i + 1 then 0 else f j
  by_cases h1 : j = i
  · rw [if_pos h1, if_pos (by omega)]
  · by_cases h2 : j < i
    · rw [if_neg h1, if_pos h2, if_pos (by omega)]
    · rw [if_neg h1, if_neg h2, if_neg (by omega)]
theorem rc_zW {f : Nat → Int32} (n : Nat) (h : rc_W f) : rc_W (rc_z n f) := by
  intro j
  show rc_b 999999 (if j < n then 0 else f j)
  by_cases z : j < n
  · rw [if_pos z]
    exact rc_b_0 (by decide)
  · rw [if_neg z]
    exact h j
theorem rc_z01 {f : Nat → Int32} (n : Nat) (h : rc_01 f) : rc_01 (rc_z n f) := by
  intro j
  show (if j < n then 0 else f j) = 0 ∨ (if j < n then 0 else f j) = 1
  by_cases z : j < n
  · rw [if_pos z]
    exact Or.inl rfl
  · rw [if_neg z]
    exact h j

section
variable {C L : Nat} {lev : Int32} {kk kp kf ks lw lc lo lt lx ly lk code ss se : Nat → Int32} {p : Int32} {t : Nat} {e e' : Int32} {wf ind ch : Nat → Int32}

theorem rc_bX23 {post : SX → Prop} (h : post ((nI C), (nI L), lev, (nI 0), (-1), 0, kk, kp, kf, ks, lw, lc, lo, lt, lx, ly, lk, code, ss, se, wf, (rc_z 4 ind), ch)) : ∀ d i : Nat, i + d = 4 → wX_beginRun_23 post (nI C) (nI L) lev (nI t) p e (d + 1) (nI i) kk kp kf ks lw lc lo lt lx ly lk code ss se wf (rc_z i ind) ch := by
  intro d
  induction d with
  | zero =>
    intro i hi
    have h4 : i = 4 := hi
    subst h4
    exact br_t (by decide) h
  | succ d ih =>
    intro i hi
    exact br_f (nI_ge (b := 4) (by omega) (by decide)) (And.intro (vp_in_nI (by omega) (by decide)) (nm_r (rc_zs (by omega) ind) (nm_r (nI_1 i) (ih (i + 1) (by omega)))))
theorem rc_bX2 {post : SX → Prop} (h : post ((nI C), (nI L), lev, (nI 0), (-1), 0, kk, kp, kf, ks, lw, lc, lo, lt, lx, ly, lk, code, ss, se, (rc_z 6 wf), (rc_z 4 ind), ch)) : ∀ d i : Nat, i + d = 6 → wX_beginRun_2 post (nI C) (nI L) lev (nI t) p e (d + 1) (nI i) kk kp kf ks lw lc lo lt lx ly lk code ss se (rc_z i wf) ind ch := by
  intro d
  induction d with
  | zero =>
    intro i hi
    have h4 : i = 6 := hi
    subst h4
    have g := rc_bX23 (p := p) (t := t) (e := e) h 4 0 (by decide)
    rw [rc_z0] at g
    exact br_t (by decide) ⟨5, g⟩
  | succ d ih =>
    intro i hi
    exact br_f (nI_ge (b := 6) (by omega) (by decide)) (And.intro (vp_in_nI (by omega) (by decide)) (nm_r (rc_zs (by omega) wf) (nm_r (nI_1 i) (ih (i + 1) (by omega)))))
theorem rc_bX {post : SX → Prop} (h : post ((nI C), (nI L), lev, (nI 0), (-1), 0, kk, kp, kf, ks, lw, lc, lo, lt, lx, ly, lk, code, ss, se, (rc_z 6 wf), (rc_z 4 ind), ch)) : wpX_beginRun post ((nI C), (nI L), lev, (nI t), p, e, kk, kp, kf, ks, lw, lc, lo, lt, lx, ly, lk, code, ss, se, wf, ind, ch) := by
  have g := rc_bX2 (p := p) (t := t) (e := e) h 6 0 (by decide)
  rw [rc_z0] at g
  exact ⟨7, g⟩
theorem rc_bY23 {post : Int32 → SY → Prop} (h : ∃ n : Nat, wY_run_58 post n (nI 0) (nI C) (nI L) (-1) 0 (nI 0) kk kp kf ks lw lc lo lt lx ly lk wf (rc_z 4 ind) ch) : ∀ d i : Nat, i + d = 4 → wY_run_23 post (nI C) (nI L) p e (nI t) (d + 1) (nI i) kk kp kf ks lw lc lo lt lx ly lk wf (rc_z i ind) ch := by
  intro d
  induction d with
  | zero =>
    intro i hi
    have h4 : i = 4 := hi
    subst h4
    exact br_t (by decide) h
  | succ d ih =>
    intro i hi
    exact br_f (nI_ge (b := 4) (by omega) (by decide)) (And.intro (vp_in_nI (by omega) (by decide)) (nm_r (rc_zs (by omega) ind) (nm_r (nI_1 i) (ih (i + 1) (by omega)))))
theorem rc_bY2 {post : Int32 → SY → Prop} (h : ∃ n : Nat, wY_run_58 post n (nI 0) (nI C) (nI L) (-1) 0 (nI 0) kk kp kf ks lw lc lo lt lx ly lk (rc_z 6 wf) (rc_z 4 ind) ch) : ∀ d i : Nat, i + d = 6 → wY_run_2 post (nI C) (nI L) p e (nI t) (d + 1) (nI i) kk kp kf ks lw lc lo lt lx ly lk (rc_z i wf) ind ch := by
  intro d
  induction d with
  | zero =>
    intro i hi
    have h4 : i = 6 := hi
    subst h4
    have g := rc_bY23 (p := p) (t := t) (e := e) h 4 0 (by decide)
    rw [rc_z0] at g
    exact br_t (by decide) ⟨5, g⟩
  | succ d ih =>
    intro i hi
    exact br_f (nI_ge (b := 6) (by omega) (by decide)) (And.intro (vp_in_nI (by omega) (by decide)) (nm_r (rc_zs (by omega) wf) (nm_r (nI_1 i) (ih (i + 1) (by omega)))))
theorem rc_bY {post : Int32 → SY → Prop} (h : ∃ n : Nat, wY_run_58 post n (nI 0) (nI C) (nI L) (-1) 0 (nI 0) kk kp kf ks lw lc lo lt lx ly lk (rc_z 6 wf) (rc_z 4 ind) ch) : wpY_run post ((nI C), (nI L), p, e, (nI t), kk, kp, kf, ks, lw, lc, lo, lt, lx, ly, lk, wf, ind, ch) := by
  have g := rc_bY2 (p := p) (t := t) (e := e) h 6 0 (by decide)
  rw [rc_z0] at g
  exact ⟨7, g⟩

/-! level 0: all lines in every section -/
theorem rc_cW25 (hL : L ≤ 14) {post : SX → Prop} (hc : ∀ j, j < L → code j = nI j) (H : ∀ ss' se' : Nat → Int32, (∀ j, j < 4 → ss' j = nI 0 ∧ se' j = nI L) → post ((nI C), (nI L), lev, (nI t), p, e, kk, kp, kf, ks, lw, lc, lo, lt, lx, ly, lk, code, ss', se', wf, ind, ch)) :
    ∀ (d i : Nat) (ss se : Nat → Int32), i + d = 4 → (∀ j, j < i → ss j = nI 0 ∧ se j = nI L) → wX_compileWhole_25 post (nI C) (nI L) lev (nI t) p e (d + 1) (nI i) kk kp kf ks lw lc lo lt lx ly lk code ss se wf ind ch := by
  intro d
  induction d with
  | zero =>
    intro i ss se hi hs
    have h4 : i = 4 := hi
    subst h4
    exact br_t (by decide) (H ss se hs)
  | succ d ih =>
    intro i ss se hi hs
    have ci : (nI i).toNatClampNeg = i := nI_clamp (by omega)
    have vi : vp_in (nI i) 4 := vp_in_nI (by omega) (by decide)
    refine br_f (nI_ge (b := 4) (by omega) (by decide)) (And.intro vi (nm_e (And.intro vi (nm_e (nm_r (nI_1 i) (ih (i + 1) _ _ (by omega) ?_))))))
    intro j hj
    rw [ci]
    by_cases z : j = i
    · subst z
      rw [pk_us, pk_us]
      exact ⟨rfl, rfl⟩
    · rw [pk_un z, pk_un z]
      exact hs j (by omega)
theorem rc_cW2 (hL : L ≤ 14) {post : SX → Prop} (H : ∀ code' ss' se' : Nat → Int32, (∀ j, j < L → code' j = nI j) → (∀ j, j < 4 → ss' j = nI 0 ∧ se' j = nI L) → post ((nI C), (nI L), lev, (nI t), p, e, kk, kp, kf, ks, lw, lc, lo, lt, lx, ly, lk, code', ss', se', wf, ind, ch)) :
    ∀ (d i : Nat) (code : Nat → Int32), i + d = L → (∀ j, j < i → code j = nI j) → wX_compileWhole_2 post (nI C) (nI L) lev (nI t) p e (d + 1) (nI i) kk kp kf ks lw lc lo lt lx ly lk code ss se wf ind ch := by
  intro d
  induction d with
  | zero =>
    intro i code hi hc
    have h4 : i = L := hi
    subst h4
    exact br_t (nI_le (Nat.le_refl _) (by omega)) ⟨5, rc_cW25 hL hc (fun ss' se' h => H code ss' se' hc h) 4 0 ss se (by decide) (fun j hj => absurd hj (Nat.not_lt_zero j))⟩
  | succ d ih =>
    intro i code hi hc
    have ci : (nI i).toNatClampNeg = i := nI_clamp (by omega)
    refine br_f (nI_ge (by omega) (by omega)) (And.intro (vp_in_nI (by omega) (by decide)) (nm_e (nm_r (nI_1 i) (ih (i + 1) _ (by omega) ?_))))
    intro j hj
    rw [ci]
    by_cases z : j = i
    · subst z
      rw [pk_us]
    · rw [pk_un z]
      exact hc j (by omega)
theorem rc_okW (hL : L ≤ 14) {code ss se : Nat → Int32} (hc : ∀ j, j < L → code j = nI j) (hs : ∀ j, j < 4 → ss j = nI 0 ∧ se j = nI L) : rc_ok L lw code ss se := by
  intro w hw
  refine ⟨0, L, (hs w hw).1, ?_, by omega, fun j _ hj => ⟨j, by omega, hc j (by omega)⟩, rc_ls_congr L 0 (fun j _ hj => ?_)⟩
  · rw [Nat.zero_add]
    exact (hs w hw).2
  · show (code j).toNatClampNeg = j
    rw [hc j (by omega)]
    exact nI_clamp (by omega)
end
