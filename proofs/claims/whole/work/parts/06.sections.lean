/-! a section: both sides execute the same list of lines -/
abbrev rc_R : Type := Nat × Int32 × (Nat → Int32) × (Nat → Int32) × (Nat → Int32)
def rc_I (B : Nat) (R : rc_R) : Prop := R.1 ≤ B ∧ rc_W R.2.2.1 ∧ rc_01 R.2.2.2.1
/-- the lines of one when among the d lines that g names from place i on -/
def rc_ls (g : Nat → Nat) (lw : Nat → Int32) (w : Int32) : Nat → Nat → List Nat
  | 0, _ => []
  | d + 1, i => if lw (g i) = w then g i :: rc_ls g lw w d (i + 1) else rc_ls g lw w d (i + 1)
theorem rc_ls_len (g : Nat → Nat) (lw : Nat → Int32) (w : Int32) : ∀ d i : Nat, (rc_ls g lw w d i).length ≤ d := by
  intro d
  induction d with
  | zero => intro i; exact Nat.le_refl 0
  | succ d ih =>
    intro i
    have h := ih (i + 1)
    show (if lw (g i) = w then g i :: rc_ls g lw w d (i + 1) else rc_ls g lw w d (i + 1)).length ≤ d + 1
    by_cases z : lw (g i) = w
    · rw [if_pos z, List.length_cons]
      omega
    · rw [if_neg z]
      omega
theorem rc_ls_mem (lw : Nat → Int32) (w : Int32) : ∀ d i : Nat, ∀ j ∈ rc_ls (fun j => j) lw w d i, j < i + d := by
  intro d
  induction d with
  | zero => intro i j h; exact absurd h List.not_mem_nil
  | succ d ih =>
    intro i j h
    have h' : j ∈ (if lw i = w then i :: rc_ls (fun j => j) lw w d (i + 1) else rc_ls (fun j => j) lw w d (i + 1)) := h
    by_cases z : lw i = w
    · rw [if_pos z] at h'
      rcases List.mem_cons.mp h' with rfl | h2
      · omega
      · have := ih (i + 1) j h2
        omega
    · rw [if_neg z] at h'
      have := ih (i + 1) j h'
      omega
theorem rc_ls_congr {g g' : Nat → Nat} {lw : Nat → Int32} {w : Int32} : ∀ d i : Nat, (∀ j, i ≤ j → j < i + d → g j = g' j) → rc_ls g lw w d i = rc_ls g' lw w d i := by
  intro d
  induction d with
  | zero => intro i _; rfl
  | succ d ih =>
    intro i h
    have h1 := ih (i + 1) (fun j a b => h j (by omega) (by omega))
    have h2 := h i (Nat.le_refl i) (by omega)
    show (if lw (g i) = w then g i :: rc_ls g lw w d (i + 1) else rc_ls g lw w d (i + 1)) = (if lw (g' i) = w then g' i :: rc_ls g' lw w d (i + 1) else rc_ls g' lw w d (i + 1))
    rw [h1, h2]

section
variable {C L : Nat} {lev : Int32} {kk kp kf ks lw lc lo lt lx ly lk code ss se : Nat → Int32} {p : Int32}

def rc_go (C L : Nat) (lev : Int32) (kk kp kf ks lw lc lo lt lx ly lk code ss se : Nat → Int32) (p : Int32) (R : rc_R) (i : Nat) (R' : rc_R) : Prop :=
  ∃ r : Int32, (∀ post : Int32 → Prop, post r → wpX_conditionHolds post ((nI C), (nI L), lev, (nI R.1), p, R.2.1, kk, kp, kf, ks, lw, lc, lo, lt, lx, ly, lk, code, ss, se, R.2.2.1, R.2.2.2.1, R.2.2.2.2) (lc (nI i).toNatClampNeg)) ∧ (∀ post : Int32 → Prop, post r → wpY_isMet post ((nI C), (nI L), p, R.2.1, (nI R.1), kk, kp, kf, ks, lw, lc, lo, lt, lx, ly, lk, R.2.2.1, R.2.2.2.1, R.2.2.2.2) (lc (nI i).toNatClampNeg)) ∧
    ((r = 0 ∧ R' = R) ∨ (¬ r = 0 ∧ (∀ post : SX → Prop, post ((nI C), (nI L), lev, (nI R'.1), p, R'.2.1, kk, kp, kf, ks, lw, lc, lo, lt, lx, ly, lk, code, ss, se, R'.2.2.1, R'.2.2.2.1, R'.2.2.2.2) → wpX_executeLine post ((nI C), (nI L), lev, (nI R.1), p, (R.2.1 + 1), kk, kp, kf, ks, lw, lc, lo, lt, lx, ly, lk, code, ss, se, R.2.2.1, R.2.2.2.1, R.2.2.2.2) (nI i)) ∧ (∀ post : SY → Prop, post ((nI C), (nI L), p, R'.2.1, (nI R'.1), kk, kp, kf, ks, lw, lc, lo, lt, lx, ly, lk, R'.2.2.1, R'.2.2.2.1, R'.2.2.2.2) → wpY_execute post ((nI C), (nI L), p, R.2.1, (nI R.1), kk, kp, kf, ks, lw, lc, lo, lt, lx, ly, lk, R.2.2.1, R.2.2.2.1, R.2.2.2.2) (nI i))))
def rc_fo (C L : Nat) (lev : Int32) (kk kp kf ks lw lc lo lt lx ly lk code ss se : Nat → Int32) (p : Int32) : List Nat → rc_R → rc_R → Prop
  | [], R, R' => R' = R
  | i :: l, R, R' => ∃ R1 : rc_R, rc_go C L lev kk kp kf ks lw lc lo lt lx ly lk code ss se p R i R1 ∧ rc_fo C L lev kk kp kf ks lw lc lo lt lx ly lk code ss se p l R1 R'

theorem rc_go_ex (hp : p = -1 ∨ ∃ q : Nat, q < 16 ∧ p = nI q) (hvc : rc_vc kk kp kf ks) (hvl : rc_vl lw lc lo lt lx ly lk) {B : Nat} {R : rc_R} (hR : rc_I B R) (hB : B + 8 < 2 ^ 30) {i : Nat} (hi : i < 14) :
    ∃ R' : rc_R, rc_go C L lev kk kp kf ks lw lc lo lt lx ly lk code ss se p R i R' ∧ rc_I (B + 8) R' := by
  obtain ⟨t, e, wf, ind, ch⟩ := R
  obtain ⟨h1, h2, h3⟩ := hR
  have h1' : t ≤ B := h1
  obtain ⟨-, ⟨a, ha, ea⟩, -⟩ := hvl (nI i).toNatClampNeg
  obtain ⟨r, cX, cY⟩ := rc_cond (C := C) (L := L) (lev := lev) (kk := kk) (kp := kp) (kf := kf) (ks := ks) (lw := lw) (lc := lc) (lo := lo) (lt := lt) (lx := lx) (ly := ly) (lk := lk) (code := code) (ss := ss) (se := se) (p := p) (t := t) (e := e) (e' := e) (wf := wf) (ch := ch) h3 ha ea
  by_cases hr : r = 0
  · exact ⟨(t, e, wf, ind, ch), ⟨r, cX, cY, Or.inl ⟨hr, rfl⟩⟩, Nat.le_add_right_of_le h1', h2, h3⟩
  · obtain ⟨t', wf', ind', ch', b1, b2, b3, lX, lY⟩ := rc_line (C := C) (L := L) (lev := lev) (code := code) (ss := ss) (se := se) (t := t) (e := e + 1) (e' := e) (ch := ch) hp hvc hvl h2 h3 (by omega) hi
    exact ⟨(t', e + 1, wf', ind', ch'), ⟨r, cX, cY, Or.inr ⟨hr, lX, lY⟩⟩, (by omega : t' ≤ B + 8), b2, b3⟩
theorem rc_fo_ex (hp : p = -1 ∨ ∃ q : Nat, q < 16 ∧ p = nI q) (hvc : rc_vc kk kp kf ks) (hvl : rc_vl lw lc lo lt lx ly lk) : ∀ (l : List Nat) (B : Nat) (R : rc_R), (∀ i ∈ l, i < 14) → rc_I B R → B + 8 * l.length < 2 ^ 30 →
    ∃ R' : rc_R, rc_fo C L lev kk kp kf ks lw lc lo lt lx ly lk code ss se p l R R' ∧ rc_I (B + 8 * l.length) R' := by
  intro l
  induction l with
  | nil => intro B R _ hR _; exact ⟨R, rfl, hR⟩
  | cons i l ih =>
    intro B R hl hR hB
    rw [List.length_cons] at hB
    obtain ⟨R1, g1, i1⟩ := rc_go_ex (C := C) (L := L) (lev := lev) (code := code) (ss := ss) (se := se) hp hvc hvl hR (by omega) (hl i (List.mem_cons_self))
    obtain ⟨R2, g2, i2⟩ := ih (B + 8) R1 (fun j hj => hl j (List.mem_cons_of_mem i hj)) i1 (by omega)
    refine ⟨R2, ⟨R1, g1, g2⟩, ?_⟩
    rw [List.length_cons]
    have e : B + 8 * (l.length + 1) = B + 8 + 8 * l.length := by omega
    rw [e]
    exact i2

theorem rc_sX {w E : Nat} (hE : E ≤ 14) {post : SX → Prop} : ∀ (d n i : Nat) (R R' : rc_R), i + d = E → d < n → (∀ j, i ≤ j → j < E → ∃ q : Nat, q < 14 ∧ code j = nI q) →
    rc_fo C L lev kk kp kf ks lw lc lo lt lx ly lk code ss se p (rc_ls (fun j => (code j).toNatClampNeg) lw (nI w) d i) R R' → post ((nI C), (nI L), lev, (nI R'.1), p, R'.2.1, kk, kp, kf, ks, lw, lc, lo, lt, lx, ly, lk, code, ss, se, R'.2.2.1, R'.2.2.2.1, R'.2.2.2.2) → wX_executeSection_14 post (nI w) (nI E) n (nI i) (nI C) (nI L) lev (nI R.1) p R.2.1 kk kp kf ks lw lc lo lt lx ly lk code ss se R.2.2.1 R.2.2.2.1 R.2.2.2.2 := by
  intro d
  induction d with
  | zero =>
    intro n i R R' hi hn _ hf h
    obtain ⟨n, rfl⟩ : ∃ m, n = m + 1 := ⟨n - 1, by omega⟩
    have hf' : R' = R := hf
    subst hf'
    exact br_t (nI_le (by omega) (by omega)) h
  | succ d ih =>
    intro n i R R' hi hn hc hf h
    obtain ⟨n, rfl⟩ : ∃ m, n = m + 1 := ⟨n - 1, by omega⟩
    obtain ⟨q, hq, eq⟩ := hc i (Nat.le_refl i) (by omega)
    have ci : (nI i).toNatClampNeg = i := nI_clamp (by omega)
    have cq : (nI q).toNatClampNeg = q := nI_clamp (by omega)
    have vq : vp_in (nI q) 14 := vp_in_nI hq (by decide)
    have ec : code (nI i).toNatClampNeg = nI q := by rw [ci, eq]
    have hf' : rc_fo C L lev kk kp kf ks lw lc lo lt lx ly lk code ss se p (if lw (code i).toNatClampNeg = nI w then (code i).toNatClampNeg :: rc_ls (fun j => (code j).toNatClampNeg) lw (nI w) d (i + 1) else rc_ls (fun j => (code j).toNatClampNeg) lw (nI w) d (i + 1)) R R' := hf
    rw [eq, cq] at hf'
    have hc' : ∀ j, i + 1 ≤ j → j < E → ∃ q : Nat, q < 14 ∧ code j = nI q := fun j a b => hc j (by omega) b
    refine br_f (nI_ge (by omega) (by omega)) (And.intro (vp_in_nI (by omega) (by decide)) (nm_r ec (And.intro vq ?_)))
    by_cases hw : lw q = nI w
    · rw [if_pos hw] at hf'
      obtain ⟨R1, ⟨r, cX, cY, hg⟩, hf2⟩ := hf'
      refine br_t (by rw [cq]; exact hw) (And.intro vq ?_)
      rcases hg with ⟨hr, rfl⟩ | ⟨hr, lX, lY⟩
      · exact cX _ (br_t hr (nm_r (nI_1 i) (ih n (i + 1) _ R' (by omega) (by omega) hc' hf2 h)))
      · exact cX _ (br_f hr (nm_e (lX _ (nm_r (nI_1 i) (ih n (i + 1) R1 R' (by omega) (by omega) hc' hf2 h)))))
    · rw [if_neg hw] at hf'
      exact br_f (by rw [cq]; exact hw) (nm_r (nI_1 i) (ih n (i + 1) R R' (by omega) (by omega) hc' hf' h))

theorem rc_sY {w : Nat} (hL : L ≤ 14) {post : SY → Prop} : ∀ (d n i : Nat) (R R' : rc_R), i + d = L → d < n →
    rc_fo C L lev kk kp kf ks lw lc lo lt lx ly lk code ss se p (rc_ls (fun j => j) lw (nI w) d i) R R' → post ((nI C), (nI L), p, R'.2.1, (nI R'.1), kk, kp, kf, ks, lw, lc, lo, lt, lx, ly, lk, R'.2.2.1, R'.2.2.2.1, R'.2.2.2.2) → wY_all_2 post (nI w) n (nI i) (nI C) (nI L) p R.2.1 (nI R.1) kk kp kf ks lw lc lo lt lx ly lk R.2.2.1 R.2.2.2.1 R.2.2.2.2 := by
  intro d
  induction d with
  | zero =>
    intro n i R R' hi hn hf h
    obtain ⟨n, rfl⟩ : ∃ m, n = m + 1 := ⟨n - 1, by omega⟩
    have hf' : R' = R := hf
    subst hf'
    exact br_t (nI_le (by omega) (by omega)) h
  | succ d ih =>
    intro n i R R' hi hn hf h
    obtain ⟨n, rfl⟩ : ∃ m, n = m + 1 := ⟨n - 1, by omega⟩
    have ci : (nI i).toNatClampNeg = i := nI_clamp (by omega)
    have vi : vp_in (nI i) 14 := vp_in_nI (by omega) (by decide)
    have hf' : rc_fo C L lev kk kp kf ks lw lc lo lt lx ly lk code ss se p (if lw i = nI w then i :: rc_ls (fun j => j) lw (nI w) d (i + 1) else rc_ls (fun j => j) lw (nI w) d (i + 1)) R R' := hf
    refine br_f (nI_ge (by omega) (by omega)) (And.intro vi ?_)
    by_cases hw : lw i = nI w
    · rw [if_pos hw] at hf'
      obtain ⟨R1, ⟨r, cX, cY, hg⟩, hf2⟩ := hf'
      refine br_t (by rw [ci]; exact hw) (And.intro vi ?_)
      rcases hg with ⟨hr, rfl⟩ | ⟨hr, lX, lY⟩
      · exact cY _ (br_t hr (nm_r (nI_1 i) (ih n (i + 1) _ R' (by omega) (by omega) hf2 h)))
      · exact cY _ (br_f hr (lY _ (nm_r (nI_1 i) (ih n (i + 1) R1 R' (by omega) (by omega) hf2 h))))
    · rw [if_neg hw] at hf'
      exact br_f (by rw [ci]; exact hw) (nm_r (nI_1 i) (ih n (i + 1) R R' (by omega) (by omega) hf' h))

/-- the code is compiled: section w, passed over from its start to its end, has the lines of when w in their order -/
def rc_ok (L : Nat) (lw code ss se : Nat → Int32) : Prop := ∀ w : Nat, w < 4 → ∃ s d : Nat, ss w = nI s ∧ se w = nI (s + d) ∧ s + d ≤ 14 ∧
  (∀ j, s ≤ j → j < s + d → ∃ q : Nat, q < 14 ∧ code j = nI q) ∧ rc_ls (fun j => (code j).toNatClampNeg) lw (nI w) d s = rc_ls (fun j => j) lw (nI w) L 0

theorem rc_sec (hok : rc_ok L lw code ss se) (hL : L ≤ 14) (hp : p = -1 ∨ ∃ q : Nat, q < 16 ∧ p = nI q) (hvc : rc_vc kk kp kf ks) (hvl : rc_vl lw lc lo lt lx ly lk) {w : Nat} (hw : w < 4) {B : Nat} {R : rc_R} (hR : rc_I B R) (hB : B + 112 < 2 ^ 30) :
    ∃ R' : rc_R, rc_I (B + 112) R' ∧ (∀ post : SX → Prop, post ((nI C), (nI L), lev, (nI R'.1), p, R'.2.1, kk, kp, kf, ks, lw, lc, lo, lt, lx, ly, lk, code, ss, se, R'.2.2.1, R'.2.2.2.1, R'.2.2.2.2) → wpX_executeSection post ((nI C), (nI L), lev, (nI R.1), p, R.2.1, kk, kp, kf, ks, lw, lc, lo, lt, lx, ly, lk, code, ss, se, R.2.2.1, R.2.2.2.1, R.2.2.2.2) (nI w)) ∧ (∀ post : SY → Prop, post ((nI C), (nI L), p, R'.2.1, (nI R'.1), kk, kp, kf, ks, lw, lc, lo, lt, lx, ly, lk, R'.2.2.1, R'.2.2.2.1, R'.2.2.2.2) → wpY_all post ((nI C), (nI L), p, R.2.1, (nI R.1), kk, kp, kf, ks, lw, lc, lo, lt, lx, ly, lk, R.2.2.1, R.2.2.2.1, R.2.2.2.2) (nI w)) := by
  obtain ⟨s, d, es, ee, hd, hc, hls⟩ := hok w hw
  have hlen := rc_ls_len (fun j => j) lw (nI w) L 0
  obtain ⟨R', hf, hI⟩ := rc_fo_ex (C := C) (L := L) (lev := lev) (code := code) (ss := ss) (se := se) hp hvc hvl (rc_ls (fun j => j) lw (nI w) L 0) B R (fun i hi => by have := rc_ls_mem lw (nI w) L 0 i hi; omega) hR (by omega)
  have cw : (nI w).toNatClampNeg = w := nI_clamp (by omega)
  have vw : vp_in (nI w) 4 := vp_in_nI hw (by decide)
  refine ⟨R', ⟨by have := hI.1; omega, hI.2⟩, fun post h => ?_, fun post h => ?_⟩
  · have hf2 := hf
    rw [← hls] at hf2
    exact And.intro vw (nm_r (by rw [cw]; exact ee) (And.intro vw (nm_r (by rw [cw]; exact es) ⟨d + 1, rc_sX hd d (d + 1) s R R' rfl (by omega) hc hf2 h⟩)))
  · exact ⟨L + 1, rc_sY hL L (L + 1) 0 R R' (by omega) (by omega) hf h⟩
end
