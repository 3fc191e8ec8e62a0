/-! level 1: the lines of one when stand together -/
def rc_cf (lw : Nat → Int32) (w : Nat) : Nat → Nat → Nat
  | 0, _ => 0
  | d + 1, i => (if lw i = nI w then 1 else 0) + rc_cf lw w d (i + 1)
theorem rc_cf4 {lw : Nat → Int32} (h : ∀ j : Nat, ∃ a : Nat, a ≤ 3 ∧ lw j = nI a) : ∀ d i : Nat, rc_cf lw 0 d i + (rc_cf lw 1 d i + (rc_cf lw 2 d i + (rc_cf lw 3 d i + 0))) ≤ d := by
  intro d
  induction d with
  | zero => intro i; exact Nat.le_refl 0
  | succ d ih =>
    intro i
    have h1 := ih (i + 1)
    obtain ⟨a, ha, ea⟩ := h i
    show ((if lw i = nI 0 then 1 else 0) + rc_cf lw 0 d (i + 1)) + (((if lw i = nI 1 then 1 else 0) + rc_cf lw 1 d (i + 1)) + (((if lw i = nI 2 then 1 else 0) + rc_cf lw 2 d (i + 1)) + (((if lw i = nI 3 then 1 else 0) + rc_cf lw 3 d (i + 1)) + 0))) ≤ d + 1
    rw [ea]
    have ha' : a = 0 ∨ a = 1 ∨ a = 2 ∨ a = 3 := by omega
    rcases ha' with rfl | rfl | rfl | rfl
    · rw [if_pos rfl, if_neg (by decide), if_neg (by decide), if_neg (by decide)]
      omega
    · rw [if_neg (by decide), if_pos rfl, if_neg (by decide), if_neg (by decide)]
      omega
    · rw [if_neg (by decide), if_neg (by decide), if_pos rfl, if_neg (by decide)]
      omega
    · rw [if_neg (by decide), if_neg (by decide), if_neg (by decide), if_pos rfl]
      omega
theorem rc_ux {f : Nat → Int32} {i : Nat} {x : Int32} (h : i < 2 ^ 31) : upd f (nI i).toNatClampNeg x = upd f i x := by rw [nI_clamp h]
/-- what is wanted still in the sections from w on -/
def rc_cs (lw : Nat → Int32) (L : Nat) : Nat → Nat → Nat
  | 0, _ => 0
  | d + 1, w => rc_cf lw w L 0 + rc_cs lw L d (w + 1)

section
variable {C L : Nat} {lev : Int32} {kk kp kf ks lw lc lo lt lx ly lk code ss se : Nat → Int32} {p : Int32} {t : Nat} {e e' : Int32} {wf ind ch : Nat → Int32}

theorem rc_c18 {w : Nat} (hw : w < 4) (hL : L ≤ 14) {post : SX → Prop} {J : Int32 → Int32 → (Nat → Int32) → (Nat → Int32) → (Nat → Int32) → (Nat → Int32) → (Nat → Int32) → (Nat → Int32) → (Nat → Int32) → (Nat → Int32) → (Nat → Int32) → (Nat → Int32) → (Nat → Int32) → (Nat → Int32) → (Nat → Int32) → (Nat → Int32) → (Nat → Int32) → (Nat → Int32) → (Nat → Int32) → Prop} :
    ∀ (d i len : Nat) (code : Nat → Int32), i + d = L → len + rc_cf lw w d i ≤ 14 →
    (∀ code' : Nat → Int32, (∀ j, j < len → code' j = code j) → (∀ j, len ≤ j → j < len + rc_cf lw w d i → ∃ q : Nat, q < 14 ∧ code' j = nI q) →
      rc_ls (fun j => (code' j).toNatClampNeg) lw (nI w) (rc_cf lw w d i) len = rc_ls (fun j => j) lw (nI w) d i →
      J (nI (len + rc_cf lw w d i)) (nI (w + 1)) kk kp kf ks lw lc lo lt lx ly lk code' ss (upd se w (nI (len + rc_cf lw w d i))) wf ind ch) →
    wX_compileSections_18 post J (nI w) (nI C) (nI L) lev (nI t) p e (d + 1) (nI len) (nI i) kk kp kf ks lw lc lo lt lx ly lk code ss se wf ind ch := by
  intro d
  induction d with
  | zero =>
    intro i len code hi hl H
    have h := H code (fun _ _ => rfl) (fun j a b => absurd (show j < len + 0 from b) (by omega)) rfl
    exact br_t (nI_le (by omega) (by omega)) (And.intro (vp_in_nI hw (by decide)) (nm_r (rc_ux (by omega)) (nm_r (nI_1 w) h)))
  | succ d ih =>
    intro i len code hi hl H
    have ci : (nI i).toNatClampNeg = i := nI_clamp (by omega)
    have u1 : rc_cf lw w (d + 1) i = (if lw i = nI w then 1 else 0) + rc_cf lw w d (i + 1) := rfl
    have u2 : rc_ls (fun j => j) lw (nI w) (d + 1) i = if lw i = nI w then i :: rc_ls (fun j => j) lw (nI w) d (i + 1) else rc_ls (fun j => j) lw (nI w) d (i + 1) := rfl
    refine br_f (nI_ge (by omega) (by omega)) (And.intro (vp_in_nI (by omega) (by decide)) ?_)
    by_cases hq : lw i = nI w
    · rw [if_pos hq] at u1 u2
      rw [u1, u2] at H
      rw [u1] at hl
      refine br_t (by rw [ci]; exact hq) (And.intro (vp_in_nI (by omega) (by decide)) (nm_r (rc_ux (by omega)) (nm_r (nI_1 len) (nm_r (nI_1 i) (ih (i + 1) (len + 1) (upd code len (nI i)) (by omega) (by omega) ?_)))))
      intro code' k1 k2 k3
      have e0 : code' len = nI i := by rw [k1 len (by omega), pk_us]
      have e1 : len + 1 + rc_cf lw w d (i + 1) = len + (1 + rc_cf lw w d (i + 1)) := by omega
      have g := H code' (fun j hj => by rw [k1 j (by omega), pk_un (by omega)])
        (fun j a b => by
          by_cases z : j = len
          · subst z
            exact ⟨i, by omega, e0⟩
          · exact k2 j (by omega) (by omega))
        (by
          rw [Nat.add_comm 1]
          show (if lw (code' len).toNatClampNeg = nI w then (code' len).toNatClampNeg :: rc_ls (fun j => (code' j).toNatClampNeg) lw (nI w) (rc_cf lw w d (i + 1)) (len + 1) else rc_ls (fun j => (code' j).toNatClampNeg) lw (nI w) (rc_cf lw w d (i + 1)) (len + 1)) = _
          rw [e0, ci, if_pos hq, k3])
      rw [e1]
      exact g
    · rw [if_neg hq, Nat.zero_add] at u1
      rw [if_neg hq] at u2
      rw [u1, u2] at H
      rw [u1] at hl
      exact br_f (by rw [ci]; exact hq) (nm_r (nI_1 i) (ih (i + 1) len code (by omega) hl H))

/-- the sections below w are compiled, all below place len -/
def rc_okw (L : Nat) (lw code ss se : Nat → Int32) (w0 len : Nat) : Prop := ∀ w : Nat, w < w0 → ∃ s d : Nat, ss w = nI s ∧ se w = nI (s + d) ∧ s + d ≤ len ∧
  (∀ j, s ≤ j → j < s + d → ∃ q : Nat, q < 14 ∧ code j = nI q) ∧ rc_ls (fun j => (code j).toNatClampNeg) lw (nI w) d s = rc_ls (fun j => j) lw (nI w) L 0

theorem rc_c4 (hL : L ≤ 14) {post : SX → Prop} (H : ∀ code' ss' se' : Nat → Int32, rc_ok L lw code' ss' se' → post ((nI C), (nI L), lev, (nI t), p, e, kk, kp, kf, ks, lw, lc, lo, lt, lx, ly, lk, code', ss', se', wf, ind, ch)) :
    ∀ (d w len : Nat) (code ss se : Nat → Int32), w + d = 4 → len + rc_cs lw L d w ≤ 14 → rc_okw L lw code ss se w len →
    wX_compileSections_4 post (nI C) (nI L) lev (nI t) p e (d + 1) (nI len) (nI w) kk kp kf ks lw lc lo lt lx ly lk code ss se wf ind ch := by
  intro d
  induction d with
  | zero =>
    intro w len code ss se hw hl hk
    have h4 : w = 4 := hw
    subst h4
    have hl' : len ≤ 14 := hl
    refine br_t (by decide) (H code ss se (fun w hw => ?_))
    obtain ⟨s, d, a1, a2, a3, a4, a5⟩ := hk w hw
    exact ⟨s, d, a1, a2, by omega, a4, a5⟩
  | succ d ih =>
    intro w len code ss se hw hl hk
    have u1 : rc_cs lw L (d + 1) w = rc_cf lw w L 0 + rc_cs lw L d (w + 1) := rfl
    rw [u1] at hl
    refine br_f (nI_ge (b := 4) (by omega) (by decide)) (And.intro (vp_in_nI (by omega) (by decide)) (nm_r (rc_ux (by omega)) ⟨L + 1, rc_c18 (w := w) (by omega) hL L 0 len code (by omega) (by omega) ?_⟩))
    intro code' k1 k2 k3
    refine ih (w + 1) (len + rc_cf lw w L 0) code' _ _ (by omega) (by omega) ?_
    intro v hv
    by_cases z : v = w
    · subst z
      exact ⟨len, rc_cf lw v L 0, pk_us, pk_us, by omega, k2, k3⟩
    · obtain ⟨s, d', a1, a2, a3, a4, a5⟩ := hk v (by omega)
      refine ⟨s, d', by rw [pk_un z]; exact a1, by rw [pk_un z]; exact a2, by omega, fun j b1 b2 => ?_, ?_⟩
      · rw [k1 j (by omega)]
        exact a4 j b1 b2
      · rw [← a5]
        exact rc_ls_congr d' s (fun j b1 b2 => by rw [k1 j (by omega)])

theorem rc_comp (hL : L ≤ 14) (hvl : rc_vl lw lc lo lt lx ly lk) {post : SX → Prop} (H : ∀ code' ss' se' : Nat → Int32, rc_ok L lw code' ss' se' → post ((nI C), (nI L), lev, (nI t), p, e, kk, kp, kf, ks, lw, lc, lo, lt, lx, ly, lk, code', ss', se', wf, ind, ch)) :
    wpX_compileReport post ((nI C), (nI L), lev, (nI t), p, e, kk, kp, kf, ks, lw, lc, lo, lt, lx, ly, lk, code, ss, se, wf, ind, ch) := by
  by_cases h : lev = 0
  · exact br_t h ⟨L + 1, rc_cW2 hL (fun code' ss' se' a b => H code' ss' se' (rc_okW hL a b)) L 0 code (by omega) (fun j hj => absurd hj (Nat.not_lt_zero j))⟩
  · have h4 : rc_cs lw L 4 0 ≤ L := rc_cf4 (fun j => (hvl j).1) L 0
    exact br_f h ⟨5, rc_c4 hL (fun code' ss' se' a => H code' ss' se' a) 4 0 0 code ss se (by decide) (by omega) (fun w hw => absurd hw (Nat.not_lt_zero w))⟩
end
