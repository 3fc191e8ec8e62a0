/-! the relation, and what is owed -/
def i_Rel (k : Nat) (u : SX) (v : SY) : Prop := ∃ (C L t : Nat) (lev p e p' e' : Int32) (kk kp kf ks lw lc lo lt lx ly lk code ss se wf ind ch : Nat → Int32), u = ((nI C), (nI L), lev, (nI t), p, e, kk, kp, kf, ks, lw, lc, lo, lt, lx, ly, lk, code, ss, se, wf, ind, ch) ∧ v = ((nI C), (nI L), p', e', (nI t), kk, kp, kf, ks, lw, lc, lo, lt, lx, ly, lk, wf, ind, ch) ∧
  C ≤ 16 ∧ L ≤ 14 ∧ t ≤ 100000 ∧ rc_vc kk kp kf ks ∧ rc_vl lw lc lo lt lx ly lk ∧ rc_W wf ∧ rc_01 ind
theorem i_up {k : Nat} {u : SX} {v : SY} (h : i_Rel k u v) : i_Rel (k + 5) u v := h
theorem rc_mk {k C L t : Nat} {lev p e p' e' : Int32} {kk kp kf ks lw lc lo lt lx ly lk code ss se wf ind ch : Nat → Int32} (hC : C ≤ 16) (hL : L ≤ 14) (ht : t ≤ 100000) (hc : rc_vc kk kp kf ks) (hl : rc_vl lw lc lo lt lx ly lk) (hW : rc_W wf) (hi : rc_01 ind) :
    i_Rel k ((nI C), (nI L), lev, (nI t), p, e, kk, kp, kf, ks, lw, lc, lo, lt, lx, ly, lk, code, ss, se, wf, ind, ch) ((nI C), (nI L), p', e', (nI t), kk, kp, kf, ks, lw, lc, lo, lt, lx, ly, lk, wf, ind, ch) :=
  ⟨C, L, t, lev, p, e, p', e', kk, kp, kf, ks, lw, lc, lo, lt, lx, ly, lk, code, ss, se, wf, ind, ch, rfl, rfl, hC, hL, ht, hc, hl, hW, hi⟩
theorem rc_v0 : rc_v1 0 0 0 0 0 0 0 := ⟨⟨0, by decide, rfl⟩, ⟨0, by decide, rfl⟩, ⟨0, 0, by decide, by decide, rfl, rfl, fun _ => by decide⟩, ⟨0, by decide, rfl⟩, ⟨0, by decide, rfl⟩, rc_b_0 (by decide)⟩
theorem i_vc0 : wpX_init (fun u => wpY_init (fun v => i_Rel 0 u v)) :=
  rc_mk (k := 0) (C := 0) (L := 0) (t := 0) (by decide) (by decide) (by decide) (fun _ => ⟨rc_b_0 (by decide), rc_b_0 (by decide), rc_b_0 (by decide), rc_b_0 (by decide)⟩) (fun _ => rc_v0) (fun _ => rc_b_0 (by decide)) (fun _ => Or.inl rfl)
theorem i_vc_card {k : Nat} {u : SX} {v : SY} (I : i_Rel k u v) (hk : k + 5 ≤ 2560) (v1 : Int32) (v2 : Int32) (v3 : Int32) (v4 : Int32) : wpX_card (fun r u' => wpY_card (fun r' v' => r' = r ∧ i_Rel (k + 5) u' v') v v1 v2 v3 v4) u v1 v2 v3 v4 := by
  obtain ⟨C, L, t, lev, p, e, p', e', kk, kp, kf, ks, lw, lc, lo, lt, lx, ly, lk, code, ss, se, wf, ind, ch, rfl, rfl, hC, hL, ht, hc, hl, hW, hi⟩ := I
  have J : i_Rel (k + 5) ((nI C), (nI L), lev, (nI t), p, e, kk, kp, kf, ks, lw, lc, lo, lt, lx, ly, lk, code, ss, se, wf, ind, ch) ((nI C), (nI L), p', e', (nI t), kk, kp, kf, ks, lw, lc, lo, lt, lx, ly, lk, wf, ind, ch) := rc_mk hC hL ht hc hl hW hi
  by_cases h16 : C < 16
  · have c1 : nI C < (16 : Int32) := nI_lt (b := 16) h16 (by decide)
    have c2 : ¬ nI C = (16 : Int32) := fun z => absurd ((nI_eq (b := 16) (by omega) (by omega)).mp z) (by omega)
    have vc : vp_in (nI C) 16 := vp_in_nI h16 (by decide)
    by_cases h1 : rc_o 0 99 v1
    · by_cases h2 : rc_o 0 99 v2
      · by_cases h3 : rc_o (-999) 999 v3
        · by_cases h4 : rc_o (-999) 999 v4
          · refine br_t c1 (rc_iw1 h1 (br_f rc_10 (rc_iw1 h2 (br_f rc_10 (rc_am1 h3 (br_f rc_10 (rc_am1 h4 (br_f rc_10 (And.intro vc (nm_e (And.intro vc (nm_e (And.intro vc (nm_e (And.intro vc (nm_e (nm_r (nI_1 C) ?_)))))))))))))))))
            refine br_f c2 (rc_jn1 h1 (br_f rc_10 (rc_jn1 h2 (br_f rc_10 (rc_jn1 h3 (br_f rc_10 (rc_jn1 h4 (br_f rc_10 (And.intro vc (nm_e (And.intro vc (nm_e (And.intro vc (nm_e (And.intro vc (nm_e (nm_r (nI_1 C) (And.intro rfl ?_))))))))))))))))))
            exact rc_mk (C := C + 1) (by omega) hL ht (rc_vcu hc _ (rc_ob h1 (by decide) (by decide)) (rc_ob h2 (by decide) (by decide)) (rc_ob h3 (by decide) (by decide)) (rc_ob h4 (by decide) (by decide))) hl hW hi
          · exact br_t c1 (rc_iw1 h1 (br_f rc_10 (rc_iw1 h2 (br_f rc_10 (rc_am1 h3 (br_f rc_10 (rc_am0 h4 (br_t rfl
              (br_f c2 (rc_jn1 h1 (br_f rc_10 (rc_jn1 h2 (br_f rc_10 (rc_jn1 h3 (br_f rc_10 (rc_jn0 h4 (br_t rfl (And.intro rfl J))))))))))))))))))
        · exact br_t c1 (rc_iw1 h1 (br_f rc_10 (rc_iw1 h2 (br_f rc_10 (rc_am0 h3 (br_t rfl
            (br_f c2 (rc_jn1 h1 (br_f rc_10 (rc_jn1 h2 (br_f rc_10 (rc_jn0 h3 (br_t rfl (And.intro rfl J))))))))))))))
      · exact br_t c1 (rc_iw1 h1 (br_f rc_10 (rc_iw0 h2 (br_t rfl (br_f c2 (rc_jn1 h1 (br_f rc_10 (rc_jn0 h2 (br_t rfl (And.intro rfl J))))))))))
    · exact br_t c1 (rc_iw0 h1 (br_t rfl (br_f c2 (rc_jn0 h1 (br_t rfl (And.intro rfl J))))))
  · have h16' : C = 16 := by omega
    exact br_f (nI_nlt (b := 16) (by omega) (by omega)) (br_t (congrArg nI h16') (And.intro rfl J))
theorem i_vc_clear {k : Nat} {u : SX} {v : SY} (I : i_Rel k u v) (hk : k + 5 ≤ 2560) : wpX_clear (fun r u' => wpY_clear (fun r' v' => r' = r ∧ i_Rel (k + 5) u' v') v) u := by
  obtain ⟨C, L, t, lev, p, e, p', e', kk, kp, kf, ks, lw, lc, lo, lt, lx, ly, lk, code, ss, se, wf, ind, ch, rfl, rfl, hC, hL, ht, hc, hl, hW, hi⟩ := I
  have J : i_Rel (k + 5) ((nI C), (nI L), lev, (nI t), p, e, kk, kp, kf, ks, lw, lc, lo, lt, lx, ly, lk, code, ss, se, wf, ind, ch) ((nI C), (nI L), p', e', (nI t), kk, kp, kf, ks, lw, lc, lo, lt, lx, ly, lk, wf, ind, ch) := rc_mk hC hL ht hc hl hW hi
  exact And.intro rfl (rc_mk (C := 0) (by decide) hL ht hc hl hW hi)
theorem i_vc_line {k : Nat} {u : SX} {v : SY} (I : i_Rel k u v) (hk : k + 5 ≤ 2560) (v1 : Int32) (v2 : Int32) (v3 : Int32) (v4 : Int32) : wpX_line (fun r u' => wpY_line (fun r' v' => r' = r ∧ i_Rel (k + 5) u' v') v v1 v2 v3 v4) u v1 v2 v3 v4 := by
  obtain ⟨C, L, t, lev, p, e, p', e', kk, kp, kf, ks, lw, lc, lo, lt, lx, ly, lk, code, ss, se, wf, ind, ch, rfl, rfl, hC, hL, ht, hc, hl, hW, hi⟩ := I
  have J : i_Rel (k + 5) ((nI C), (nI L), lev, (nI t), p, e, kk, kp, kf, ks, lw, lc, lo, lt, lx, ly, lk, code, ss, se, wf, ind, ch) ((nI C), (nI L), p', e', (nI t), kk, kp, kf, ks, lw, lc, lo, lt, lx, ly, lk, wf, ind, ch) := rc_mk hC hL ht hc hl hW hi
  by_cases h14 : L < 14
  · have c1 : nI L < (14 : Int32) := nI_lt (b := 14) h14 (by decide)
    have c2 : ¬ nI L = (14 : Int32) := fun z => absurd ((nI_eq (b := 14) (by omega) (by omega)).mp z) (by omega)
    have vc : vp_in (nI L) 14 := vp_in_nI h14 (by decide)
    by_cases h1 : rc_o 0 3 v1
    · by_cases h2 : rc_o 0 8 v2
      · by_cases h3 : rc_o 0 9 v3
        · obtain ⟨a1, b1, e1⟩ := rc_on (n := 3) (by decide) h1
          obtain ⟨a2, b2, e2⟩ := rc_on (n := 8) (by decide) h2
          obtain ⟨a3, b3, e3⟩ := rc_on (n := 9) (by decide) h3
          by_cases h67 : v3 = 6 ∨ v3 = 7
          · have Y67 : ∀ post : Int32 → SY → Prop, wY_line_65 post v1 v2 v3 v4 3 0 v4 (nI C) (nI L) p' e' (nI t) kk kp kf ks lw lc lo lt lx ly lk wf ind ch → wpY_line post ((nI C), (nI L), p', e', (nI t), kk, kp, kf, ks, lw, lc, lo, lt, lx, ly, lk, wf, ind, ch) v1 v2 v3 v4 := by
              intro post g
              refine br_f c2 (rc_jn1 h1 (br_f rc_10 (rc_jn1 h2 (br_f rc_10 (rc_jn1 h3 (br_f rc_10 (?_)))))))
              by_cases z6 : v3 = 6
              · exact br_t z6 g
              · exact br_f z6 (br_t (h67.resolve_left z6) g)
            by_cases h4 : rc_o 0 3 v4
            · obtain ⟨a4, b4, e4⟩ := rc_on (n := 3) (by decide) h4
              refine br_t c1 (rc_iw1 h1 (br_f rc_10 (rc_iw1 h2 (br_f rc_10 (rc_iw1 h3 (br_f rc_10 (rc_itA h67 (rc_it1 (rc_34 v4) h4 (br_f rc_10 (And.intro vc (nm_e (And.intro vc (nm_e (And.intro vc (nm_e (And.intro vc (nm_e (And.intro vc (nm_e (And.intro vc (nm_e (And.intro vc (nm_e ((nm_r (nI_1 L) ?_)))))))))))))))))))))))))
              refine Y67 _ (rc_jn1 h4 (br_f rc_10 (And.intro vc (nm_e (And.intro vc (nm_e (And.intro vc (nm_e (And.intro vc (nm_e (And.intro vc (nm_e (And.intro vc (nm_e (And.intro vc (nm_e ((nm_r (nI_1 L) (And.intro rfl ?_)))))))))))))))))))
              exact rc_mk (L := L + 1) hC (by omega) ht hc (rc_vlu hl _ ⟨⟨a1, b1, e1⟩, ⟨a2, b2, e2⟩, ⟨a3, a4, b3, by omega, e3, e4, fun _ => b4⟩, ⟨0, by decide, rfl⟩, ⟨0, by decide, rfl⟩, rc_b_0 (by decide)⟩) hW hi
            · exact br_t c1 (rc_iw1 h1 (br_f rc_10 (rc_iw1 h2 (br_f rc_10 (rc_iw1 h3 (br_f rc_10 (rc_itA h67 (rc_it0 (rc_34 v4) h4 (br_t rfl (Y67 _ (rc_jn0 h4 (br_t rfl (And.intro rfl J)))))))))))))
          · have Y67 : ∀ post : Int32 → SY → Prop, wY_line_65 post v1 v2 v3 v4 5 0 v4 (nI C) (nI L) p' e' (nI t) kk kp kf ks lw lc lo lt lx ly lk wf ind ch → wpY_line post ((nI C), (nI L), p', e', (nI t), kk, kp, kf, ks, lw, lc, lo, lt, lx, ly, lk, wf, ind, ch) v1 v2 v3 v4 := by
              intro post g
              exact br_f c2 (rc_jn1 h1 (br_f rc_10 (rc_jn1 h2 (br_f rc_10 (rc_jn1 h3 (br_f rc_10 (br_f (fun z => h67 (Or.inl z)) (br_f (fun z => h67 (Or.inr z)) g))))))))
            by_cases h4 : rc_o 0 5 v4
            · obtain ⟨a4, b4, e4⟩ := rc_on (n := 5) (by decide) h4
              have n67 : a3 = 6 ∨ a3 = 7 → a4 ≤ 3 := fun z => absurd (z.elim (fun q => Or.inl (by rw [e3, q]; rfl)) (fun q => Or.inr (by rw [e3, q]; rfl))) h67
              refine br_t c1 (rc_iw1 h1 (br_f rc_10 (rc_iw1 h2 (br_f rc_10 (rc_iw1 h3 (br_f rc_10 (rc_itB h67 (rc_it1 (rc_56 v4) h4 (br_f rc_10 (And.intro vc (nm_e (And.intro vc (nm_e (And.intro vc (nm_e (And.intro vc (nm_e (And.intro vc (nm_e (And.intro vc (nm_e (And.intro vc (nm_e ((nm_r (nI_1 L) ?_)))))))))))))))))))))))))
              refine Y67 _ (rc_jn1 h4 (br_f rc_10 (And.intro vc (nm_e (And.intro vc (nm_e (And.intro vc (nm_e (And.intro vc (nm_e (And.intro vc (nm_e (And.intro vc (nm_e (And.intro vc (nm_e ((nm_r (nI_1 L) (And.intro rfl ?_)))))))))))))))))))
              exact rc_mk (L := L + 1) hC (by omega) ht hc (rc_vlu hl _ ⟨⟨a1, b1, e1⟩, ⟨a2, b2, e2⟩, ⟨a3, a4, b3, b4, e3, e4, n67⟩, ⟨0, by decide, rfl⟩, ⟨0, by decide, rfl⟩, rc_b_0 (by decide)⟩) hW hi
            · exact br_t c1 (rc_iw1 h1 (br_f rc_10 (rc_iw1 h2 (br_f rc_10 (rc_iw1 h3 (br_f rc_10 (rc_itB h67 (rc_it0 (rc_56 v4) h4 (br_t rfl (Y67 _ (rc_jn0 h4 (br_t rfl (And.intro rfl J)))))))))))))
        · exact br_t c1 (rc_iw1 h1 (br_f rc_10 (rc_iw1 h2 (br_f rc_10 (rc_iw0 h3 (br_t rfl
            (br_f c2 (rc_jn1 h1 (br_f rc_10 (rc_jn1 h2 (br_f rc_10 (rc_jn0 h3 (br_t rfl (And.intro rfl J))))))))))))))
      · exact br_t c1 (rc_iw1 h1 (br_f rc_10 (rc_iw0 h2 (br_t rfl (br_f c2 (rc_jn1 h1 (br_f rc_10 (rc_jn0 h2 (br_t rfl (And.intro rfl J))))))))))
    · exact br_t c1 (rc_iw0 h1 (br_t rfl (br_f c2 (rc_jn0 h1 (br_t rfl (And.intro rfl J))))))
  · have h14' : L = 14 := by omega
    exact br_f (nI_nlt (b := 14) (by omega) (by omega)) (br_t (congrArg nI h14') (And.intro rfl J))
theorem rc_opL {L j : Nat} (hL : L ≤ 14) (hj : j < 2 ^ 31) : nI L - 1 < nI j ↔ L ≤ j := by
  cases L with
  | zero =>
    have h1 : nI 0 - 1 = -1 := by decide
    have h2 : (-1 : Int32).toInt = -1 := by decide
    rw [h1, Int32.lt_iff_toInt_lt, h2, nI_toInt hj]
    omega
  | succ M =>
    rw [nI_pred, nI_ltI (by omega) hj]
    omega
theorem i_vc_operands {k : Nat} {u : SX} {v : SY} (I : i_Rel k u v) (hk : k + 5 ≤ 2560) (v1 : Int32) (v2 : Int32) (v3 : Int32) (v4 : Int32) : wpX_operands (fun r u' => wpY_operands (fun r' v' => r' = r ∧ i_Rel (k + 5) u' v') v v1 v2 v3 v4) u v1 v2 v3 v4 := by
  obtain ⟨C, L, t, lev, p, e, p', e', kk, kp, kf, ks, lw, lc, lo, lt, lx, ly, lk, code, ss, se, wf, ind, ch, rfl, rfl, hC, hL, ht, hc, hl, hW, hi⟩ := I
  have J : i_Rel (k + 5) ((nI C), (nI L), lev, (nI t), p, e, kk, kp, kf, ks, lw, lc, lo, lt, lx, ly, lk, code, ss, se, wf, ind, ch) ((nI C), (nI L), p', e', (nI t), kk, kp, kf, ks, lw, lc, lo, lt, lx, ly, lk, wf, ind, ch) := rc_mk hC hL ht hc hl hW hi
  by_cases h0 : v1 < 0
  · refine br_t h0 ?_
    unfold wpY_operands
    exact rc_jn0 (fun z => z.1 h0) (br_t rfl (And.intro rfl J))
  · obtain ⟨j, hj, rfl⟩ := nI_of h0
    by_cases hjL : j < L
    · have c1 : nI j < nI L := nI_lt hjL (by omega)
      have h1 : rc_o 0 (nI L - 1) (nI j) := ⟨h0, fun z => absurd ((rc_opL hL hj).mp z) (by omega)⟩
      have vj : vp_in (nI j) 14 := vp_in_nI (by omega) (by decide)
      by_cases h2 : rc_o 0 10 v2
      · by_cases h3 : rc_o 0 10 v3
        · by_cases h4 : rc_o (-999) 999 v4
          · refine br_f h0 (br_t c1 (rc_iw1 h2 (br_f rc_10 (rc_iw1 h3 (br_f rc_10 (rc_am1 h4 (br_f rc_10 (And.intro vj (nm_e (And.intro vj (nm_e (And.intro vj (nm_e ?_)))))))))))))
            unfold wpY_operands
            refine rc_jn1 h1 (br_f rc_10 (rc_jn1 h2 (br_f rc_10 (rc_jn1 h3 (br_f rc_10 (rc_jn1 h4 (br_f rc_10 (And.intro vj (nm_e (And.intro vj (nm_e (And.intro vj (nm_e (And.intro rfl ?_))))))))))))))
            exact rc_mk hC hL ht hc (rc_vlo hl _ (rc_on (by decide) h2) (rc_on (by decide) h3) (rc_ob h4 (by decide) (by decide))) hW hi
          · refine br_f h0 (br_t c1 (rc_iw1 h2 (br_f rc_10 (rc_iw1 h3 (br_f rc_10 (rc_am0 h4 (br_t rfl ?_)))))))
            unfold wpY_operands
            exact rc_jn1 h1 (br_f rc_10 (rc_jn1 h2 (br_f rc_10 (rc_jn1 h3 (br_f rc_10 (rc_jn0 h4 (br_t rfl (And.intro rfl J))))))))
        · refine br_f h0 (br_t c1 (rc_iw1 h2 (br_f rc_10 (rc_iw0 h3 (br_t rfl ?_)))))
          unfold wpY_operands
          exact rc_jn1 h1 (br_f rc_10 (rc_jn1 h2 (br_f rc_10 (rc_jn0 h3 (br_t rfl (And.intro rfl J))))))
      · refine br_f h0 (br_t c1 (rc_iw0 h2 (br_t rfl ?_)))
        unfold wpY_operands
        exact rc_jn1 h1 (br_f rc_10 (rc_jn0 h2 (br_t rfl (And.intro rfl J))))
    · refine br_f h0 (br_f (nI_nlt (by omega) hj) ?_)
      unfold wpY_operands
      exact rc_jn0 (fun z => z.2 ((rc_opL hL hj).mpr (by omega))) (br_t rfl (And.intro rfl J))
theorem i_vc_retract {k : Nat} {u : SX} {v : SY} (I : i_Rel k u v) (hk : k + 5 ≤ 2560) : wpX_retract (fun r u' => wpY_retract (fun r' v' => r' = r ∧ i_Rel (k + 5) u' v') v) u := by
  obtain ⟨C, L, t, lev, p, e, p', e', kk, kp, kf, ks, lw, lc, lo, lt, lx, ly, lk, code, ss, se, wf, ind, ch, rfl, rfl, hC, hL, ht, hc, hl, hW, hi⟩ := I
  have J : i_Rel (k + 5) ((nI C), (nI L), lev, (nI t), p, e, kk, kp, kf, ks, lw, lc, lo, lt, lx, ly, lk, code, ss, se, wf, ind, ch) ((nI C), (nI L), p', e', (nI t), kk, kp, kf, ks, lw, lc, lo, lt, lx, ly, lk, wf, ind, ch) := rc_mk hC hL ht hc hl hW hi
  cases L with
  | zero => exact br_t rfl (br_t rfl (And.intro rfl J))
  | succ M =>
    have n0 : ¬ nI (M + 1) = 0 := nI_ne0 (by omega) (by omega)
    exact br_f n0 (nm_r (nI_pred M) (br_f n0 (nm_r (nI_pred M) (And.intro rfl (rc_mk (L := M) hC (by omega) ht hc hl hW hi)))))
theorem rc_run {C L t t2 : Nat} {lev p e p' e' : Int32} {kk kp kf ks lw lc lo lt lx ly lk code ss se wf ind ch : Nat → Int32} (hC : C ≤ 16) (hL : L ≤ 14) (hc : rc_vc kk kp kf ks) (hl : rc_vl lw lc lo lt lx ly lk) (hW : rc_W wf) (hi : rc_01 ind) (k : Nat) :
    wpX_run (fun r u' => wpY_run (fun r' v' => r' = r ∧ i_Rel k u' v') ((nI C), (nI L), p', e', (nI t2), kk, kp, kf, ks, lw, lc, lo, lt, lx, ly, lk, wf, ind, ch)) ((nI C), (nI L), lev, (nI t), p, e, kk, kp, kf, ks, lw, lc, lo, lt, lx, ly, lk, code, ss, se, wf, ind, ch) := by
  refine rc_bX (rc_comp hL hl (fun code' ss' se' hok => ?_))
  obtain ⟨p2, R2, hI, hX, hY⟩ := rc_loop (lev := lev) hok hC hL hc hl C 0 0 (-1) (0, 0, rc_z 6 wf, rc_z 4 ind, ch) (Nat.zero_add C) (Or.inl ⟨rfl, rfl⟩) ⟨Nat.le_refl 0, rc_zW 6 hW, rc_z01 4 hi⟩ (by omega)
  refine ⟨C + 1, hX _ ?_⟩
  refine rc_bY ⟨C + 2, hY _ (And.intro rfl ?_)⟩
  exact rc_mk hC hL (Nat.le_trans hI.1 (by omega)) hc hl hI.2.1 hI.2.2
theorem i_vc_run {k : Nat} {u : SX} {v : SY} (I : i_Rel k u v) (hk : k + 5 ≤ 2560) : wpX_run (fun r u' => wpY_run (fun r' v' => r' = r ∧ i_Rel (k + 5) u' v') v) u := by
  obtain ⟨C, L, t, lev, p, e, p', e', kk, kp, kf, ks, lw, lc, lo, lt, lx, ly, lk, code, ss, se, wf, ind, ch, rfl, rfl, hC, hL, ht, hc, hl, hW, hi⟩ := I
  have J : i_Rel (k + 5) ((nI C), (nI L), lev, (nI t), p, e, kk, kp, kf, ks, lw, lc, lo, lt, lx, ly, lk, code, ss, se, wf, ind, ch) ((nI C), (nI L), p', e', (nI t), kk, kp, kf, ks, lw, lc, lo, lt, lx, ly, lk, wf, ind, ch) := rc_mk hC hL ht hc hl hW hi
  exact rc_run hC hL hc hl hW hi (k + 5)
theorem i_vc_work {k : Nat} {u : SX} {v : SY} (I : i_Rel k u v) (hk : k + 5 ≤ 2560) (v1 : Int32) : wpX_work (fun r => wpY_work (fun r' => r' = r ∧ i_Rel (k + 5) u v) v v1) u v1 := by
  obtain ⟨C, L, t, lev, p, e, p', e', kk, kp, kf, ks, lw, lc, lo, lt, lx, ly, lk, code, ss, se, wf, ind, ch, rfl, rfl, hC, hL, ht, hc, hl, hW, hi⟩ := I
  have J : i_Rel (k + 5) ((nI C), (nI L), lev, (nI t), p, e, kk, kp, kf, ks, lw, lc, lo, lt, lx, ly, lk, code, ss, se, wf, ind, ch) ((nI C), (nI L), p', e', (nI t), kk, kp, kf, ks, lw, lc, lo, lt, lx, ly, lk, wf, ind, ch) := rc_mk hC hL ht hc hl hW hi
  by_cases h0 : v1 < 0
  · refine br_t h0 ?_
    unfold wpY_work
    exact rc_jn0 (fun z => z.1 h0) (br_t rfl (And.intro rfl J))
  · obtain ⟨j, hj, rfl⟩ := nI_of h0
    by_cases h6 : j < 6
    · have vj : vp_in (nI j) 6 := vp_in_nI h6 (by decide)
      refine br_f h0 (br_t (nI_lt (b := 6) h6 (by decide)) (And.intro vj ?_))
      unfold wpY_work
      exact rc_jn1 ⟨h0, nI_nlt (a := 5) (by omega) (by decide)⟩ (br_f rc_10 (And.intro vj (And.intro rfl J)))
    · refine br_f h0 (br_f (nI_nlt (b := 6) (by omega) hj) ?_)
      unfold wpY_work
      exact rc_jn0 (fun z => z.2 (nI_lt (a := 5) (by omega) hj)) (br_t rfl (And.intro rfl J))
theorem i_vc_indicator {k : Nat} {u : SX} {v : SY} (I : i_Rel k u v) (hk : k + 5 ≤ 2560) (v1 : Int32) : wpX_indicator (fun r => wpY_indicator (fun r' => r' = r ∧ i_Rel (k + 5) u v) v v1) u v1 := by
  obtain ⟨C, L, t, lev, p, e, p', e', kk, kp, kf, ks, lw, lc, lo, lt, lx, ly, lk, code, ss, se, wf, ind, ch, rfl, rfl, hC, hL, ht, hc, hl, hW, hi⟩ := I
  have J : i_Rel (k + 5) ((nI C), (nI L), lev, (nI t), p, e, kk, kp, kf, ks, lw, lc, lo, lt, lx, ly, lk, code, ss, se, wf, ind, ch) ((nI C), (nI L), p', e', (nI t), kk, kp, kf, ks, lw, lc, lo, lt, lx, ly, lk, wf, ind, ch) := rc_mk hC hL ht hc hl hW hi
  by_cases h0 : v1 < 0
  · refine br_t h0 ?_
    unfold wpY_indicator
    exact rc_jn0 (fun z => z.1 h0) (br_t rfl (And.intro rfl J))
  · obtain ⟨j, hj, rfl⟩ := nI_of h0
    by_cases h4 : j < 4
    · have vj : vp_in (nI j) 4 := vp_in_nI h4 (by decide)
      have h1 : rc_o 0 3 (nI j) := ⟨h0, nI_nlt (a := 3) (by omega) (by decide)⟩
      refine br_f h0 (br_t (nI_lt (b := 4) h4 (by decide)) (And.intro vj ?_))
      rcases hi (nI j).toNatClampNeg with z | z
      · refine And.intro (by rw [z]; rfl) ?_
        unfold wpY_indicator
        exact rc_jn1 h1 (br_f rc_10 (And.intro vj (br_t z (And.intro z.symm J))))
      · refine And.intro (by rw [z]; rfl) ?_
        unfold wpY_indicator
        exact rc_jn1 h1 (br_f rc_10 (And.intro vj (br_f (by rw [z]; decide) (And.intro z.symm J))))
    · refine br_f h0 (br_f (nI_nlt (b := 4) (by omega) hj) ?_)
      unfold wpY_indicator
      exact rc_jn0 (fun z => z.2 (nI_lt (a := 3) (by omega) hj)) (br_t rfl (And.intro rfl J))
theorem i_vc_printed {k : Nat} {u : SX} {v : SY} (I : i_Rel k u v) (hk : k + 5 ≤ 2560) : wpX_printed (fun r => wpY_printed (fun r' => r' = r ∧ i_Rel (k + 5) u v) v) u := by
  obtain ⟨C, L, t, lev, p, e, p', e', kk, kp, kf, ks, lw, lc, lo, lt, lx, ly, lk, code, ss, se, wf, ind, ch, rfl, rfl, hC, hL, ht, hc, hl, hW, hi⟩ := I
  have J : i_Rel (k + 5) ((nI C), (nI L), lev, (nI t), p, e, kk, kp, kf, ks, lw, lc, lo, lt, lx, ly, lk, code, ss, se, wf, ind, ch) ((nI C), (nI L), p', e', (nI t), kk, kp, kf, ks, lw, lc, lo, lt, lx, ly, lk, wf, ind, ch) := rc_mk hC hL ht hc hl hW hi
  exact And.intro rfl J
theorem i_vc_text {k : Nat} {u : SX} {v : SY} (I : i_Rel k u v) (hk : k + 5 ≤ 2560) (v1 : Int32) : wpX_text (fun r => wpY_text (fun r' => r' = r ∧ i_Rel (k + 5) u v) v v1) u v1 := by
  obtain ⟨C, L, t, lev, p, e, p', e', kk, kp, kf, ks, lw, lc, lo, lt, lx, ly, lk, code, ss, se, wf, ind, ch, rfl, rfl, hC, hL, ht, hc, hl, hW, hi⟩ := I
  have J : i_Rel (k + 5) ((nI C), (nI L), lev, (nI t), p, e, kk, kp, kf, ks, lw, lc, lo, lt, lx, ly, lk, code, ss, se, wf, ind, ch) ((nI C), (nI L), p', e', (nI t), kk, kp, kf, ks, lw, lc, lo, lt, lx, ly, lk, wf, ind, ch) := rc_mk hC hL ht hc hl hW hi
  by_cases h0 : v1 < 0
  · refine br_t h0 ?_
    unfold wpY_text
    exact rc_jn0 (fun z => z.1 h0) (br_t rfl (And.intro rfl J))
  · obtain ⟨j, hj, rfl⟩ := nI_of h0
    by_cases h8 : j < 80
    · have h1 : rc_o 0 79 (nI j) := ⟨h0, nI_nlt (a := 79) (by omega) (by decide)⟩
      have c8 : ¬ (80 : Int32) ≤ nI j := nI_ge (b := 80) h8 (by decide)
      have vj : vp_in (nI j) 80 := vp_in_nI h8 (by decide)
      by_cases hjt : j < t
      · refine br_f h0 (br_f c8 (br_t (nI_lt hjt (by omega)) (And.intro vj ?_)))
        unfold wpY_text
        exact rc_jn1 h1 (br_f rc_10 (br_f (nI_ge hjt (by omega)) (And.intro vj (And.intro rfl J))))
      · refine br_f h0 (br_f c8 (br_f (nI_nlt (by omega) hj) ?_))
        unfold wpY_text
        exact rc_jn1 h1 (br_f rc_10 (br_t (nI_le (by omega) hj) (And.intro rfl J)))
    · refine br_f h0 (br_t (nI_le (a := 80) (by omega) hj) ?_)
      unfold wpY_text
      exact rc_jn0 (fun z => z.2 (nI_lt (a := 79) (by omega) hj)) (br_t rfl (And.intro rfl J))
theorem i_vc_level {k : Nat} {u : SX} {v : SY} (I : i_Rel k u v) (hk : k + 5 ≤ 2560) (v1 : Int32) : wpX_level (fun r u' => wpY_level (fun r' => r' = r ∧ i_Rel (k + 5) u' v) v v1) u v1 := by
  obtain ⟨C, L, t, lev, p, e, p', e', kk, kp, kf, ks, lw, lc, lo, lt, lx, ly, lk, code, ss, se, wf, ind, ch, rfl, rfl, hC, hL, ht, hc, hl, hW, hi⟩ := I
  have J : i_Rel (k + 5) ((nI C), (nI L), lev, (nI t), p, e, kk, kp, kf, ks, lw, lc, lo, lt, lx, ly, lk, code, ss, se, wf, ind, ch) ((nI C), (nI L), p', e', (nI t), kk, kp, kf, ks, lw, lc, lo, lt, lx, ly, lk, wf, ind, ch) := rc_mk hC hL ht hc hl hW hi
  unfold wpX_level
  by_cases h0 : v1 = 0
  · subst h0
    exact rc_iw1 ⟨by decide, by decide⟩ (br_f rc_10 (br_t rfl (And.intro rfl (rc_mk hC hL ht hc hl hW hi))))
  · by_cases h1 : v1 = 1
    · subst h1
      exact rc_iw1 ⟨by decide, by decide⟩ (br_f rc_10 (br_f (by decide) (br_t rfl (And.intro rfl (rc_mk hC hL ht hc hl hW hi)))))
    · have hn : ¬ rc_o 0 1 v1 := by
        intro z
        obtain ⟨j, hj, ej⟩ := rc_on (n := 1) (by decide) z
        have hj' : j = 0 ∨ j = 1 := by omega
        rcases hj' with rfl | rfl
        · exact h0 ej
        · exact h1 ej
      exact rc_iw0 hn (br_t rfl (br_f h0 (br_f h1 (And.intro rfl J))))
