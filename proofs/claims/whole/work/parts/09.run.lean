/-! the course of a run -/
section
variable {C L : Nat} {lev : Int32} {kk kp kf ks lw lc lo lt lx ly lk code ss se : Nat → Int32}

theorem rc_h0 : (-1 : Int32) < 0 := by decide
theorem rc_loop (hok : rc_ok L lw code ss se) (hC : C ≤ 16) (hL : L ≤ 14) (hvc : rc_vc kk kp kf ks) (hvl : rc_vl lw lc lo lt lx ly lk) :
    ∀ (d k B : Nat) (p : Int32) (R : rc_R), k + d = C → ((p = -1 ∧ k = 0) ∨ ∃ q : Nat, k = q + 1 ∧ p = nI q) → rc_I B R → B + 336 * (d + 1) < 2 ^ 30 →
    ∃ (p' : Int32) (R' : rc_R), rc_I (B + 336 * (d + 1)) R' ∧ (∀ post : Int32 → SX → Prop, post R'.2.1 ((nI C), (nI L), lev, (nI R'.1), p', R'.2.1, kk, kp, kf, ks, lw, lc, lo, lt, lx, ly, lk, code, ss, se, R'.2.2.1, R'.2.2.2.1, R'.2.2.2.2) → wX_run_10 post (d + 1) (nI k) (nI C) (nI L) lev (nI R.1) p R.2.1 kk kp kf ks lw lc lo lt lx ly lk code ss se R.2.2.1 R.2.2.2.1 R.2.2.2.2) ∧
      (∀ post : Int32 → SY → Prop, post R'.2.1 ((nI C), (nI L), p', R'.2.1, (nI R'.1), kk, kp, kf, ks, lw, lc, lo, lt, lx, ly, lk, R'.2.2.1, R'.2.2.2.1, R'.2.2.2.2) → wY_run_58 post (d + 2) (nI k) (nI C) (nI L) p R.2.1 (nI R.1) kk kp kf ks lw lc lo lt lx ly lk R.2.2.1 R.2.2.2.1 R.2.2.2.2) := by
  have S : ∀ (w : Nat), w < 4 → ∀ (B : Nat) (p : Int32) (R : rc_R), (p = -1 ∨ ∃ q : Nat, q < 16 ∧ p = nI q) → rc_I B R → B + 112 < 2 ^ 30 →
      ∃ R' : rc_R, rc_I (B + 112) R' ∧ (∀ post : SX → Prop, post ((nI C), (nI L), lev, (nI R'.1), p, R'.2.1, kk, kp, kf, ks, lw, lc, lo, lt, lx, ly, lk, code, ss, se, R'.2.2.1, R'.2.2.2.1, R'.2.2.2.2) → wpX_executeSection post ((nI C), (nI L), lev, (nI R.1), p, R.2.1, kk, kp, kf, ks, lw, lc, lo, lt, lx, ly, lk, code, ss, se, R.2.2.1, R.2.2.2.1, R.2.2.2.2) (nI w)) ∧ (∀ post : SY → Prop, post ((nI C), (nI L), p, R'.2.1, (nI R'.1), kk, kp, kf, ks, lw, lc, lo, lt, lx, ly, lk, R'.2.2.1, R'.2.2.2.1, R'.2.2.2.2) → wpY_all post ((nI C), (nI L), p, R.2.1, (nI R.1), kk, kp, kf, ks, lw, lc, lo, lt, lx, ly, lk, R.2.2.1, R.2.2.2.1, R.2.2.2.2) (nI w)) :=
    fun w hw B p R hp hR hB => rc_sec hok hL hp hvc hvl hw hR hB
  have up : ∀ {B B' : Nat} {R : rc_R}, B ≤ B' → rc_I B R → rc_I B' R := fun h g => ⟨Nat.le_trans g.1 h, g.2⟩
  intro d
  induction d with
  | zero =>
    intro k B p R hk hp hR hB
    have hk' : k = C := hk
    subst hk'
    have c1 : nI k ≤ nI k := nI_le (Nat.le_refl k) (by omega)
    have c2 : ¬ nI k < nI k := nI_nlt (Nat.le_refl k) (by omega)
    have c3 : nI k < nI (k + 1) := nI_lt (by omega) (by omega)
    rcases hp with ⟨rfl, rfl⟩ | ⟨q, rfl, rfl⟩
    · obtain ⟨R3, i3, X3, Y3⟩ := S 3 (by decide) B (-1) R (Or.inl rfl) hR (by omega)
      refine ⟨-1, R3, up (by omega) i3, fun post h => ?_, fun post h => ?_⟩
      · exact br_t c1 (br_t rfl (X3 _ h))
      · exact br_f c2 (br_t rfl (br_t rc_h0 (br_t rfl (br_t rc_h0 (br_t rfl (br_f rc_10 (nm_r (nI_1 0) (br_t c3 (Y3 _ h)))))))))
    · have n1 : ¬ nI q = (-1 : Int32) := rc_nm1 (by omega)
      have n0 : ¬ nI q < 0 := nI_pos (by omega)
      have hq : nI q = -1 ∨ ∃ j : Nat, j < 16 ∧ nI q = nI j := Or.inr ⟨q, by omega, rfl⟩
      obtain ⟨R1, i1, X1, Y1⟩ := S 1 (by decide) B (nI q) R hq hR (by omega)
      obtain ⟨R2, i2, X2, Y2⟩ := S 2 (by decide) (B + 112) (nI q) R1 hq i1 (by omega)
      obtain ⟨R3, i3, X3, Y3⟩ := S 3 (by decide) (B + 112 + 112) (nI q) R2 hq i2 (by omega)
      refine ⟨nI q, R3, up (by omega) i3, fun post h => ?_, fun post h => ?_⟩
      · exact br_t c1 (br_f n1 (X1 _ (X2 _ (X3 _ h))))
      · exact br_f c2 (br_t rfl (br_f n0 (br_f rc_10 (br_f rc_10 (Y1 _ (br_f rc_10 (Y2 _ (br_f rc_10 (nm_r (nI_1 (q + 1)) (br_t c3 (Y3 _ h)))))))))))
  | succ d ih =>
    intro k B p R hk hp hR hB
    have c1 : ¬ nI C ≤ nI k := nI_ge (by omega) (by omega)
    have c2 : ¬ nI C < nI k := nI_nlt (by omega) (by omega)
    have c3 : ¬ nI k = nI C := rc_ne C (by omega) (by omega) (by omega)
    have hk0 : nI k = -1 ∨ ∃ j : Nat, j < 16 ∧ nI k = nI j := Or.inr ⟨k, by omega, rfl⟩
    have vk : vp_in (nI k) 16 := vp_in_nI (by omega) (by decide)
    have go : ∀ (R2 : rc_R), rc_I (B + 224) R2 → ∃ (p' : Int32) (R' : rc_R), rc_I (B + 336 * (d + 1 + 1)) R' ∧
        (∀ post : Int32 → SX → Prop, post R'.2.1 ((nI C), (nI L), lev, (nI R'.1), p', R'.2.1, kk, kp, kf, ks, lw, lc, lo, lt, lx, ly, lk, code, ss, se, R'.2.2.1, R'.2.2.2.1, R'.2.2.2.2) → wpX_executeSection (fun u => match u with | (n0, n1, n2, n3, n4, n5, n6, n7, n8, n9, n10, n11, n12, n13, n14, n15, n16, n17, n18, n19, n20, n21, n22) => (∀ y : Int32, y = nI k + 1 → wX_run_10 post (d + 1) y n0 n1 n2 n3 n4 n5 n6 n7 n8 n9 n10 n11 n12 n13 n14 n15 n16 n17 n18 n19 n20 n21 n22)) ((nI C), (nI L), lev, (nI R2.1), (nI k), R2.2.1, kk, kp, kf, ks, lw, lc, lo, lt, lx, ly, lk, code, ss, se, R2.2.2.1, R2.2.2.2.1, R2.2.2.2.2) (nI 0)) ∧
        (∀ post : Int32 → SY → Prop, post R'.2.1 ((nI C), (nI L), p', R'.2.1, (nI R'.1), kk, kp, kf, ks, lw, lc, lo, lt, lx, ly, lk, R'.2.2.1, R'.2.2.2.1, R'.2.2.2.2) → wY_run_161 post (wY_run_58 post (d + 2)) (nI k) 0 (nI C) (nI L) p R2.2.1 (nI R2.1) kk kp kf ks lw lc lo lt lx ly lk R2.2.2.1 R2.2.2.2.1 R2.2.2.2.2) := by
      intro R2 i2
      obtain ⟨R0, i0, X0, Y0⟩ := S 0 (by decide) (B + 224) (nI k) R2 hk0 i2 (by omega)
      obtain ⟨p', R', iI, hX, hY⟩ := ih (k + 1) (B + 224 + 112) (nI k) R0 (by omega) (Or.inr ⟨k, rfl, rfl⟩) i0 (by omega)
      refine ⟨p', R', up (by omega) iI, fun post h => ?_, fun post h => ?_⟩
      · exact X0 _ (nm_r (nI_1 k) (hX post h))
      · exact br_t rfl (Y0 _ (nm_r (nI_1 k) (hY post h)))
    rcases hp with ⟨rfl, rfl⟩ | ⟨q, rfl, rfl⟩
    · obtain ⟨p', R', iI, hX, hY⟩ := go R (up (by omega) hR)
      refine ⟨p', R', iI, fun post h => ?_, fun post h => ?_⟩
      · exact br_f c1 (br_t rfl (hX post h))
      · exact br_f c2 (br_f c3 (br_t rc_h0 (br_t rfl (br_t rc_h0 (br_t rfl (hY post h))))))
    · have n1 : ¬ nI q = (-1 : Int32) := rc_nm1 (by omega)
      have n0 : ¬ nI q < 0 := nI_pos (by omega)
      have hq : nI q = -1 ∨ ∃ j : Nat, j < 16 ∧ nI q = nI j := Or.inr ⟨q, by omega, rfl⟩
      have vq : vp_in (nI q) 16 := vp_in_nI (by omega) (by decide)
      have e15 : nI (q + 1) &&& 15 = nI (q + 1) := rc_and15 (by omega)
      by_cases hpt : kp (nI q).toNatClampNeg = kp (nI (q + 1)).toNatClampNeg
      · by_cases hky : kk (nI q).toNatClampNeg = kk (nI (q + 1)).toNatClampNeg
        · obtain ⟨p', R', iI, hX, hY⟩ := go R (up (by omega) hR)
          refine ⟨p', R', iI, fun post h => ?_, fun post h => ?_⟩
          · exact br_f c1 (br_f n1 (And.intro vq (And.intro vk (br_t hpt (And.intro vq (And.intro vk (br_t hky (hX post h))))))))
          · refine br_f c2 (br_f c3 (br_f n0 (br_t rfl (And.intro vk (And.intro vq (br_t hpt.symm (br_t rfl (br_f n0 ?_))))))))
            rw [e15]
            exact And.intro vk (And.intro vq (br_t hky.symm (br_t rfl (hY post h))))
        · obtain ⟨R1, i1, X1, Y1⟩ := S 1 (by decide) B (nI q) R hq hR (by omega)
          obtain ⟨p', R', iI, hX, hY⟩ := go R1 (up (by omega) i1)
          refine ⟨p', R', iI, fun post h => ?_, fun post h => ?_⟩
          · exact br_f c1 (br_f n1 (And.intro vq (And.intro vk (br_t hpt (And.intro vq (And.intro vk (br_f hky (X1 _ (hX post h)))))))))
          · refine br_f c2 (br_f c3 (br_f n0 (br_t rfl (And.intro vk (And.intro vq (br_t hpt.symm (br_t rfl (br_f n0 ?_))))))))
            rw [e15]
            exact And.intro vk (And.intro vq (br_f (fun z => hky z.symm) (Y1 _ (br_t rfl (hY post h)))))
      · obtain ⟨R1, i1, X1, Y1⟩ := S 1 (by decide) B (nI q) R hq hR (by omega)
        obtain ⟨R2, i2, X2, Y2⟩ := S 2 (by decide) (B + 112) (nI q) R1 hq i1 (by omega)
        obtain ⟨p', R', iI, hX, hY⟩ := go R2 (up (by omega) i2)
        refine ⟨p', R', iI, fun post h => ?_, fun post h => ?_⟩
        · exact br_f c1 (br_f n1 (And.intro vq (And.intro vk (br_f hpt (X1 _ (X2 _ (hX post h)))))))
        · exact br_f c2 (br_f c3 (br_f n0 (br_t rfl (And.intro vk (And.intro vq (br_f (fun z => hpt z.symm) (br_f rc_10 (Y1 _ (br_f rc_10 (Y2 _ (hY post h)))))))))))
end
