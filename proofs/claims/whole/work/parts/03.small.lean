/-! the small own methods of both sides -/
theorem rc_iw1 {post : Int32 → Prop} {x a b : Int32} (h : rc_o a b x) (hp : post 1) : wpX_isWithin post x a b := br_f h.1 (br_f h.2 hp)
theorem rc_iw0 {post : Int32 → Prop} {x a b : Int32} (h : ¬ rc_o a b x) (hp : post 0) : wpX_isWithin post x a b := by
  by_cases h1 : x < a
  · exact br_t h1 hp
  · by_cases h2 : b < x
    · exact br_f h1 (br_t h2 hp)
    · exact absurd ⟨h1, h2⟩ h
theorem rc_am1 {post : Int32 → Prop} {x : Int32} (h : rc_o (-999) 999 x) (hp : post 1) : wpX_isAmount post x := rc_iw1 h ⟨rfl, hp⟩
theorem rc_am0 {post : Int32 → Prop} {x : Int32} (h : ¬ rc_o (-999) 999 x) (hp : post 0) : wpX_isAmount post x := rc_iw0 h ⟨rfl, hp⟩
theorem rc_jn1 {post : Int32 → Prop} {u : SY} {x a b : Int32} (h : rc_o a b x) (hp : post 1) : wpY_in post u x a b := by
  obtain ⟨_, _, _, _, _, _, _, _, _, _, _, _, _, _, _, _, _, _, _⟩ := u
  exact br_f h.1 (br_f h.2 hp)
theorem rc_jn0 {post : Int32 → Prop} {u : SY} {x a b : Int32} (h : ¬ rc_o a b x) (hp : post 0) : wpY_in post u x a b := by
  obtain ⟨_, _, _, _, _, _, _, _, _, _, _, _, _, _, _, _, _, _, _⟩ := u
  by_cases h1 : x < a
  · exact br_t h1 hp
  · by_cases h2 : b < x
    · exact br_f h1 (br_t h2 hp)
    · exact absurd ⟨h1, h2⟩ h
theorem rc_it1 {post : Int32 → Prop} {w z b : Int32} (hz : z ≤ w ↔ b < w) (h : rc_o 0 b w) (hp : post 1) : wX_isTarget_18 post w z :=
  br_f h.1 (br_f (fun q => h.2 (hz.mp q)) hp)
theorem rc_it0 {post : Int32 → Prop} {w z b : Int32} (hz : z ≤ w ↔ b < w) (h : ¬ rc_o 0 b w) (hp : post 0) : wX_isTarget_18 post w z := by
  by_cases h1 : w < 0
  · exact br_t h1 hp
  · by_cases h2 : b < w
    · exact br_f h1 (br_t (hz.mpr h2) hp)
    · exact absurd ⟨h1, h2⟩ h
theorem rc_itA {post : Int32 → Prop} {o w : Int32} (h : o = 6 ∨ o = 7) (hp : wX_isTarget_18 post w 4) : wpX_isTarget post o w := by
  by_cases h6 : o = 6
  · exact br_t h6 hp
  · exact br_f h6 (br_t (h.resolve_left h6) hp)
theorem rc_itB {post : Int32 → Prop} {o w : Int32} (h : ¬ (o = 6 ∨ o = 7)) (hp : wX_isTarget_18 post w 6) : wpX_isTarget post o w :=
  br_f (fun z => h (Or.inl z)) (br_f (fun z => h (Or.inr z)) hp)

section
variable {C L : Nat} {lev : Int32} {kk kp kf ks lw lc lo lt lx ly lk code ss se : Nat → Int32} {p : Int32} {t : Nat} {e e' : Int32} {wf ind ch : Nat → Int32}

/-- a source: both sides find the same number -/
theorem rc_src (hp : p = -1 ∨ ∃ q : Nat, q < 16 ∧ p = nI q) (hvc : rc_vc kk kp kf ks) (hk : ∀ j : Nat, rc_b 999 (lk j)) (hW : rc_W wf) {s : Int32} {a : Nat} (ha : a ≤ 10) (hs : s = nI a) {i : Nat} (hi : i < 14) :
    ∃ z : Int32, rc_b 999999 z ∧ (∀ post : Int32 → Prop, post z → wpX_sourceNumber post ((nI C), (nI L), lev, (nI t), p, e, kk, kp, kf, ks, lw, lc, lo, lt, lx, ly, lk, code, ss, se, wf, ind, ch) s (lk (nI i).toNatClampNeg)) ∧
      (∀ post : Int32 → Prop, post z → wpY_source post ((nI C), (nI L), p, e', (nI t), kk, kp, kf, ks, lw, lc, lo, lt, lx, ly, lk, wf, ind, ch) s (nI i)) := by
  subst hs
  by_cases h6 : a < 6
  · have g6 : ¬ (6 : Int32) ≤ nI a := nI_ge (b := 6) h6 (by decide)
    have v6 : vp_in (nI a) 6 := vp_in_nI h6 (by decide)
    exact ⟨wf (nI a).toNatClampNeg, hW _, fun post h => br_f g6 ⟨v6, h⟩, fun post h => br_f g6 ⟨v6, h⟩⟩
  · have g6 : (6 : Int32) ≤ nI a := nI_le (a := 6) (by omega) (by omega)
    by_cases h10 : a = 10
    · subst h10
      exact ⟨lk (nI i).toNatClampNeg, rc_b_up (hk _), fun post h => br_t g6 (br_t rfl h), fun post h => br_t g6 (br_t rfl ⟨vp_in_nI hi (by decide), h⟩)⟩
    · have g10 : ¬ nI a = (10 : Int32) := fun h => h10 ((nI_eq (b := 10) (by omega) (by omega)).mp h)
      rcases hp with rfl | ⟨q, hq, rfl⟩
      · exact ⟨0, rc_b_0 (by decide), fun post h => br_t g6 (br_f g10 (br_t rfl h)), fun post h => br_t g6 (br_f g10 (br_f (by decide) h))⟩
      · have n1 : ¬ nI q = (-1 : Int32) := rc_nm1 (by omega)
        have g0 : (0 : Int32) ≤ nI q := nI_pos' (by omega)
        have vq : vp_in (nI q) 16 := vp_in_nI hq (by decide)
        have n6 : ¬ nI a < (6 : Int32) := nI_nlt (b := 6) (by omega) (by omega)
        obtain ⟨v1, v2, v3, v4⟩ := hvc (nI q).toNatClampNeg
        have ha' : a = 6 ∨ a = 7 ∨ a = 8 ∨ a = 9 := by omega
        rcases ha' with rfl | rfl | rfl | rfl
        · exact ⟨kk (nI q).toNatClampNeg, rc_b_up v1, fun post h => br_t g6 (br_f g10 (br_f n1 (br_f n6 (br_f (by decide) (br_t rfl ⟨vq, h⟩))))),
            fun post h => br_t g6 (br_f g10 (br_t g0 (br_t rfl ⟨vq, h⟩)))⟩
        · exact ⟨kp (nI q).toNatClampNeg, rc_b_up v2, fun post h => br_t g6 (br_f g10 (br_f n1 (br_f n6 (br_f (by decide) (br_f (by decide) (br_t rfl ⟨vq, h⟩)))))),
            fun post h => br_t g6 (br_f g10 (br_t g0 (br_f (by decide) (br_t rfl ⟨vq, h⟩))))⟩
        · exact ⟨kf (nI q).toNatClampNeg, rc_b_up v3, fun post h => br_t g6 (br_f g10 (br_f n1 (br_f n6 (br_f (by decide) (br_f (by decide) (br_f (by decide) (br_t rfl ⟨vq, h⟩))))))),
            fun post h => br_t g6 (br_f g10 (br_t g0 (br_f (by decide) (br_f (by decide) (br_t rfl ⟨vq, h⟩)))))⟩
        · exact ⟨ks (nI q).toNatClampNeg, rc_b_up v4, fun post h => br_t g6 (br_f g10 (br_f n1 (br_f n6 (br_t (by decide) ⟨vq, h⟩)))),
            fun post h => br_t g6 (br_f g10 (br_t g0 (br_f (by decide) (br_f (by decide) (br_f (by decide) ⟨vq, h⟩)))))⟩

/-- a condition: both sides find the same answer -/
theorem rc_cond (h01 : rc_01 ind) {s : Int32} {a : Nat} (ha : a ≤ 8) (hs : s = nI a) :
    ∃ r : Int32, (∀ post : Int32 → Prop, post r → wpX_conditionHolds post ((nI C), (nI L), lev, (nI t), p, e, kk, kp, kf, ks, lw, lc, lo, lt, lx, ly, lk, code, ss, se, wf, ind, ch) s) ∧ (∀ post : Int32 → Prop, post r → wpY_isMet post ((nI C), (nI L), p, e', (nI t), kk, kp, kf, ks, lw, lc, lo, lt, lx, ly, lk, wf, ind, ch) s) := by
  subst hs
  by_cases h0 : a = 0
  · subst h0
    exact ⟨1, fun post h => br_t rfl h, fun post h => br_t rfl h⟩
  · have n0 : ¬ nI a = 0 := nI_ne0 (by omega) (by omega)
    by_cases h5 : 5 ≤ a
    · obtain ⟨b, rfl⟩ : ∃ b, a = b + 5 := ⟨a - 5, by omega⟩
      have e1 : nI (b + 5) - 1 - 4 = nI b := by
        have z : nI (b + 5) - 1 = nI (b + 4) := nI_pred (b + 4)
        rw [z]
        exact (pk_sub (a := b + 4) (b := 4) (by omega)).trans (congrArg nI (by omega))
      have e2 : (nI (b + 5) - 5) &&& 3 = nI b := by
        have z : nI (b + 5) - 5 = nI b := (pk_sub (a := b + 5) (b := 5) (by omega)).trans (congrArg nI (by omega))
        rw [z]
        exact rc_and3 (by omega)
      have c4 : (4 : Int32) < nI (b + 5) := nI_lt (a := 4) (by omega) (by omega)
      have c5 : (5 : Int32) ≤ nI (b + 5) := nI_le (a := 5) (by omega) (by omega)
      have vb : vp_in (nI b) 4 := vp_in_nI (by omega) (by decide)
      by_cases z : ind (nI b).toNatClampNeg = 0
      · refine ⟨1, fun post h => br_f n0 (br_t c4 ?_), fun post h => br_f n0 (br_t c5 ?_)⟩
        · rw [e1]
          exact ⟨vb, br_t z h⟩
        · rw [e2]
          exact ⟨vb, br_t z h⟩
      · refine ⟨0, fun post h => br_f n0 (br_t c4 ?_), fun post h => br_f n0 (br_t c5 ?_)⟩
        · rw [e1]
          exact ⟨vb, br_f z h⟩
        · rw [e2]
          exact ⟨vb, br_f z h⟩
    · obtain ⟨b, rfl⟩ : ∃ b, a = b + 1 := ⟨a - 1, by omega⟩
      have e1 : nI (b + 1) - 1 = nI b := nI_pred b
      have e2 : (nI (b + 1) - 1) &&& 3 = nI b := by
        rw [e1]
        exact rc_and3 (by omega)
      have c4 : ¬ (4 : Int32) < nI (b + 1) := nI_nlt (a := 4) (by omega) (by decide)
      have c5 : ¬ (5 : Int32) ≤ nI (b + 1) := nI_ge (b := 5) (by omega) (by decide)
      have vb : vp_in (nI b) 4 := vp_in_nI (by omega) (by decide)
      rcases h01 (nI b).toNatClampNeg with z | z
      · refine ⟨0, fun post h => br_f n0 (br_f c4 ?_), fun post h => br_f n0 (br_f c5 ?_)⟩
        · rw [e1, z]
          exact ⟨vb, rfl, h⟩
        · rw [e2]
          exact ⟨vb, br_t z h⟩
      · refine ⟨1, fun post h => br_f n0 (br_f c4 ?_), fun post h => br_f n0 (br_f c5 ?_)⟩
        · rw [e1, z]
          exact ⟨vb, rfl, h⟩
        · rw [e2]
          exact ⟨vb, br_f (by rw [z]; decide) h⟩

/-- the text with one character more: kept while it is below 80 -/
def rc_ch (t : Nat) (ch : Nat → Int32) (x : Int32) : Nat → Int32 := if t < 80 then upd ch (nI t).toNatClampNeg x else ch
theorem rc_aX (ht : t < 2 ^ 30) {post : SX → Prop} {x : Int32} (h : post ((nI C), (nI L), lev, (nI (t + 1)), p, e, kk, kp, kf, ks, lw, lc, lo, lt, lx, ly, lk, code, ss, se, wf, ind, (rc_ch t ch x))) : wpX_addCharacter post ((nI C), (nI L), lev, (nI t), p, e, kk, kp, kf, ks, lw, lc, lo, lt, lx, ly, lk, code, ss, se, wf, ind, ch) x := by
  unfold rc_ch at h
  by_cases h8 : t < 80
  · rw [if_pos h8] at h
    exact br_f (nI_ge (b := 80) h8 (by decide)) ⟨vp_in_nI h8 (by decide), nm_e (nm_r (nI_1 t) h)⟩
  · rw [if_neg h8] at h
    exact br_t (nI_le (a := 80) (by omega) (by omega)) (nm_r (nI_1 t) h)
theorem rc_aY (ht : t < 2 ^ 30) {post : SY → Prop} {x : Int32} (h : post ((nI C), (nI L), p, e, (nI (t + 1)), kk, kp, kf, ks, lw, lc, lo, lt, lx, ly, lk, wf, ind, (rc_ch t ch x))) : wpY_put post ((nI C), (nI L), p, e, (nI t), kk, kp, kf, ks, lw, lc, lo, lt, lx, ly, lk, wf, ind, ch) x := by
  unfold rc_ch at h
  by_cases h8 : t < 80
  · rw [if_pos h8] at h
    exact br_f (nI_ge (b := 80) h8 (by decide)) ⟨vp_in_nI h8 (by decide), nm_e (nm_r (nI_1 t) h)⟩
  · rw [if_neg h8] at h
    exact br_t (nI_le (a := 80) (by omega) (by omega)) (nm_r (nI_1 t) h)
end
