/-! one line executed: both sides come to the same run state -/
section
variable {C L : Nat} {lev : Int32} {kk kp kf ks lw lc lo lt lx ly lk code ss se : Nat → Int32} {p : Int32} {t : Nat} {e e' : Int32} {wf ind ch : Nat → Int32}

theorem rc_ne {a : Nat} (b : Nat) (ha : a < 2 ^ 31) (hb : b < 2 ^ 31) (h : ¬ a = b) : ¬ nI a = nI b := fun z => h ((nI_eq ha hb).mp z)
theorem rc_228 {a : Nat} (h : a ≤ 5) {x3 : Int32} {x4 : Int64} {post : SY → Prop} (hp : post ((nI C), (nI L), p, e, (nI t), kk, kp, kf, ks, lw, lc, lo, lt, lx, ly, lk, wf, ind, ch)) : wY_execute_228 post (nI a) x3 x4 (nI C) (nI L) p e (nI t) kk kp kf ks lw lc lo lt lx ly lk wf ind ch :=
  br_f (rc_ne 6 (by omega) (by omega) (by omega)) (br_f (rc_ne 7 (by omega) (by omega) (by omega)) (br_f (rc_ne 8 (by omega) (by omega) (by omega)) (br_f (rc_ne 9 (by omega) (by omega) (by omega)) hp)))
theorem rc_151 {a : Nat} (h : a ≤ 4) {w : Nat} (hw : w ≤ 5) {x4 x6 z : Int64} {post : SY → Prop} (hp : post ((nI C), (nI L), p, e, (nI t), kk, kp, kf, ks, lw, lc, lo, lt, lx, ly, lk, (upd wf (nI w).toNatClampNeg ((z - z / 1000000 * 1000000).toInt32)), ind, ch)) :
    wY_execute_151 post (nI a) (nI w) x4 x6 z (nI C) (nI L) p e (nI t) kk kp kf ks lw lc lo lt lx ly lk wf ind ch :=
  And.intro rc_m6 (And.intro (vp_in_nI (by omega) (by decide)) (nm_e (br_f (rc_ne 5 (by omega) (by omega) (by omega)) (rc_228 (by omega) hp))))

theorem rc_ar (h01 : rc_01 ind) {o : Int32} {a : Nat} (ha : a ≤ 4) (ho : o = nI a) {w : Nat} (hw : w ≤ 5) (x y : Int32) :
    ∃ (r : Int32) (ind' : Nat → Int32), rc_b 999999 r ∧ rc_01 ind' ∧ (∀ post : Int32 → SX → Prop, post r ((nI C), (nI L), lev, (nI t), p, e, kk, kp, kf, ks, lw, lc, lo, lt, lx, ly, lk, code, ss, se, wf, ind', ch) → wpX_calculate post ((nI C), (nI L), lev, (nI t), p, e, kk, kp, kf, ks, lw, lc, lo, lt, lx, ly, lk, code, ss, se, wf, ind, ch) o x.toInt64 y.toInt64) ∧
      (∀ post : SY → Prop, post ((nI C), (nI L), p, e', (nI t), kk, kp, kf, ks, lw, lc, lo, lt, lx, ly, lk, (upd wf (nI w).toNatClampNeg r), ind', ch) →
        (((nI a) = 4 → ((y.toInt64 = 0 → (∀ b : Nat → Int32, b = upd ind 3 (vp_nar .boolean 1) → wY_execute_71 post (nI a) (nI w) x.toInt64 y.toInt64 (nI C) (nI L) p e' (nI t) kk kp kf ks lw lc lo lt lx ly lk wf b ch)) ∧ (¬ y.toInt64 = 0 → wY_execute_71 post (nI a) (nI w) x.toInt64 y.toInt64 (nI C) (nI L) p e' (nI t) kk kp kf ks lw lc lo lt lx ly lk wf ind ch))) ∧ (¬ (nI a) = 4 → wY_execute_71 post (nI a) (nI w) x.toInt64 y.toInt64 (nI C) (nI L) p e' (nI t) kk kp kf ks lw lc lo lt lx ly lk wf ind ch))) := by
  subst ho
  have ha' : a = 0 ∨ a = 1 ∨ a = 2 ∨ a = 3 ∨ a = 4 := by omega
  rcases ha' with rfl | rfl | rfl | rfl | rfl
  · exact ⟨_, ind, rc_cut x.toInt64, h01, fun post h => br_t (by decide) (And.intro rc_m6 h),
      fun post h => br_f (by decide) (br_f (by decide) (br_t rfl (rc_151 (by decide) hw h)))⟩
  · exact ⟨_, ind, rc_cut (x.toInt64 + y.toInt64), h01, fun post h => br_f (by decide) (br_f (by decide) (br_t rfl (nm_e (And.intro rc_m6 h)))),
      fun post h => br_f (by decide) (br_f (by decide) (br_f (by decide) (br_t rfl (rc_151 (by decide) hw h))))⟩
  · exact ⟨_, ind, rc_cut (x.toInt64 - y.toInt64), h01, fun post h => br_f (by decide) (br_f (by decide) (br_f (by decide) (br_t rfl (nm_e (And.intro rc_m6 h))))),
      fun post h => br_f (by decide) (br_f (by decide) (br_f (by decide) (br_f (by decide) (br_t rfl (rc_151 (by decide) hw h)))))⟩
  · exact ⟨_, ind, rc_cut (x.toInt64 * y.toInt64), h01, fun post h => br_f (by decide) (br_f (by decide) (br_f (by decide) (br_f (by decide) (br_t rfl (nm_e (And.intro rc_m6 h)))))),
      fun post h => br_f (by decide) (br_f (by decide) (br_f (by decide) (br_f (by decide) (br_f (by decide) (br_t rfl (rc_151 (by decide) hw h))))))⟩
  · by_cases y0 : y.toInt64 = 0
    · exact ⟨_, upd ind 3 (vp_nar .boolean 1), rc_cut 0, rc_01u h01 3 (Or.inr rc_n1), fun post h => br_f (by decide) (br_f (by decide) (br_f (by decide) (br_f (by decide) (br_f (by decide) (br_t rfl (br_t y0 (nm_e (And.intro rc_m6 h)))))))),
        fun post h => br_t rfl (br_t y0 (nm_e (br_f (by decide) (br_f (by decide) (br_f (by decide) (br_f (by decide) (br_f (by decide) (br_t y0 (rc_151 (by decide) hw h)))))))))⟩
    · exact ⟨_, ind, rc_cut (x.toInt64 / y.toInt64), h01, fun post h => br_f (by decide) (br_f (by decide) (br_f (by decide) (br_f (by decide) (br_f (by decide) (br_t rfl (br_f y0 (And.intro y0 (And.intro rc_m6 h)))))))),
        fun post h => br_t rfl (br_f y0 (br_f (by decide) (br_f (by decide) (br_f (by decide) (br_f (by decide) (br_f (by decide) (br_f y0 (br_f y0 (And.intro y0 (rc_151 (by decide) hw h))))))))))⟩

theorem rc_v4 {n : Nat} (h : n < 4) : vp_in (nI n) 4 := vp_in_nI h (by decide)
theorem rc_cmp (h01 : rc_01 ind) (x y : Int32) {x3 : Int32} :
    ∃ ind' : Nat → Int32, rc_01 ind' ∧ (∀ post : SX → Prop, post ((nI C), (nI L), lev, (nI t), p, e, kk, kp, kf, ks, lw, lc, lo, lt, lx, ly, lk, code, ss, se, wf, ind', ch) → wpX_compare post ((nI C), (nI L), lev, (nI t), p, e, kk, kp, kf, ks, lw, lc, lo, lt, lx, ly, lk, code, ss, se, wf, ind, ch) x y) ∧
      (∀ post : SY → Prop, post ((nI C), (nI L), p, e', (nI t), kk, kp, kf, ks, lw, lc, lo, lt, lx, ly, lk, wf, ind', ch) → wY_execute_166 post (nI 5) x3 x.toInt64 y.toInt64 (nI C) (nI L) p e' (nI t) kk kp kf ks lw lc lo lt lx ly lk wf ind ch) := by
  have v0 : vp_in 0 4 := rc_v4 (n := 0) (by decide)
  have v1 : vp_in 1 4 := rc_v4 (n := 1) (by decide)
  have v2 : vp_in 2 4 := rc_v4 (n := 2) (by decide)
  by_cases h1 : x ≤ y <;> by_cases h2 : y ≤ x <;> by_cases h3 : x = y
  · exact ⟨upd (upd (upd ind (0 : Int32).toNatClampNeg (vp_nar .boolean 0)) (1 : Int32).toNatClampNeg (vp_nar .boolean 0)) 2 (vp_nar .boolean 1),
      rc_01u (rc_01u (rc_01u h01 _ (Or.inl rc_n0)) _ (Or.inl rc_n0)) _ (Or.inr rc_n1),
      fun post h => br_t h1 (And.intro v0 (nm_e (br_t h2 (And.intro v1 (nm_e (br_t h3 (nm_e h))))))),
      fun post h => br_t rfl (br_t ((rc_le64 x y).mpr h1) (And.intro v0 (nm_e (br_t ((rc_le64 y x).mpr h2) (And.intro v1 (nm_e (br_t ((rc_eq64 x y).mpr h3) (And.intro v2 (nm_e (rc_228 (by decide) h)))))))))) ⟩
  · exact ⟨upd (upd (upd ind (0 : Int32).toNatClampNeg (vp_nar .boolean 0)) (1 : Int32).toNatClampNeg (vp_nar .boolean 0)) 2 (vp_nar .boolean 0),
      rc_01u (rc_01u (rc_01u h01 _ (Or.inl rc_n0)) _ (Or.inl rc_n0)) _ (Or.inl rc_n0),
      fun post h => br_t h1 (And.intro v0 (nm_e (br_t h2 (And.intro v1 (nm_e (br_f h3 (nm_e h))))))),
      fun post h => br_t rfl (br_t ((rc_le64 x y).mpr h1) (And.intro v0 (nm_e (br_t ((rc_le64 y x).mpr h2) (And.intro v1 (nm_e (br_f (fun z => h3 ((rc_eq64 x y).mp z)) (And.intro v2 (nm_e (rc_228 (by decide) h)))))))))) ⟩
  · exact ⟨upd (upd (upd ind (0 : Int32).toNatClampNeg (vp_nar .boolean 0)) (1 : Int32).toNatClampNeg (vp_nar .boolean 1)) 2 (vp_nar .boolean 1),
      rc_01u (rc_01u (rc_01u h01 _ (Or.inl rc_n0)) _ (Or.inr rc_n1)) _ (Or.inr rc_n1),
      fun post h => br_t h1 (And.intro v0 (nm_e (br_f h2 (And.intro v1 (nm_e (br_t h3 (nm_e h))))))),
      fun post h => br_t rfl (br_t ((rc_le64 x y).mpr h1) (And.intro v0 (nm_e (br_f (fun z => h2 ((rc_le64 y x).mp z)) (And.intro v1 (nm_e (br_t ((rc_eq64 x y).mpr h3) (And.intro v2 (nm_e (rc_228 (by decide) h)))))))))) ⟩
  · exact ⟨upd (upd (upd ind (0 : Int32).toNatClampNeg (vp_nar .boolean 0)) (1 : Int32).toNatClampNeg (vp_nar .boolean 1)) 2 (vp_nar .boolean 0),
      rc_01u (rc_01u (rc_01u h01 _ (Or.inl rc_n0)) _ (Or.inr rc_n1)) _ (Or.inl rc_n0),
      fun post h => br_t h1 (And.intro v0 (nm_e (br_f h2 (And.intro v1 (nm_e (br_f h3 (nm_e h))))))),
      fun post h => br_t rfl (br_t ((rc_le64 x y).mpr h1) (And.intro v0 (nm_e (br_f (fun z => h2 ((rc_le64 y x).mp z)) (And.intro v1 (nm_e (br_f (fun z => h3 ((rc_eq64 x y).mp z)) (And.intro v2 (nm_e (rc_228 (by decide) h)))))))))) ⟩
  · exact ⟨upd (upd (upd ind (0 : Int32).toNatClampNeg (vp_nar .boolean 1)) (1 : Int32).toNatClampNeg (vp_nar .boolean 0)) 2 (vp_nar .boolean 1),
      rc_01u (rc_01u (rc_01u h01 _ (Or.inr rc_n1)) _ (Or.inl rc_n0)) _ (Or.inr rc_n1),
      fun post h => br_f h1 (And.intro v0 (nm_e (br_t h2 (And.intro v1 (nm_e (br_t h3 (nm_e h))))))),
      fun post h => br_t rfl (br_f (fun z => h1 ((rc_le64 x y).mp z)) (And.intro v0 (nm_e (br_t ((rc_le64 y x).mpr h2) (And.intro v1 (nm_e (br_t ((rc_eq64 x y).mpr h3) (And.intro v2 (nm_e (rc_228 (by decide) h)))))))))) ⟩
  · exact ⟨upd (upd (upd ind (0 : Int32).toNatClampNeg (vp_nar .boolean 1)) (1 : Int32).toNatClampNeg (vp_nar .boolean 0)) 2 (vp_nar .boolean 0),
      rc_01u (rc_01u (rc_01u h01 _ (Or.inr rc_n1)) _ (Or.inl rc_n0)) _ (Or.inl rc_n0),
      fun post h => br_f h1 (And.intro v0 (nm_e (br_t h2 (And.intro v1 (nm_e (br_f h3 (nm_e h))))))),
      fun post h => br_t rfl (br_f (fun z => h1 ((rc_le64 x y).mp z)) (And.intro v0 (nm_e (br_t ((rc_le64 y x).mpr h2) (And.intro v1 (nm_e (br_f (fun z => h3 ((rc_eq64 x y).mp z)) (And.intro v2 (nm_e (rc_228 (by decide) h)))))))))) ⟩
  · exact ⟨upd (upd (upd ind (0 : Int32).toNatClampNeg (vp_nar .boolean 1)) (1 : Int32).toNatClampNeg (vp_nar .boolean 1)) 2 (vp_nar .boolean 1),
      rc_01u (rc_01u (rc_01u h01 _ (Or.inr rc_n1)) _ (Or.inr rc_n1)) _ (Or.inr rc_n1),
      fun post h => br_f h1 (And.intro v0 (nm_e (br_f h2 (And.intro v1 (nm_e (br_t h3 (nm_e h))))))),
      fun post h => br_t rfl (br_f (fun z => h1 ((rc_le64 x y).mp z)) (And.intro v0 (nm_e (br_f (fun z => h2 ((rc_le64 y x).mp z)) (And.intro v1 (nm_e (br_t ((rc_eq64 x y).mpr h3) (And.intro v2 (nm_e (rc_228 (by decide) h)))))))))) ⟩
  · exact ⟨upd (upd (upd ind (0 : Int32).toNatClampNeg (vp_nar .boolean 1)) (1 : Int32).toNatClampNeg (vp_nar .boolean 1)) 2 (vp_nar .boolean 0),
      rc_01u (rc_01u (rc_01u h01 _ (Or.inr rc_n1)) _ (Or.inr rc_n1)) _ (Or.inl rc_n0),
      fun post h => br_f h1 (And.intro v0 (nm_e (br_f h2 (And.intro v1 (nm_e (br_f h3 (nm_e h))))))),
      fun post h => br_t rfl (br_f (fun z => h1 ((rc_le64 x y).mp z)) (And.intro v0 (nm_e (br_f (fun z => h2 ((rc_le64 y x).mp z)) (And.intro v1 (nm_e (br_f (fun z => h3 ((rc_eq64 x y).mp z)) (And.intro v2 (nm_e (rc_228 (by decide) h)))))))))) ⟩

/-- a line: from one run state both sides come to the same one; X counts ahead of it, Y within -/
theorem rc_line (hp : p = -1 ∨ ∃ q : Nat, q < 16 ∧ p = nI q) (hvc : rc_vc kk kp kf ks) (hvl : rc_vl lw lc lo lt lx ly lk) (hW : rc_W wf) (h01 : rc_01 ind) (ht : t + 8 < 2 ^ 30) {i : Nat} (hi : i < 14) :
    ∃ (t' : Nat) (wf' ind' ch' : Nat → Int32), t' ≤ t + 8 ∧ rc_W wf' ∧ rc_01 ind' ∧
      (∀ post : SX → Prop, post ((nI C), (nI L), lev, (nI t'), p, e, kk, kp, kf, ks, lw, lc, lo, lt, lx, ly, lk, code, ss, se, wf', ind', ch') → wpX_executeLine post ((nI C), (nI L), lev, (nI t), p, e, kk, kp, kf, ks, lw, lc, lo, lt, lx, ly, lk, code, ss, se, wf, ind, ch) (nI i)) ∧
      (∀ post : SY → Prop, post ((nI C), (nI L), p, (e' + 1), (nI t'), kk, kp, kf, ks, lw, lc, lo, lt, lx, ly, lk, wf', ind', ch') → wpY_execute post ((nI C), (nI L), p, e', (nI t), kk, kp, kf, ks, lw, lc, lo, lt, lx, ly, lk, wf, ind, ch) (nI i)) := by
  have vi : vp_in (nI i) 14 := vp_in_nI hi (by decide)
  have hk : ∀ j : Nat, rc_b 999 (lk j) := fun j => (hvl j).2.2.2.2.2
  obtain ⟨-, -, ⟨a, w, ha, hw, ho, htg, h67⟩, ⟨bx, hbx, ex⟩, ⟨by', hby, ey⟩, -⟩ := hvl (nI i).toNatClampNeg
  obtain ⟨x, hx, xX, xY⟩ := rc_src (C := C) (L := L) (lev := lev) (lw := lw) (lc := lc) (lo := lo) (lt := lt) (lx := lx) (ly := ly) (code := code) (ss := ss) (se := se) (t := t) (e := e) (e' := e') (ind := ind) (ch := ch) hp hvc hk hW hbx ex hi
  obtain ⟨y, hy, yX, yY⟩ := rc_src (C := C) (L := L) (lev := lev) (lw := lw) (lc := lc) (lo := lo) (lt := lt) (lx := lx) (ly := ly) (code := code) (ss := ss) (se := se) (t := t) (e := e) (e' := e') (ind := ind) (ch := ch) hp hvc hk hW hby ey hi
  by_cases h4 : a ≤ 4
  · obtain ⟨r, ind', hr, hi', cX, cY⟩ := rc_ar (C := C) (L := L) (lev := lev) (kk := kk) (kp := kp) (kf := kf) (ks := ks) (lw := lw) (lc := lc) (lo := lo) (lt := lt) (lx := lx) (ly := ly) (lk := lk) (code := code) (ss := ss) (se := se) (p := p) (t := t) (e := e) (e' := e' + 1) (wf := wf) (ch := ch) h01 h4 ho hw x y
    refine ⟨t, upd wf (nI w).toNatClampNeg r, ind', ch, by omega, rc_Wu hW _ hr, hi', fun post h => ?_, fun post h => ?_⟩
    · exact And.intro vi (And.intro vi (xX _ (And.intro vi (And.intro vi (yX _ (And.intro vi (nm_r htg (And.intro vi (nm_r ho
        (br_t (nI_lt (b := 5) (by omega) (by decide)) (And.intro vi (cX _ (And.intro (vp_in_nI (by omega) (by decide)) (nm_e h))))))))))))))
    · exact And.intro vi (nm_r ho (And.intro vi (nm_r htg (And.intro vi (xY _ (And.intro vi (yY _ (nm_e (cY _ h)))))))))
  · have a' : a = 5 ∨ a = 6 ∨ a = 7 ∨ a = 8 ∨ a = 9 := by omega
    rcases a' with rfl | rfl | rfl | rfl | rfl
    · obtain ⟨ind', hi', cX, cY⟩ := rc_cmp (C := C) (L := L) (lev := lev) (kk := kk) (kp := kp) (kf := kf) (ks := ks) (lw := lw) (lc := lc) (lo := lo) (lt := lt) (lx := lx) (ly := ly) (lk := lk) (code := code) (ss := ss) (se := se) (p := p) (t := t) (e := e) (e' := e' + 1) (wf := wf) (ch := ch) h01 x y (x3 := nI w)
      exact ⟨t, wf, ind', ch, by omega, hW, hi', fun post h => And.intro vi (And.intro vi (xX _ (And.intro vi (And.intro vi (yX _ (And.intro vi (nm_r htg (And.intro vi (nm_r ho (br_f (by decide) (br_f (by decide) (br_t rfl (cX _ h))))))))))))),
        fun post h => And.intro vi (nm_r ho (And.intro vi (nm_r htg (And.intro vi (xY _ (And.intro vi (yY _ (nm_e (br_f (by decide) (br_t (by decide) (cY _ h)))))))))))⟩
    · have hw3 : w ≤ 3 := h67 (by decide)
      have ew : nI w &&& 3 = nI w := rc_and3 hw3
      refine ⟨t, wf, upd ind (nI w).toNatClampNeg (vp_nar .boolean 1), ch, by omega, hW, rc_01u h01 _ (Or.inr rc_n1), fun post h => And.intro vi (And.intro vi (xX _ (And.intro vi (And.intro vi (yX _ (And.intro vi (nm_r htg (And.intro vi (nm_r ho (br_f (by decide) (br_f (by decide) (br_f (by decide) (br_t rfl (And.intro (vp_in_nI (by omega) (by decide)) (nm_e h))))))))))))))), fun post h => ?_⟩
      have k258 : wY_execute_258 post (nI 6) x.toInt64 1 (nI w &&& 3) (nI C) (nI L) p (e' + 1) (nI t) kk kp kf ks lw lc lo lt lx ly lk wf ind ch := by
        rw [ew]
        exact And.intro (vp_in_nI (by omega) (by decide)) (nm_e (br_f (by decide) (br_f (by decide) h)))
      exact And.intro vi (nm_r ho (And.intro vi (nm_r htg (And.intro vi (xY _ (And.intro vi (yY _ (nm_e (br_f (by decide) (br_t (by decide) (br_f (by decide) (br_t rfl (br_t rfl (k258))))))))))))))
    · have hw3 : w ≤ 3 := h67 (by decide)
      have ew : nI w &&& 3 = nI w := rc_and3 hw3
      refine ⟨t, wf, upd ind (nI w).toNatClampNeg (vp_nar .boolean 0), ch, by omega, hW, rc_01u h01 _ (Or.inl rc_n0), fun post h => And.intro vi (And.intro vi (xX _ (And.intro vi (And.intro vi (yX _ (And.intro vi (nm_r htg (And.intro vi (nm_r ho (br_f (by decide) (br_f (by decide) (br_f (by decide) (br_f (by decide) (br_t rfl (And.intro (vp_in_nI (by omega) (by decide)) (nm_e h)))))))))))))))), fun post h => ?_⟩
      have k258 : wY_execute_258 post (nI 7) x.toInt64 0 (nI w &&& 3) (nI C) (nI L) p (e' + 1) (nI t) kk kp kf ks lw lc lo lt lx ly lk wf ind ch := by
        rw [ew]
        exact And.intro (vp_in_nI (by omega) (by decide)) (nm_e (br_f (by decide) (br_f (by decide) h)))
      exact And.intro vi (nm_r ho (And.intro vi (nm_r htg (And.intro vi (xY _ (And.intro vi (yY _ (nm_e (br_f (by decide) (br_t (by decide) (br_f (by decide) (br_f (by decide) (br_t rfl (br_f (by decide) (k258)))))))))))))))
    · obtain ⟨t', ch', hb, cX, cY⟩ := rc_print (C := C) (L := L) (lev := lev) (kk := kk) (kp := kp) (kf := kf) (ks := ks) (lw := lw) (lc := lc) (lo := lo) (lt := lt) (lx := lx) (ly := ly) (lk := lk) (code := code) (ss := ss) (se := se) (p := p) (e := e) (e' := e' + 1) (wf := wf) (ind := ind) (ch := ch) ht hx
      refine ⟨t', wf, ind, ch', hb, hW, h01, fun post h => And.intro vi (And.intro vi (xX _ (And.intro vi (And.intro vi (yX _ (And.intro vi (nm_r htg (And.intro vi (nm_r ho (br_f (by decide) (br_f (by decide) (br_f (by decide) (br_f (by decide) (br_f (by decide) (br_t rfl (cX _ h)))))))))))))))), fun post h => ?_⟩
      have k259 : wY_execute_259 post (nI 8) x.toInt64 (nI C) (nI L) p (e' + 1) (nI t) kk kp kf ks lw lc lo lt lx ly lk wf ind ch := by
        refine br_t rfl ?_
        rw [rc_i64]
        exact cY _ (br_f (by decide) h)
      exact And.intro vi (nm_r ho (And.intro vi (nm_r htg (And.intro vi (xY _ (And.intro vi (yY _ (nm_e (br_f (by decide) (br_t (by decide) (br_f (by decide) (br_f (by decide) (br_f (by decide) k259)))))))))))))
    · exact ⟨t + 1, wf, ind, rc_ch t ch 10, by omega, hW, h01, fun post h => And.intro vi (And.intro vi (xX _ (And.intro vi (And.intro vi (yX _ (And.intro vi (nm_r htg (And.intro vi (nm_r ho (br_f (by decide) (br_f (by decide) (br_f (by decide) (br_f (by decide) (br_f (by decide) (br_f (by decide) (br_t rfl (rc_aX (by omega) h))))))))))))))))),
        fun post h => And.intro vi (nm_r ho (And.intro vi (nm_r htg (And.intro vi (xY _ (And.intro vi (yY _ (nm_e (br_f (by decide) (br_t (by decide) (br_f (by decide) (br_f (by decide) (br_f (by decide) (br_f (by decide) (br_t rfl (rc_aY (by omega) h))))))))))))))))⟩
end
