/-! end, speed, water, weigh -/
theorem u7_end {h : AH} (w : WF h) (x : Int32) : f_X7_end h (some 0) x = if win x 1 250 = 0 then f_X7_finding h (some 0) (-100001) else f_X7_change h (some 0) (some 2) (nI 0) x := by
  rcases win_cases x 1 250 with ⟨e, -⟩ | ⟨e, -⟩
  · simp (disch := first | (simp only [WF_sI]; exact w) | exact (w) | decide | (simp only [shq]; omega)) only [bd_some, bd2_some, bd2_id, i10, i00, not_true_eq_false, not_false_eq_true, if_true, if_false, ↓reduceIte, gR_w, gI_w, pI_w, isO_w, ldI_w, stI_w, ldZ_w, stZ_w, lenA_w, tR, f_X7_end, e7_within, e]
  · simp (disch := first | (simp only [WF_sI]; exact w) | exact (w) | decide | (simp only [shq]; omega)) only [bd_some, bd2_some, bd2_id, i10, i00, not_true_eq_false, not_false_eq_true, if_true, if_false, ↓reduceIte, gR_w, gI_w, pI_w, isO_w, ldI_w, stI_w, ldZ_w, stZ_w, lenA_w, tR, f_X7_end, e7_within, e]
    rfl
theorem u8_end {h : AH} (w : WF h) (x : Int32) : f_X8_end h (some 74) x = if win x 1 250 = 0 then f_X8_finding h (some 74) (-100001) else f_X8_becomes h (some 74) (nI 0) x := by
  rcases win_cases x 1 250 with ⟨e, -⟩ | ⟨e, -⟩
  · simp (disch := first | (simp only [WF_sI]; exact w) | exact (w) | decide | (simp only [shq]; omega)) only [bd_some, bd2_some, bd2_id, i10, i00, not_true_eq_false, not_false_eq_true, if_true, if_false, ↓reduceIte, gR_w, gI_w, pI_w, isO_w, ldI_w, stI_w, ldZ_w, stZ_w, lenA_w, tR, f_X8_end, e8_isIn, e]
  · simp (disch := first | (simp only [WF_sI]; exact w) | exact (w) | decide | (simp only [shq]; omega)) only [bd_some, bd2_some, bd2_id, i10, i00, not_true_eq_false, not_false_eq_true, if_true, if_false, ↓reduceIte, gR_w, gI_w, pI_w, isO_w, ldI_w, stI_w, ldZ_w, stZ_w, lenA_w, tR, f_X8_end, e8_isIn, e]
    rfl
theorem u7_speed {h : AH} (w : WF h) (x : Int32) : f_X7_speed h (some 0) x = if win x 1 9 = 0 then f_X7_finding h (some 0) (-100001) else f_X7_change h (some 0) (some 2) (nI 1) x := by
  rcases win_cases x 1 9 with ⟨e, -⟩ | ⟨e, -⟩
  · simp (disch := first | (simp only [WF_sI]; exact w) | exact (w) | decide | (simp only [shq]; omega)) only [bd_some, bd2_some, bd2_id, i10, i00, not_true_eq_false, not_false_eq_true, if_true, if_false, ↓reduceIte, gR_w, gI_w, pI_w, isO_w, ldI_w, stI_w, ldZ_w, stZ_w, lenA_w, tR, f_X7_speed, e7_within, e]
  · simp (disch := first | (simp only [WF_sI]; exact w) | exact (w) | decide | (simp only [shq]; omega)) only [bd_some, bd2_some, bd2_id, i10, i00, not_true_eq_false, not_false_eq_true, if_true, if_false, ↓reduceIte, gR_w, gI_w, pI_w, isO_w, ldI_w, stI_w, ldZ_w, stZ_w, lenA_w, tR, f_X7_speed, e7_within, e]
    rfl
theorem u8_speed {h : AH} (w : WF h) (x : Int32) : f_X8_speed h (some 74) x = if win x 1 9 = 0 then f_X8_finding h (some 74) (-100001) else f_X8_becomes h (some 74) (nI 1) x := by
  rcases win_cases x 1 9 with ⟨e, -⟩ | ⟨e, -⟩
  · simp (disch := first | (simp only [WF_sI]; exact w) | exact (w) | decide | (simp only [shq]; omega)) only [bd_some, bd2_some, bd2_id, i10, i00, not_true_eq_false, not_false_eq_true, if_true, if_false, ↓reduceIte, gR_w, gI_w, pI_w, isO_w, ldI_w, stI_w, ldZ_w, stZ_w, lenA_w, tR, f_X8_speed, e8_isIn, e]
  · simp (disch := first | (simp only [WF_sI]; exact w) | exact (w) | decide | (simp only [shq]; omega)) only [bd_some, bd2_some, bd2_id, i10, i00, not_true_eq_false, not_false_eq_true, if_true, if_false, ↓reduceIte, gR_w, gI_w, pI_w, isO_w, ldI_w, stI_w, ldZ_w, stZ_w, lenA_w, tR, f_X8_speed, e8_isIn, e]
    rfl
theorem w0 {h : AH} (w : WF h) (f : Nat → Int32) : WF (sI h 0 f) := (WF_sI _ _ _).mpr w
theorem op_end (x : Int32) : OpOk (fun h => f_X7_end h (some 0) x) (fun h => f_X8_end h (some 74) x) := by
  intro h w r
  rcases win_nI (x := x) (a := 1) (b := 250) (by omega) (by omega) with e | ⟨e, z, z1, z2, rfl⟩
  · have e' : win x 1 250 = 0 := e
    exact fin_ok (a := fun h => f_X7_end h (some 0) x) (b := fun h => f_X8_end h (some 74) x) (x := -100001) w r (by show f_X7_end h (some 0) x = _; rw [u7_end w, if_pos e']) (fun f => by show f_X8_end (sI h 0 f) (some 74) x = _; rw [u8_end (w0 w f), if_pos e'])
  · have e' : ¬ win (nI z) 1 250 = 0 := by rw [show win (nI z) 1 250 = 1 from e]; decide
    obtain ⟨C, r1, r2, r3, nx, sz, q1, q2, q3, q4, q5, q6⟩ := r
    obtain ⟨⟨en, sp, b1, b2, b3, b4, b5, b6⟩, rc, rp, rl, rwt, rt, ra⟩ := id r1
    obtain ⟨h1, h2, c1, c2, c3, c4, c5, c6, c7, c8⟩ := chg_ok (hg := h) (r := 2) (i := 0) (k := 0) (v := nI z) (v2 := nI z) (C2 := C) w r1 r2 r3 q1 q2 q3 q4 q5 q6 (Fr.rf h []) (fun _ z => by cases z) (Ag_rows (fun _ _ _ => rfl)) (by decide) (by decide) (by omega) (b3.trans b4.symm) (leC_rf C)
    have kk : ∀ j, j < 23 → j ≠ 2 → hI h2 j = hI h j := fun j h1 h2 => by rw [c6 j h1, if_neg h2]
    have nn : ∀ j, j ≠ 0 → hI h2 75 j = hI h 75 j := fun j h1 => by rw [c7 j, if_neg h1]
    refine ⟨_, h1, h2, by show f_X7_end h (some 0) (nI z) = _; rw [u7_end w, if_neg e']; exact c1, by show f_X8_end h1 (some 74) (nI z) = _; rw [u8_end c2, if_neg e']; exact c4, c8 h2 (Fr.rf h2 _) ⟨⟨z, sp, ⟨z1, z2⟩, b2, ?_, ?_, ?_, ?_⟩, ?_, ?_, ?_, ?_, ?_, ?_⟩⟩
    · rw [c6 2 (by omega), if_pos rfl]; rfl
    · rw [c7 0, if_pos rfl]
    · rw [c6 2 (by omega), if_pos rfl]; exact b5
    · rw [nn 1 (by omega)]; exact b6
    · exact rC_c rc (by rw [kk 3 (by omega) (by omega)]) (kk 5 (by omega) (by omega)) (kk 6 (by omega) (by omega)) (nn 2 (by omega)) (fun j _ _ => nn j (by omega))
    · exact rP_c rp (by rw [kk 3 (by omega) (by omega)]) (kk 7 (by omega) (by omega)) (kk 8 (by omega) (by omega)) (kk 9 (by omega) (by omega)) (nn 3 (by omega)) (fun j _ _ => nn j (by omega))
    · exact rL_c rl (by rw [kk 3 (by omega) (by omega)]) (kk 10 (by omega) (by omega)) (nn 4 (by omega)) (fun j _ _ => nn j (by omega))
    · exact rW_c rwt (kk 4 (by omega) (by omega)) (fun j _ _ => nn j (by omega))
    · exact rT_c rt (Nat.le_refl _) (by rw [kk 12 (by omega) (by omega)]) (kk 13 (by omega) (by omega)) (nn 5 (by omega)) (fun j _ _ => nn j (by omega))
    · exact rA_c ra (by rw [kk 20 (by omega) (by omega)]) (kk 21 (by omega) (by omega)) (nn 6 (by omega)) (fun j _ _ => nn j (by omega))
theorem op_speed (x : Int32) : OpOk (fun h => f_X7_speed h (some 0) x) (fun h => f_X8_speed h (some 74) x) := by
  intro h w r
  rcases win_nI (x := x) (a := 1) (b := 9) (by omega) (by omega) with e | ⟨e, z, z1, z2, rfl⟩
  · have e' : win x 1 9 = 0 := e
    exact fin_ok (a := fun h => f_X7_speed h (some 0) x) (b := fun h => f_X8_speed h (some 74) x) (x := -100001) w r (by show f_X7_speed h (some 0) x = _; rw [u7_speed w, if_pos e']) (fun f => by show f_X8_speed (sI h 0 f) (some 74) x = _; rw [u8_speed (w0 w f), if_pos e'])
  · have e' : ¬ win (nI z) 1 9 = 0 := by rw [show win (nI z) 1 9 = 1 from e]; decide
    obtain ⟨C, r1, r2, r3, nx, sz, q1, q2, q3, q4, q5, q6⟩ := r
    obtain ⟨⟨en, sp, b1, b2, b3, b4, b5, b6⟩, rc, rp, rl, rwt, rt, ra⟩ := id r1
    obtain ⟨h1, h2, c1, c2, c3, c4, c5, c6, c7, c8⟩ := chg_ok (hg := h) (r := 2) (i := 1) (k := 1) (v := nI z) (v2 := nI z) (C2 := C) w r1 r2 r3 q1 q2 q3 q4 q5 q6 (Fr.rf h []) (fun _ z => by cases z) (Ag_rows (fun _ _ _ => rfl)) (by decide) (by decide) (by omega) (b5.trans b6.symm) (leC_rf C)
    have kk : ∀ j, j < 23 → j ≠ 2 → hI h2 j = hI h j := fun j h1 h2 => by rw [c6 j h1, if_neg h2]
    have nn : ∀ j, j ≠ 1 → hI h2 75 j = hI h 75 j := fun j h1 => by rw [c7 j, if_neg h1]
    refine ⟨_, h1, h2, by show f_X7_speed h (some 0) (nI z) = _; rw [u7_speed w, if_neg e']; exact c1, by show f_X8_speed h1 (some 74) (nI z) = _; rw [u8_speed c2, if_neg e']; exact c4, c8 h2 (Fr.rf h2 _) ⟨⟨en, z, b1, ⟨z1, z2⟩, ?_, ?_, ?_, ?_⟩, ?_, ?_, ?_, ?_, ?_, ?_⟩⟩
    · rw [c6 2 (by omega), if_pos rfl]; exact b3
    · rw [nn 0 (by omega)]; exact b4
    · rw [c6 2 (by omega), if_pos rfl]; rfl
    · rw [c7 1, if_pos rfl]
    · exact rC_c rc (by rw [kk 3 (by omega) (by omega)]) (kk 5 (by omega) (by omega)) (kk 6 (by omega) (by omega)) (nn 2 (by omega)) (fun j _ _ => nn j (by omega))
    · exact rP_c rp (by rw [kk 3 (by omega) (by omega)]) (kk 7 (by omega) (by omega)) (kk 8 (by omega) (by omega)) (kk 9 (by omega) (by omega)) (nn 3 (by omega)) (fun j _ _ => nn j (by omega))
    · exact rL_c rl (by rw [kk 3 (by omega) (by omega)]) (kk 10 (by omega) (by omega)) (nn 4 (by omega)) (fun j _ _ => nn j (by omega))
    · exact rW_c rwt (kk 4 (by omega) (by omega)) (fun j _ _ => nn j (by omega))
    · exact rT_c rt (Nat.le_refl _) (by rw [kk 12 (by omega) (by omega)]) (kk 13 (by omega) (by omega)) (nn 5 (by omega)) (fun j _ _ => nn j (by omega))
    · exact rA_c ra (by rw [kk 20 (by omega) (by omega)]) (kk 21 (by omega) (by omega)) (nn 6 (by omega)) (fun j _ _ => nn j (by omega))
theorem u7_water {h : AH} (w : WF h) (x y v : Int32) : f_X7_water h (some 0) x y v = if win x 0 29 = 0 ∨ win y 0 3 = 0 ∨ win v 0 999 = 0 then f_X7_finding h (some 0) (-100001) else f_X7_change h (some 0) (some 4) (x * 4 + y) v := by
  rcases win_cases x 0 29 with ⟨e, -⟩ | ⟨e, -⟩
  · simp (disch := first | (simp only [WF_sI]; exact w) | exact (w) | decide | (simp only [shq]; omega)) only [bd_some, bd2_some, bd2_id, i10, i00, not_true_eq_false, not_false_eq_true, if_true, if_false, ↓reduceIte, gR_w, gI_w, pI_w, isO_w, ldI_w, stI_w, ldZ_w, stZ_w, lenA_w, tR, f_X7_water, e7_isDay, e, true_or]
  · rcases win_cases y 0 3 with ⟨e2, -⟩ | ⟨e2, -⟩
    · simp (disch := first | (simp only [WF_sI]; exact w) | exact (w) | decide | (simp only [shq]; omega)) only [bd_some, bd2_some, bd2_id, i10, i00, not_true_eq_false, not_false_eq_true, if_true, if_false, ↓reduceIte, gR_w, gI_w, pI_w, isO_w, ldI_w, stI_w, ldZ_w, stZ_w, lenA_w, tR, f_X7_water, e7_isDay, e7_within, e, e2, true_or, false_or]
    · rcases win_cases v 0 999 with ⟨e3, -⟩ | ⟨e3, -⟩
      · simp (disch := first | (simp only [WF_sI]; exact w) | exact (w) | decide | (simp only [shq]; omega)) only [bd_some, bd2_some, bd2_id, i10, i00, not_true_eq_false, not_false_eq_true, if_true, if_false, ↓reduceIte, gR_w, gI_w, pI_w, isO_w, ldI_w, stI_w, ldZ_w, stZ_w, lenA_w, tR, f_X7_water, e7_isDay, e7_within, e7_isWater, e, e2, e3, true_or, false_or]
      · simp (disch := first | (simp only [WF_sI]; exact w) | exact (w) | decide | (simp only [shq]; omega)) only [bd_some, bd2_some, bd2_id, i10, i00, not_true_eq_false, not_false_eq_true, if_true, if_false, ↓reduceIte, gR_w, gI_w, pI_w, isO_w, ldI_w, stI_w, ldZ_w, stZ_w, lenA_w, tR, f_X7_water, e7_isDay, e7_within, e7_isWater, e, e2, e3, or_self]
theorem u8_water {h : AH} (w : WF h) (x y v : Int32) : f_X8_water h (some 74) x y v = if win x 0 29 = 0 ∨ win y 0 3 = 0 ∨ win v 0 999 = 0 then f_X8_finding h (some 74) (-100001) else f_X8_becomes h (some 74) (74 + 4 * x + y) v := by
  rcases win_cases x 0 29 with ⟨e, -⟩ | ⟨e, -⟩
  · simp (disch := first | (simp only [WF_sI]; exact w) | exact (w) | decide | (simp only [shq]; omega)) only [bd_some, bd2_some, bd2_id, i10, i00, not_true_eq_false, not_false_eq_true, if_true, if_false, ↓reduceIte, gR_w, gI_w, pI_w, isO_w, ldI_w, stI_w, ldZ_w, stZ_w, lenA_w, tR, f_X8_water, e8_isDay, e, true_or]
  · rcases win_cases y 0 3 with ⟨e2, -⟩ | ⟨e2, -⟩
    · simp (disch := first | (simp only [WF_sI]; exact w) | exact (w) | decide | (simp only [shq]; omega)) only [bd_some, bd2_some, bd2_id, i10, i00, not_true_eq_false, not_false_eq_true, if_true, if_false, ↓reduceIte, gR_w, gI_w, pI_w, isO_w, ldI_w, stI_w, ldZ_w, stZ_w, lenA_w, tR, f_X8_water, e8_isDay, e8_isIn, e, e2, true_or, false_or]
    · rcases win_cases v 0 999 with ⟨e3, -⟩ | ⟨e3, -⟩
      · simp (disch := first | (simp only [WF_sI]; exact w) | exact (w) | decide | (simp only [shq]; omega)) only [bd_some, bd2_some, bd2_id, i10, i00, not_true_eq_false, not_false_eq_true, if_true, if_false, ↓reduceIte, gR_w, gI_w, pI_w, isO_w, ldI_w, stI_w, ldZ_w, stZ_w, lenA_w, tR, f_X8_water, e8_isDay, e8_isIn, e8_isWater, e, e2, e3, true_or, false_or]
      · simp (disch := first | (simp only [WF_sI]; exact w) | exact (w) | decide | (simp only [shq]; omega)) only [bd_some, bd2_some, bd2_id, i10, i00, not_true_eq_false, not_false_eq_true, if_true, if_false, ↓reduceIte, gR_w, gI_w, pI_w, isO_w, ldI_w, stI_w, ldZ_w, stZ_w, lenA_w, tR, f_X8_water, e8_isDay, e8_isIn, e8_isWater, e, e2, e3, or_self]
theorem op_water (x y v : Int32) : OpOk (fun h => f_X7_water h (some 0) x y v) (fun h => f_X8_water h (some 74) x y v) := by
  intro h w r
  by_cases e : win x 0 29 = 0 ∨ win y 0 3 = 0 ∨ win v 0 999 = 0
  · exact fin_ok (a := fun h => f_X7_water h (some 0) x y v) (b := fun h => f_X8_water h (some 74) x y v) (x := -100001) w r (by show f_X7_water h (some 0) x y v = _; rw [u7_water w, if_pos e]) (fun f => by show f_X8_water (sI h 0 f) (some 74) x y v = _; rw [u8_water (w0 w f), if_pos e])
  · rcases win_nI (x := x) (a := 0) (b := 29) (by omega) (by omega) with e1 | ⟨e1, d, d1, d2, rfl⟩
    · exact absurd (Or.inl e1) e
    rcases win_nI (x := y) (a := 0) (b := 3) (by omega) (by omega) with e2 | ⟨e2, q, d3, d4, rfl⟩
    · exact absurd (Or.inr (Or.inl e2)) e
    rcases win_nI (x := v) (a := 0) (b := 999) (by omega) (by omega) with e3 | ⟨e3, z, d5, d6, rfl⟩
    · exact absurd (Or.inr (Or.inr e3)) e
    have x1 : nI d * 4 + nI q = nI (4 * d + q) := by rw [show (4 : Int32) = nI 4 from rfl, pk_mul, nI_add, Nat.mul_comm]
    have x2 : 74 + 4 * nI d + nI q = nI (74 + (4 * d + q)) := by rw [show (4 : Int32) = nI 4 from rfl, show (74 : Int32) = nI 74 from rfl, pk_mul, nI_add, nI_add, Nat.add_assoc]
    obtain ⟨C, r1, r2, r3, nx, sz, q1, q2, q3, q4, q5, q6⟩ := r
    obtain ⟨rb, rc, rp, rl, rwt, rt, ra⟩ := id r1
    obtain ⟨v0, w1, w2, w3⟩ := rwt (4 * d + q) (by omega)
    obtain ⟨h1, h2, c1, c2, c3, c4, c5, c6, c7, c8⟩ := chg_ok (hg := h) (r := 4) (i := 4 * d + q) (k := 74 + (4 * d + q)) (v := nI z) (v2 := nI z) (C2 := C) w r1 r2 r3 q1 q2 q3 q4 q5 q6 (Fr.rf h []) (fun _ z => by cases z) (Ag_rows (fun _ _ _ => rfl)) (by decide) (by show _ < 120; omega) (by omega) (w2.trans w3.symm) (leC_rf C)
    have kk : ∀ j, j < 23 → j ≠ 4 → hI h2 j = hI h j := fun j h1 h2 => by rw [c6 j h1, if_neg h2]
    have nn : ∀ j, j ≠ 74 + (4 * d + q) → hI h2 75 j = hI h 75 j := fun j h1 => by rw [c7 j, if_neg h1]
    refine ⟨_, h1, h2, by show f_X7_water h (some 0) (nI d) (nI q) (nI z) = _; rw [u7_water w, if_neg e, x1]; exact c1, by show f_X8_water h1 (some 74) (nI d) (nI q) (nI z) = _; rw [u8_water c2, if_neg e, x2]; exact c4, c8 h2 (Fr.rf h2 _) ⟨?_, ?_, ?_, ?_, ?_, ?_, ?_⟩⟩
    · exact rB_c rb (kk 2 (by omega) (by omega)) (nn 0 (by omega)) (nn 1 (by omega))
    · exact rC_c rc (by rw [kk 3 (by omega) (by omega)]) (kk 5 (by omega) (by omega)) (kk 6 (by omega) (by omega)) (nn 2 (by omega)) (fun j _ _ => nn j (by omega))
    · exact rP_c rp (by rw [kk 3 (by omega) (by omega)]) (kk 7 (by omega) (by omega)) (kk 8 (by omega) (by omega)) (kk 9 (by omega) (by omega)) (nn 3 (by omega)) (fun j _ _ => nn j (by omega))
    · exact rL_c rl (by rw [kk 3 (by omega) (by omega)]) (kk 10 (by omega) (by omega)) (nn 4 (by omega)) (fun j _ _ => nn j (by omega))
    · intro j hj
      by_cases ej : j = 4 * d + q
      · exact ⟨z, d6, by rw [c6 4 (by omega), if_pos rfl, ej]; simp [upd], by rw [c7 _, if_pos (by omega)]⟩
      · obtain ⟨v1, y1, y2, y3⟩ := rwt j hj
        exact ⟨v1, y1, by rw [c6 4 (by omega), if_pos rfl]; simp only [upd]; rw [if_neg ej]; exact y2, by rw [nn _ (by omega)]; exact y3⟩
    · exact rT_c rt (Nat.le_refl _) (by rw [kk 12 (by omega) (by omega)]) (kk 13 (by omega) (by omega)) (nn 5 (by omega)) (fun j _ _ => nn j (by omega))
    · exact rA_c ra (by rw [kk 20 (by omega) (by omega)]) (kk 21 (by omega) (by omega)) (nn 6 (by omega)) (fun j _ _ => nn j (by omega))
theorem u7_weigh {h : AH} (w : WF h) {k : Nat} (hk : hI h 20 0 = nI k) (hk2 : k ≤ 12) (x v : Int32) : f_X7_weigh h (some 0) x v = if ixw x k = 0 ∨ win v 1 99 = 0 then f_X7_finding h (some 0) (-100001) else f_X7_change h (some 0) (some 21) x v := by
  have h100 : k ≤ 100 := by omega
  rcases ixw_cases x (k := k) (by omega) with e | ⟨e, -⟩
  · simp (disch := first | (simp only [WF_sI]; exact w) | exact (w) | decide | (simp only [shq]; omega)) only [bd_some, bd2_some, bd2_id, i10, i00, not_true_eq_false, not_false_eq_true, if_true, if_false, ↓reduceIte, gR_w, gI_w, pI_w, isO_w, ldI_w, stI_w, ldZ_w, stZ_w, lenA_w, tR, f_X7_weigh, e7_isApp w hk h100, e, true_or]
  · rcases win_cases v 1 99 with ⟨e2, -⟩ | ⟨e2, -⟩
    · simp (disch := first | (simp only [WF_sI]; exact w) | exact (w) | decide | (simp only [shq]; omega)) only [bd_some, bd2_some, bd2_id, i10, i00, not_true_eq_false, not_false_eq_true, if_true, if_false, ↓reduceIte, gR_w, gI_w, pI_w, isO_w, ldI_w, stI_w, ldZ_w, stZ_w, lenA_w, tR, f_X7_weigh, e7_isApp w hk h100, e7_within, e, e2, or_true]
    · simp (disch := first | (simp only [WF_sI]; exact w) | exact (w) | decide | (simp only [shq]; omega)) only [bd_some, bd2_some, bd2_id, i10, i00, not_true_eq_false, not_false_eq_true, if_true, if_false, ↓reduceIte, gR_w, gI_w, pI_w, isO_w, ldI_w, stI_w, ldZ_w, stZ_w, lenA_w, tR, f_X7_weigh, e7_isApp w hk h100, e7_within, e, e2, or_self]
theorem u8_weigh {h : AH} (w : WF h) {k : Nat} (hk : hI h 75 6 = nI k) (x v : Int32) (hk2 : k ≤ 12) : f_X8_weigh h (some 74) x v = if ixw x k = 0 ∨ win v 1 99 = 0 then f_X8_finding h (some 74) (-100001) else f_X8_becomes h (some 74) (544 + x) v := by
  rcases ixw_cases x (k := k) (by omega) with e | ⟨e, -⟩
  · simp (disch := first | (simp only [WF_sI]; exact w) | exact (w) | decide | (simp only [shq]; omega)) only [bd_some, bd2_some, bd2_id, i10, i00, not_true_eq_false, not_false_eq_true, if_true, if_false, ↓reduceIte, gR_w, gI_w, pI_w, isO_w, ldI_w, stI_w, ldZ_w, stZ_w, lenA_w, tR, f_X8_weigh, e8_isApp w hk, e, true_or]
  · rcases win_cases v 1 99 with ⟨e2, -⟩ | ⟨e2, -⟩
    · simp (disch := first | (simp only [WF_sI]; exact w) | exact (w) | decide | (simp only [shq]; omega)) only [bd_some, bd2_some, bd2_id, i10, i00, not_true_eq_false, not_false_eq_true, if_true, if_false, ↓reduceIte, gR_w, gI_w, pI_w, isO_w, ldI_w, stI_w, ldZ_w, stZ_w, lenA_w, tR, f_X8_weigh, e8_isApp w hk, e8_isIn, e, e2, or_true]
    · simp (disch := first | (simp only [WF_sI]; exact w) | exact (w) | decide | (simp only [shq]; omega)) only [bd_some, bd2_some, bd2_id, i10, i00, not_true_eq_false, not_false_eq_true, if_true, if_false, ↓reduceIte, gR_w, gI_w, pI_w, isO_w, ldI_w, stI_w, ldZ_w, stZ_w, lenA_w, tR, f_X8_weigh, e8_isApp w hk, e8_isIn, e, e2, or_self]
theorem op_weigh (x v : Int32) : OpOk (fun h => f_X7_weigh h (some 0) x v) (fun h => f_X8_weigh h (some 74) x v) := by
  intro h w r
  obtain ⟨C0, r10, -⟩ := id r
  obtain ⟨-, -, -, -, -, -, a1, a2, a3, -⟩ := r10
  by_cases e : ixw x C0.2.2.2.2 = 0 ∨ win v 1 99 = 0
  · exact fin_ok (a := fun h => f_X7_weigh h (some 0) x v) (b := fun h => f_X8_weigh h (some 74) x v) (x := -100001) w r (by show f_X7_weigh h (some 0) x v = _; rw [u7_weigh w a2 a1, if_pos e]) (fun f => by show f_X8_weigh (sI h 0 f) (some 74) x v = _; rw [u8_weigh (w0 w f) (by rw [sI_ne (by decide)]; exact a3) _ _ a1, if_pos e])
  · rcases ixw_cases x (k := C0.2.2.2.2) (by omega) with e1 | ⟨e1, a, ha, rfl⟩
    · exact absurd (Or.inl e1) e
    rcases win_nI (x := v) (a := 1) (b := 99) (by omega) (by omega) with e2 | ⟨e2, z, d1, d2, rfl⟩
    · exact absurd (Or.inr e2) e
    have x2 : 544 + nI a = nI (544 + a) := nI_add 544 a
    obtain ⟨C, r1, r2, r3, nx, sz, q1, q2, q3, q4, q5, q6⟩ := r
    obtain ⟨rb, rc, rp, rl, rwt, rt, ra⟩ := id r1
    obtain ⟨b1, b2, b3, b4⟩ := id ra
    have ec : C.2.2.2.2 = C0.2.2.2.2 := (nI_eq (by omega) (by omega)).mp (b2.symm.trans a2)
    rw [← ec] at e ha a2 a3
    obtain ⟨v0, y1, y2, y3⟩ := b4 a ha
    obtain ⟨h1, h2, c1, c2, c3, c4, c5, c6, c7, c8⟩ := chg_ok (hg := h) (r := 21) (i := a) (k := 544 + a) (v := nI z) (v2 := nI z) (C2 := C) w r1 r2 r3 q1 q2 q3 q4 q5 q6 (Fr.rf h []) (fun _ z => by cases z) (Ag_rows (fun _ _ _ => rfl)) (by decide) (by show _ < 12; omega) (by omega) (y2.trans y3.symm) (leC_rf C)
    have kk : ∀ j, j < 23 → j ≠ 21 → hI h2 j = hI h j := fun j h1 h2 => by rw [c6 j h1, if_neg h2]
    have nn : ∀ j, j ≠ 544 + a → hI h2 75 j = hI h 75 j := fun j h1 => by rw [c7 j, if_neg h1]
    refine ⟨_, h1, h2, by show f_X7_weigh h (some 0) (nI a) (nI z) = _; rw [u7_weigh w a2 b1, if_neg e]; exact c1, by show f_X8_weigh h1 (some 74) (nI a) (nI z) = _; rw [u8_weigh c2 (by rw [c3 75 (by omega) (by omega)]; exact a3) _ _ b1, if_neg e, x2]; exact c4, c8 h2 (Fr.rf h2 _) ⟨?_, ?_, ?_, ?_, ?_, ?_, b1, ?_, ?_, fun j hj => ?_⟩⟩
    · exact rB_c rb (kk 2 (by omega) (by omega)) (nn 0 (by omega)) (nn 1 (by omega))
    · exact rC_c rc (by rw [kk 3 (by omega) (by omega)]) (kk 5 (by omega) (by omega)) (kk 6 (by omega) (by omega)) (nn 2 (by omega)) (fun j _ _ => nn j (by omega))
    · exact rP_c rp (by rw [kk 3 (by omega) (by omega)]) (kk 7 (by omega) (by omega)) (kk 8 (by omega) (by omega)) (kk 9 (by omega) (by omega)) (nn 3 (by omega)) (fun j _ _ => nn j (by omega))
    · exact rL_c rl (by rw [kk 3 (by omega) (by omega)]) (kk 10 (by omega) (by omega)) (nn 4 (by omega)) (fun j _ _ => nn j (by omega))
    · exact rW_c rwt (kk 4 (by omega) (by omega)) (fun j _ _ => nn j (by omega))
    · exact rT_c rt (Nat.le_refl _) (by rw [kk 12 (by omega) (by omega)]) (kk 13 (by omega) (by omega)) (nn 5 (by omega)) (fun j _ _ => nn j (by omega))
    · rw [kk 20 (by omega) (by omega)]; exact b2
    · rw [nn 6 (by omega)]; exact b3
    · by_cases ej : j = a
      · exact ⟨z, ⟨d1, d2⟩, by rw [c6 21 (by omega), if_pos rfl, ej]; simp [upd], by rw [c7 _, if_pos (by omega)]⟩
      · obtain ⟨v1, g1, g2, g3⟩ := b4 j hj
        exact ⟨v1, g1, by rw [c6 21 (by omega), if_pos rfl]; simp only [upd]; rw [if_neg ej]; exact g2, by rw [nn _ (by omega)]; exact g3⟩
