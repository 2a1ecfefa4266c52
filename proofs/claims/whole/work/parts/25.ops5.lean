/-! rapid -/
theorem u7_rapid {h : AH} (w : WF h) {k : Nat} (hk : hI h 3 1 = nI k) (hk2 : k ≤ 10) (x a b : Int32) : f_X7_rapid h (some 0) x a b = if win x 1 249 = 0 ∨ win a 0 999 = 0 ∨ win b 0 999 = 0 then f_X7_finding h (some 0) (-100001) else if ¬ a ≤ b then f_X7_finding h (some 0) (-100003) else if k = 10 then f_X7_finding h (some 0) (-100005) else f_X7_change (sI (sI (sI h 7 (upd (hI h 7) k x)) 8 (upd (hI h 8) k a)) 9 (upd (hI h 9) k b)) (some 0) (some 3) (nI 1) (nI (k + 1)) := by
  have hl : ldI h (some 3) 1 = some (nI k) := by rw [← hk]; exact ldI_w (i := 1) w (by decide) rfl (by decide) (by decide)
  rcases win_cases x 1 249 with ⟨e, -⟩ | ⟨e, -⟩
  · simp (disch := first | (simp only [WF_sI]; exact w) | exact (w) | decide | (simp only [shq]; omega)) only [bd_some, bd2_some, bd2_id, i10, i00, not_true_eq_false, not_false_eq_true, if_true, if_false, ↓reduceIte, gR_w, gI_w, pI_w, isO_w, ldI_w, stI_w, ldZ_w, stZ_w, lenA_w, tR, f_X7_rapid, e7_within, e, true_or]
  rcases win_cases a 0 999 with ⟨e2, -⟩ | ⟨e2, -⟩
  · simp (disch := first | (simp only [WF_sI]; exact w) | exact (w) | decide | (simp only [shq]; omega)) only [bd_some, bd2_some, bd2_id, i10, i00, not_true_eq_false, not_false_eq_true, if_true, if_false, ↓reduceIte, gR_w, gI_w, pI_w, isO_w, ldI_w, stI_w, ldZ_w, stZ_w, lenA_w, tR, f_X7_rapid, e7_within, e7_isWater, e, e2, true_or, false_or]
  rcases win_cases b 0 999 with ⟨e3, -⟩ | ⟨e3, -⟩
  · simp (disch := first | (simp only [WF_sI]; exact w) | exact (w) | decide | (simp only [shq]; omega)) only [bd_some, bd2_some, bd2_id, i10, i00, not_true_eq_false, not_false_eq_true, if_true, if_false, ↓reduceIte, gR_w, gI_w, pI_w, isO_w, ldI_w, stI_w, ldZ_w, stZ_w, lenA_w, tR, f_X7_rapid, e7_within, e7_isWater, e, e2, e3, true_or, false_or]
  by_cases c0 : a ≤ b
  · by_cases c : k = 10
    · have c1 : ¬ nI 10 < (10 : Int32) := by decide
      simp (disch := first | (simp only [WF_sI]; exact w) | exact (w) | decide | (simp only [shq]; omega)) only [bd_some, bd2_some, bd2_id, i10, i00, not_true_eq_false, not_false_eq_true, if_true, if_false, ↓reduceIte, gR_w, gI_w, pI_w, isO_w, ldI_w, stI_w, ldZ_w, stZ_w, lenA_w, tR, f_X7_rapid, e7_within, e7_isWater, e, e2, e3, or_self, c0, hl, c, c1]
    · have c1 : nI k < (10 : Int32) := (lt_nI (c := 10) (by omega) (by omega)).mpr (by omega)
      have z1 : stI h (some 7) (nI k) x = some (sI h 7 (upd (hI h 7) k x)) := stI_w (q := 7) w (by decide) rfl (by show k < 10; omega) (by decide)
      have z2 : stI (sI h 7 (upd (hI h 7) k x)) (some 8) (nI k) a = some (sI (sI h 7 (upd (hI h 7) k x)) 8 (upd (hI h 8) k a)) := by
        rw [stI_w (q := 8) ((WF_sI _ _ _).mpr w) (by decide) rfl (by show k < 10; omega) (by decide), sI_ne (by decide)]
      have z3 : stI (sI (sI h 7 (upd (hI h 7) k x)) 8 (upd (hI h 8) k a)) (some 9) (nI k) b = some (sI (sI (sI h 7 (upd (hI h 7) k x)) 8 (upd (hI h 8) k a)) 9 (upd (hI h 9) k b)) := by
        rw [stI_w (q := 9) (by rw [WF_sI, WF_sI]; exact w) (by decide) rfl (by show k < 10; omega) (by decide), sI_ne (by decide), sI_ne (by decide)]
      simp (disch := first | (simp only [WF_sI]; exact w) | exact (w) | decide | (simp only [shq]; omega)) only [bd_some, bd2_some, bd2_id, i10, i00, not_true_eq_false, not_false_eq_true, if_true, if_false, ↓reduceIte, gR_w, gI_w, pI_w, isO_w, ldI_w, stI_w, ldZ_w, stZ_w, lenA_w, tR, f_X7_rapid, e7_within, e7_isWater, e, e2, e3, or_self, c0, hl, c1, c, z1, z2, z3, nI_1]
      rfl
  · simp (disch := first | (simp only [WF_sI]; exact w) | exact (w) | decide | (simp only [shq]; omega)) only [bd_some, bd2_some, bd2_id, i10, i00, not_true_eq_false, not_false_eq_true, if_true, if_false, ↓reduceIte, gR_w, gI_w, pI_w, isO_w, ldI_w, stI_w, ldZ_w, stZ_w, lenA_w, tR, f_X7_rapid, e7_within, e7_isWater, e, e2, e3, or_self, c0]
theorem u8_rapid {h : AH} (w : WF h) {k : Nat} (hk : hI h 75 3 = nI k) (hk2 : k ≤ 10) (x a b : Int32) : f_X8_rapid h (some 74) x a b = if win x 1 249 = 0 ∨ win a 0 999 = 0 ∨ win b 0 999 = 0 then f_X8_finding h (some 74) (-100001) else if ¬ a ≤ b then f_X8_finding h (some 74) (-100003) else if k = 10 then f_X8_finding h (some 74) (-100005) else bd2 (f_X8_becomes h (some 74) (nI 3) (nI (k + 1))) fun v g => bd (gR g (some 74) 8 0) fun q => bd (stI g q (36 + 3 * v) x) fun g2 => bd (gR g2 (some 74) 8 0) fun q => bd (stI g2 q (36 + 3 * v + 1) a) fun g3 => bd (gR g3 (some 74) 8 0) fun q => bd (stI g3 q (36 + 3 * v + 2) b) fun g4 => some (v, g4) := by
  have hl : ldI h (some 75) 3 = some (nI k) := by rw [← hk]; exact ldI_w (i := 3) w (by decide) rfl (by decide) (by decide)
  rcases win_cases x 1 249 with ⟨e, -⟩ | ⟨e, -⟩
  · simp (disch := first | (simp only [WF_sI]; exact w) | exact (w) | decide | (simp only [shq]; omega)) only [bd_some, bd2_some, bd2_id, i10, i00, not_true_eq_false, not_false_eq_true, if_true, if_false, ↓reduceIte, gR_w, gI_w, pI_w, isO_w, ldI_w, stI_w, ldZ_w, stZ_w, lenA_w, tR, f_X8_rapid, e8_isIn, e, true_or]
  rcases win_cases a 0 999 with ⟨e2, -⟩ | ⟨e2, -⟩
  · simp (disch := first | (simp only [WF_sI]; exact w) | exact (w) | decide | (simp only [shq]; omega)) only [bd_some, bd2_some, bd2_id, i10, i00, not_true_eq_false, not_false_eq_true, if_true, if_false, ↓reduceIte, gR_w, gI_w, pI_w, isO_w, ldI_w, stI_w, ldZ_w, stZ_w, lenA_w, tR, f_X8_rapid, e8_isIn, e8_isWater, e, e2, true_or, false_or]
  rcases win_cases b 0 999 with ⟨e3, -⟩ | ⟨e3, -⟩
  · simp (disch := first | (simp only [WF_sI]; exact w) | exact (w) | decide | (simp only [shq]; omega)) only [bd_some, bd2_some, bd2_id, i10, i00, not_true_eq_false, not_false_eq_true, if_true, if_false, ↓reduceIte, gR_w, gI_w, pI_w, isO_w, ldI_w, stI_w, ldZ_w, stZ_w, lenA_w, tR, f_X8_rapid, e8_isIn, e8_isWater, e, e2, e3, true_or, false_or]
  by_cases c0 : a ≤ b
  · by_cases c : k = 10
    · simp (disch := first | (simp only [WF_sI]; exact w) | exact (w) | decide | (simp only [shq]; omega)) only [bd_some, bd2_some, bd2_id, i10, i00, not_true_eq_false, not_false_eq_true, if_true, if_false, ↓reduceIte, gR_w, gI_w, pI_w, isO_w, ldI_w, stI_w, ldZ_w, stZ_w, lenA_w, tR, f_X8_rapid, e8_isIn, e8_isWater, e, e2, e3, or_self, c0, hl, c]
      rw [if_neg (fun z => z rfl)]
    · have c1 : ¬ nI k = (10 : Int32) := fun z => c ((nI_eq (b := 10) (by omega) (by omega)).mp z)
      simp (disch := first | (simp only [WF_sI]; exact w) | exact (w) | decide | (simp only [shq]; omega)) only [bd_some, bd2_some, bd2_id, i10, i00, not_true_eq_false, not_false_eq_true, if_true, if_false, ↓reduceIte, gR_w, gI_w, pI_w, isO_w, ldI_w, stI_w, ldZ_w, stZ_w, lenA_w, tR, f_X8_rapid, e8_isIn, e8_isWater, e, e2, e3, or_self, c0, hl, c1, c, nI_1]
      rfl
  · simp (disch := first | (simp only [WF_sI]; exact w) | exact (w) | decide | (simp only [shq]; omega)) only [bd_some, bd2_some, bd2_id, i10, i00, not_true_eq_false, not_false_eq_true, if_true, if_false, ↓reduceIte, gR_w, gI_w, pI_w, isO_w, ldI_w, stI_w, ldZ_w, stZ_w, lenA_w, tR, f_X8_rapid, e8_isIn, e8_isWater, e, e2, e3, or_self, c0]
theorem op_rapid (x a b : Int32) : OpOk (fun h => f_X7_rapid h (some 0) x a b) (fun h => f_X8_rapid h (some 74) x a b) := by
  intro h w r
  obtain ⟨C0, r10, -⟩ := id r
  obtain ⟨-, -, ⟨l1, l2, l3, -⟩, -⟩ := r10
  by_cases e : win x 1 249 = 0 ∨ win a 0 999 = 0 ∨ win b 0 999 = 0
  · exact fin_ok (a := fun h => f_X7_rapid h (some 0) x a b) (b := fun h => f_X8_rapid h (some 74) x a b) (x := -100001) w r (by show f_X7_rapid h (some 0) x a b = _; rw [u7_rapid w l2 l1, if_pos e]) (fun f => by show f_X8_rapid (sI h 0 f) (some 74) x a b = _; rw [u8_rapid (w0 w f) (by rw [sI_ne (by decide)]; exact l3) l1, if_pos e])
  by_cases e0 : ¬ a ≤ b
  · exact fin_ok (a := fun h => f_X7_rapid h (some 0) x a b) (b := fun h => f_X8_rapid h (some 74) x a b) (x := -100003) w r (by show f_X7_rapid h (some 0) x a b = _; rw [u7_rapid w l2 l1, if_neg e, if_pos e0]) (fun f => by show f_X8_rapid (sI h 0 f) (some 74) x a b = _; rw [u8_rapid (w0 w f) (by rw [sI_ne (by decide)]; exact l3) l1, if_neg e, if_pos e0])
  by_cases e2 : C0.2.1 = 10
  · exact fin_ok (a := fun h => f_X7_rapid h (some 0) x a b) (b := fun h => f_X8_rapid h (some 74) x a b) (x := -100005) w r (by show f_X7_rapid h (some 0) x a b = _; rw [u7_rapid w l2 l1, if_neg e, if_neg e0, if_pos e2]) (fun f => by show f_X8_rapid (sI h 0 f) (some 74) x a b = _; rw [u8_rapid (w0 w f) (by rw [sI_ne (by decide)]; exact l3) l1, if_neg e, if_neg e0, if_pos e2])
  · rcases win_nI (x := x) (a := 1) (b := 249) (by omega) (by omega) with e1 | ⟨e1, z, d1, d2, rfl⟩
    · exact absurd (Or.inl e1) e
    rcases win_nI (x := a) (a := 0) (b := 999) (by omega) (by omega) with e1 | ⟨e1, a, d3, d4, rfl⟩
    · exact absurd (Or.inr (Or.inl e1)) e
    rcases win_nI (x := b) (a := 0) (b := 999) (by omega) (by omega) with e1 | ⟨e1, b, d5, d6, rfl⟩
    · exact absurd (Or.inr (Or.inr e1)) e
    have hab : a ≤ b := (nI_leI (by omega) (by omega)).mp (Decidable.not_not.mp e0)
    obtain ⟨C, r1, r2, r3, nx, sz, q1, q2, q3, q4, q5, q6⟩ := r
    obtain ⟨rb, rc, rp, rl, rwt, rt, ra⟩ := id r1
    obtain ⟨b1, b2, b3, b4⟩ := id rp
    have ec : C.2.1 = C0.2.1 := (nI_eq (by omega) (by omega)).mp (b2.symm.trans l2)
    rw [← ec] at e2 l2 l3
    generalize hkk : C.2.1 = k at *
    obtain ⟨hg, hgd⟩ : ∃ hg, hg = sI (sI (sI h 7 (upd (hI h 7) k (nI z))) 8 (upd (hI h 8) k (nI a))) 9 (upd (hI h 9) k (nI b)) := ⟨_, rfl⟩
    have fg : Fr h hg [7, 8, 9] := by rw [hgd]; exact ((Fr.sI h (by decide)).trans (Fr.sI _ (by decide))).trans (Fr.sI _ (by decide))
    have g7 : hI hg 7 = upd (hI h 7) k (nI z) := by rw [hgd, sI_ne (by decide), sI_ne (by decide), sI_eq]
    have g8 : hI hg 8 = upd (hI h 8) k (nI a) := by rw [hgd, sI_ne (by decide), sI_eq]
    have g9 : hI hg 9 = upd (hI h 9) k (nI b) := by rw [hgd, sI_eq]
    have gg : ∀ j, j ≠ 7 → j ≠ 8 → j ≠ 9 → hI hg j = hI h j := fun j h1 h2 h3 => fg.2.2.2.2 j (by simp [h1, h2, h3])
    obtain ⟨h1, h2, c1, c2, c3, c4, c5, c6, c7, c8⟩ := chg_ok (hg := hg) (r := 3) (i := 1) (k := 3) (v := nI (k + 1)) (v2 := nI (k + 1)) (C2 := (C.1, k + 1, C.2.2.1, C.2.2.2.1, C.2.2.2.2)) w r1 r2 r3 q1 q2 q3 q4 q5 q6 fg (by decide) ⟨fun j => by rw [gg 2 (by omega) (by omega) (by omega)], fun j => by rw [gg 3 (by omega) (by omega) (by omega)], fun j => by rw [gg 4 (by omega) (by omega) (by omega)], fun j => by rw [gg 12 (by omega) (by omega) (by omega)], fun j => by rw [gg 20 (by omega) (by omega) (by omega)], fun c hc => ⟨by rw [gg 5 (by omega) (by omega) (by omega)], by rw [gg 6 (by omega) (by omega) (by omega)]⟩, fun c hc => ⟨by rw [g7, upd, if_neg (by omega)], by rw [g8, upd, if_neg (by omega)], by rw [g9, upd, if_neg (by omega)]⟩, fun c _ => by rw [gg 10 (by omega) (by omega) (by omega)], fun t j _ _ => by rw [gg 13 (by omega) (by omega) (by omega)], fun c _ => by rw [gg 21 (by omega) (by omega) (by omega)]⟩ (by decide) (by decide) (by omega) (by rw [gg 3 (by omega) (by omega) (by omega), b2, b3]) ⟨Nat.le_refl _, by show C.2.1 ≤ k + 1; omega, Nat.le_refl _, Nat.le_refl _, Nat.le_refl _⟩
    have x3 : hI hg 3 = hI h 3 := gg 3 (by omega) (by omega) (by omega)
    rw [x3, b2] at c1 c4
    obtain ⟨h3, h3d⟩ : ∃ h3, h3 = sI (sI (sI h2 75 (upd (hI h2 75) (36 + 3 * k) (nI z))) 75 (upd (upd (hI h2 75) (36 + 3 * k) (nI z)) (36 + 3 * k + 1) (nI a))) 75 (upd (upd (upd (hI h2 75) (36 + 3 * k) (nI z)) (36 + 3 * k + 1) (nI a)) (36 + 3 * k + 2) (nI b)) := ⟨_, rfl⟩
    have f3 : Fr h2 h3 [75] := by rw [h3d]; exact ((Fr.sI h2 (by decide)).trans (Fr.sI _ (by decide))).trans (Fr.sI _ (by decide))
    have n3 : hI h3 75 = upd (upd (upd (hI h2 75) (36 + 3 * k) (nI z)) (36 + 3 * k + 1) (nI a)) (36 + 3 * k + 2) (nI b) := by rw [h3d, sI_eq]
    have m3 : ∀ j, j < 23 → hI h3 j = hI h2 j := fun j hj => f3.2.2.2.2 j (by simp; omega)
    have kk : ∀ j, j < 23 → j ≠ 3 → j ≠ 7 → j ≠ 8 → j ≠ 9 → hI h3 j = hI h j := fun j h1 h2 h3 h4 h5 => by rw [m3 j h1, c6 j h1, if_neg h2]; exact gg j h3 h4 h5
    have k3 : ∀ j, j ≠ 1 → hI h3 3 j = hI h 3 j := fun j h1 => by rw [m3 3 (by omega), c6 3 (by omega), if_pos rfl, x3, upd, if_neg h1]
    have nn : ∀ j, j ≠ 3 → (j < 36 + 3 * k ∨ 36 + 3 * k + 2 < j) → hI h3 75 j = hI h 75 j := fun j h1 h2 => by rw [n3, upd, if_neg (by omega), upd, if_neg (by omega), upd, if_neg (by omega), c7 j, if_neg h1]
    refine ⟨_, h1, h3, by show f_X7_rapid h (some 0) (nI z) (nI a) (nI b) = _; rw [u7_rapid w l2 b1, if_neg e, if_neg e0, if_neg e2, ← hgd, c1], ?_, c8 _ f3 ⟨?_, ?_, ⟨by show k + 1 ≤ 10; omega, ?_, ?_, fun j hj => ?_⟩, ?_, ?_, ?_, ?_⟩⟩
    · show f_X8_rapid h1 (some 74) (nI z) (nI a) (nI b) = _
      have w3 : WF (sI h2 75 (upd (hI h2 75) (36 + 3 * k) (nI z))) := (WF_sI _ _ _).mpr c5
      have w4 : WF (sI (sI h2 75 (upd (hI h2 75) (36 + 3 * k) (nI z))) 75 (upd (upd (hI h2 75) (36 + 3 * k) (nI z)) (36 + 3 * k + 1) (nI a))) := (WF_sI _ _ _).mpr w3
      have y1 : 36 + 3 * nI k = nI (36 + 3 * k) := by rw [show (3 : Int32) = nI 3 from rfl, show (36 : Int32) = nI 36 from rfl, pk_mul, nI_add]
      rw [u8_rapid c2 (by rw [c3 75 (by omega) (by omega)]; exact b3) b1, if_neg e, if_neg e0, if_neg e2, c4, bd2_some, gR_w (q := 74) (ci := 8) (j := 0) c5 (by decide) rfl rfl, bd_some, show tR 74 0 = some 75 from rfl, y1, stI_w (q := 75) (i := 36 + 3 * k) c5 (by decide) rfl (by show _ < 556; omega) (by decide), bd_some, gR_w (q := 74) (ci := 8) (j := 0) w3 (by decide) rfl rfl, bd_some, show tR 74 0 = some 75 from rfl, nI_1, stI_w (q := 75) (i := 36 + 3 * k + 1) w3 (by decide) rfl (by show _ < 556; omega) (by decide), bd_some, sI_eq, gR_w (q := 74) (ci := 8) (j := 0) w4 (by decide) rfl rfl, bd_some, show tR 74 0 = some 75 from rfl, show nI (36 + 3 * k) + 2 = nI (36 + 3 * k + 2) from nI_add _ 2, stI_w (q := 75) (i := 36 + 3 * k + 2) w4 (by decide) rfl (by show _ < 556; omega) (by decide), bd_some, sI_eq, h3d]
    · exact rB_c rb (kk 2 (by omega) (by omega) (by omega) (by omega) (by omega)) (nn 0 (by omega) (by omega)) (nn 1 (by omega) (by omega))
    · exact rC_c rc (k3 0 (by omega)) (kk 5 (by omega) (by omega) (by omega) (by omega) (by omega)) (kk 6 (by omega) (by omega) (by omega) (by omega) (by omega)) (nn 2 (by omega) (by omega)) (fun j _ _ => nn j (by omega) (by omega))
    · rw [m3 3 (by omega), c6 3 (by omega), if_pos rfl, upd, if_pos rfl]
    · rw [n3, upd, if_neg (by omega), upd, if_neg (by omega), upd, if_neg (by omega), c7 3, if_pos rfl]
    · have hj' : j < k + 1 := hj
      by_cases ej : j = k
      · refine ⟨z, a, b, ⟨d1, d2⟩, ⟨hab, d6⟩, ?_, ?_, ?_, ?_, ?_, ?_⟩
        · rw [m3 7 (by omega), c6 7 (by omega), if_neg (by decide), g7, upd, if_pos ej]
        · rw [n3, upd, if_neg (by omega), upd, if_neg (by omega), upd, if_pos (by omega)]
        · rw [m3 8 (by omega), c6 8 (by omega), if_neg (by decide), g8, upd, if_pos ej]
        · rw [n3, upd, if_neg (by omega), upd, if_pos (by omega)]
        · rw [m3 9 (by omega), c6 9 (by omega), if_neg (by decide), g9, upd, if_pos ej]
        · rw [n3, upd, if_pos (by omega)]
      · obtain ⟨v1, v2, v3, g1, g2, y1, y2, y3, y4, y5, y6⟩ := b4 j (by omega)
        refine ⟨v1, v2, v3, g1, g2, ?_, ?_, ?_, ?_, ?_, ?_⟩
        · rw [m3 7 (by omega), c6 7 (by omega), if_neg (by decide), g7, upd, if_neg ej]; exact y1
        · rw [nn _ (by omega) (by omega)]; exact y2
        · rw [m3 8 (by omega), c6 8 (by omega), if_neg (by decide), g8, upd, if_neg ej]; exact y3
        · rw [nn _ (by omega) (by omega)]; exact y4
        · rw [m3 9 (by omega), c6 9 (by omega), if_neg (by decide), g9, upd, if_neg ej]; exact y5
        · rw [nn _ (by omega) (by omega)]; exact y6
    · exact rL_c rl (k3 2 (by omega)) (kk 10 (by omega) (by omega) (by omega) (by omega) (by omega)) (nn 4 (by omega) (by omega)) (fun j _ _ => nn j (by omega) (by omega))
    · exact rW_c rwt (kk 4 (by omega) (by omega) (by omega) (by omega) (by omega)) (fun j _ _ => nn j (by omega) (by omega))
    · exact rT_c rt (Nat.le_refl _) (by rw [kk 12 (by omega) (by omega) (by omega) (by omega) (by omega)]) (kk 13 (by omega) (by omega) (by omega) (by omega) (by omega)) (nn 5 (by omega) (by omega)) (fun j _ _ => nn j (by omega) (by omega))
    · exact rA_c ra (by rw [kk 20 (by omega) (by omega) (by omega) (by omega) (by omega)]) (kk 21 (by omega) (by omega) (by omega) (by omega) (by omega)) (nn 6 (by omega) (by omega)) (fun j _ _ => nn j (by omega) (by omega))
