/-! camp, rapid -/
theorem u7_camp {h : AH} (w : WF h) {k b : Nat} (hk : hI h 3 0 = nI k) (hk2 : k ≤ 14) (hb : b ≤ 1) (x : Int32) : f_X7_camp h (some 0) x (nI b) = if win x 1 249 = 0 then f_X7_finding h (some 0) (-100001) else if k = 14 then f_X7_finding h (some 0) (-100005) else f_X7_change (sI (sI h 5 (upd (hI h 5) k x)) 6 (upd (hI h 6) k (nI b))) (some 0) (some 3) (nI 0) (nI (k + 1)) := by
  have hl : ldI h (some 3) 0 = some (nI k) := by rw [← hk]; exact ldI_w (i := 0) w (by decide) rfl (by decide) (by decide)
  have hb2 : nI b = 0 ∨ nI b = 1 := by rcases (show b = 0 ∨ b = 1 by omega) with rfl | rfl <;> decide
  rcases win_cases x 1 249 with ⟨e, -⟩ | ⟨e, -⟩
  · simp (disch := first | (simp only [WF_sI]; exact w) | exact (w) | decide | (simp only [shq]; omega)) only [bd_some, bd2_some, bd2_id, i10, i00, not_true_eq_false, not_false_eq_true, if_true, if_false, ↓reduceIte, gR_w, gI_w, pI_w, isO_w, ldI_w, stI_w, ldZ_w, stZ_w, lenA_w, tR, f_X7_camp, e7_within, e]
  · by_cases c : k = 14
    · have c1 : ¬ nI 14 < (14 : Int32) := by decide
      simp (disch := first | (simp only [WF_sI]; exact w) | exact (w) | decide | (simp only [shq]; omega)) only [bd_some, bd2_some, bd2_id, i10, i00, not_true_eq_false, not_false_eq_true, if_true, if_false, ↓reduceIte, gR_w, gI_w, pI_w, isO_w, ldI_w, stI_w, ldZ_w, stZ_w, lenA_w, tR, f_X7_camp, e7_within, e, hl, c, c1]
    · have c1 : nI k < (14 : Int32) := (lt_nI (c := 14) (by omega) (by omega)).mpr (by omega)
      have hz : stZ (sI h 5 (upd (hI h 5) k x)) (some 6) (nI k) (nI b) = some (sI (sI h 5 (upd (hI h 5) k x)) 6 (upd (hI h 6) k (nI b))) := by
        rw [stZ_w (q := 6) ((WF_sI _ _ _).mpr w) (by decide) rfl (by show k < 14; omega) (by decide) hb2, sI_ne (by decide)]
      simp (disch := first | (simp only [WF_sI]; exact w) | exact (w) | decide | (simp only [shq]; omega)) only [bd_some, bd2_some, bd2_id, i10, i00, not_true_eq_false, not_false_eq_true, if_true, if_false, ↓reduceIte, gR_w, gI_w, pI_w, isO_w, ldI_w, stI_w, ldZ_w, stZ_w, lenA_w, tR, f_X7_camp, e7_within, e, hl, c1, c, hz, nI_1]
      rfl
theorem u8_camp {h : AH} (w : WF h) {k b : Nat} (hk : hI h 75 2 = nI k) (hk2 : k ≤ 14) (hb : b ≤ 1) (x : Int32) : f_X8_camp h (some 74) x (nI b) = if win x 1 249 = 0 then f_X8_finding h (some 74) (-100001) else if k = 14 then f_X8_finding h (some 74) (-100005) else bd2 (f_X8_becomes h (some 74) (nI 2) (nI (k + 1))) fun v g => bd (gR g (some 74) 8 0) fun a => bd (stI g a (8 + 2 * v) x) fun g2 => bd (gR g2 (some 74) 8 0) fun a => bd (stI g2 a (8 + 2 * v + 1) (nI b)) fun g3 => some (v, g3) := by
  have hl : ldI h (some 75) 2 = some (nI k) := by rw [← hk]; exact ldI_w (i := 2) w (by decide) rfl (by decide) (by decide)
  rcases win_cases x 1 249 with ⟨e, -⟩ | ⟨e, -⟩
  · simp (disch := first | (simp only [WF_sI]; exact w) | exact (w) | decide | (simp only [shq]; omega)) only [bd_some, bd2_some, bd2_id, i10, i00, not_true_eq_false, not_false_eq_true, if_true, if_false, ↓reduceIte, gR_w, gI_w, pI_w, isO_w, ldI_w, stI_w, ldZ_w, stZ_w, lenA_w, tR, f_X8_camp, e8_isIn, e]
  · by_cases c : k = 14
    · simp (disch := first | (simp only [WF_sI]; exact w) | exact (w) | decide | (simp only [shq]; omega)) only [bd_some, bd2_some, bd2_id, i10, i00, not_true_eq_false, not_false_eq_true, if_true, if_false, ↓reduceIte, gR_w, gI_w, pI_w, isO_w, ldI_w, stI_w, ldZ_w, stZ_w, lenA_w, tR, f_X8_camp, e8_isIn, e, hl, c]
      rw [if_neg (fun z => z rfl)]
    · have c1 : ¬ nI k = (14 : Int32) := fun z => c ((nI_eq (b := 14) (by omega) (by omega)).mp z)
      rcases (show b = 0 ∨ b = 1 by omega) with rfl | rfl
      · have z0 : nI 0 = 0 := rfl
        simp (disch := first | (simp only [WF_sI]; exact w) | exact (w) | decide | (simp only [shq]; omega)) only [bd_some, bd2_some, bd2_id, i10, i00, not_true_eq_false, not_false_eq_true, if_true, if_false, ↓reduceIte, gR_w, gI_w, pI_w, isO_w, ldI_w, stI_w, ldZ_w, stZ_w, lenA_w, tR, f_X8_camp, e8_isIn, e, hl, c1, c, nI_1, z0]
        rfl
      · have z0 : nI 1 = 1 := rfl
        simp (disch := first | (simp only [WF_sI]; exact w) | exact (w) | decide | (simp only [shq]; omega)) only [bd_some, bd2_some, bd2_id, i10, i00, not_true_eq_false, not_false_eq_true, if_true, if_false, ↓reduceIte, gR_w, gI_w, pI_w, isO_w, ldI_w, stI_w, ldZ_w, stZ_w, lenA_w, tR, f_X8_camp, e8_isIn, e, hl, c1, c, nI_1, z0]
        rfl
theorem op_camp (x : Int32) {b : Nat} (hb : b ≤ 1) : OpOk (fun h => f_X7_camp h (some 0) x (nI b)) (fun h => f_X8_camp h (some 74) x (nI b)) := by
  intro h w r
  obtain ⟨C0, r10, -⟩ := id r
  obtain ⟨-, ⟨l1, l2, l3, -⟩, -⟩ := r10
  by_cases e : win x 1 249 = 0
  · exact fin_ok (a := fun h => f_X7_camp h (some 0) x (nI b)) (b := fun h => f_X8_camp h (some 74) x (nI b)) (x := -100001) w r (by show f_X7_camp h (some 0) x (nI b) = _; rw [u7_camp w l2 l1 hb, if_pos e]) (fun f => by show f_X8_camp (sI h 0 f) (some 74) x (nI b) = _; rw [u8_camp (w0 w f) (by rw [sI_ne (by decide)]; exact l3) l1 hb, if_pos e])
  by_cases e2 : C0.1 = 14
  · exact fin_ok (a := fun h => f_X7_camp h (some 0) x (nI b)) (b := fun h => f_X8_camp h (some 74) x (nI b)) (x := -100005) w r (by show f_X7_camp h (some 0) x (nI b) = _; rw [u7_camp w l2 l1 hb, if_neg e, if_pos e2]) (fun f => by show f_X8_camp (sI h 0 f) (some 74) x (nI b) = _; rw [u8_camp (w0 w f) (by rw [sI_ne (by decide)]; exact l3) l1 hb, if_neg e, if_pos e2])
  · rcases win_nI (x := x) (a := 1) (b := 249) (by omega) (by omega) with e1 | ⟨e1, z, d1, d2, rfl⟩
    · exact absurd e1 e
    obtain ⟨C, r1, r2, r3, nx, sz, q1, q2, q3, q4, q5, q6⟩ := r
    obtain ⟨rb, rc, rp, rl, rwt, rt, ra⟩ := id r1
    obtain ⟨b1, b2, b3, b4⟩ := id rc
    have ec : C.1 = C0.1 := (nI_eq (by omega) (by omega)).mp (b2.symm.trans l2)
    rw [← ec] at e2 l2 l3
    generalize hkk : C.1 = k at *
    obtain ⟨hg, hgd⟩ : ∃ hg, hg = sI (sI h 5 (upd (hI h 5) k (nI z))) 6 (upd (hI h 6) k (nI b)) := ⟨_, rfl⟩
    have fg : Fr h hg [5, 6] := by rw [hgd]; exact (Fr.sI h (by decide)).trans (Fr.sI _ (by decide))
    have g5 : hI hg 5 = upd (hI h 5) k (nI z) := by rw [hgd, sI_ne (by decide), sI_eq]
    have g6 : hI hg 6 = upd (hI h 6) k (nI b) := by rw [hgd, sI_eq]
    have gg : ∀ j, j ≠ 5 → j ≠ 6 → hI hg j = hI h j := fun j h1 h2 => fg.2.2.2.2 j (by simp [h1, h2])
    obtain ⟨h1, h2, c1, c2, c3, c4, c5, c6, c7, c8⟩ := chg_ok (hg := hg) (r := 3) (i := 0) (k := 2) (v := nI (k + 1)) (v2 := nI (k + 1)) (C2 := (k + 1, C.2.1, C.2.2.1, C.2.2.2.1, C.2.2.2.2)) w r1 r2 r3 q1 q2 q3 q4 q5 q6 fg (by decide) ⟨fun j => by rw [gg 2 (by omega) (by omega)], fun j => by rw [gg 3 (by omega) (by omega)], fun j => by rw [gg 4 (by omega) (by omega)], fun j => by rw [gg 12 (by omega) (by omega)], fun j => by rw [gg 20 (by omega) (by omega)], fun c hc => ⟨by rw [g5, upd, if_neg (by omega)], by rw [g6, upd, if_neg (by omega)]⟩, fun c _ => ⟨by rw [gg 7 (by omega) (by omega)], by rw [gg 8 (by omega) (by omega)], by rw [gg 9 (by omega) (by omega)]⟩, fun c _ => by rw [gg 10 (by omega) (by omega)], fun t j _ _ => by rw [gg 13 (by omega) (by omega)], fun c _ => by rw [gg 21 (by omega) (by omega)]⟩ (by decide) (by decide) (by omega) (by rw [gg 3 (by omega) (by omega), b2, b3]) ⟨by show C.1 ≤ k + 1; omega, Nat.le_refl _, Nat.le_refl _, Nat.le_refl _, Nat.le_refl _⟩
    have x3 : hI hg 3 = hI h 3 := gg 3 (by omega) (by omega)
    rw [x3, b2] at c1 c4
    obtain ⟨h3, h3d⟩ : ∃ h3, h3 = sI (sI h2 75 (upd (hI h2 75) (8 + 2 * k) (nI z))) 75 (upd (upd (hI h2 75) (8 + 2 * k) (nI z)) (8 + 2 * k + 1) (nI b)) := ⟨_, rfl⟩
    have f3 : Fr h2 h3 [75] := by rw [h3d]; exact (Fr.sI h2 (by decide)).trans (Fr.sI _ (by decide))
    have n3 : hI h3 75 = upd (upd (hI h2 75) (8 + 2 * k) (nI z)) (8 + 2 * k + 1) (nI b) := by rw [h3d, sI_eq]
    have m3 : ∀ j, j < 23 → hI h3 j = hI h2 j := fun j hj => f3.2.2.2.2 j (by simp; omega)
    have kk : ∀ j, j < 23 → j ≠ 3 → j ≠ 5 → j ≠ 6 → hI h3 j = hI h j := fun j h1 h2 h3 h4 => by rw [m3 j h1, c6 j h1, if_neg h2]; exact gg j h3 h4
    have k3 : ∀ j, j ≠ 0 → hI h3 3 j = hI h 3 j := fun j h1 => by rw [m3 3 (by omega), c6 3 (by omega), if_pos rfl, x3, upd, if_neg h1]
    have nn : ∀ j, j ≠ 2 → j ≠ 8 + 2 * k → j ≠ 8 + 2 * k + 1 → hI h3 75 j = hI h 75 j := fun j h1 h2 h4 => by rw [n3, upd, if_neg h4, upd, if_neg h2, c7 j, if_neg h1]
    refine ⟨_, h1, h3, by show f_X7_camp h (some 0) (nI z) (nI b) = _; rw [u7_camp w l2 b1 hb, if_neg e, if_neg e2, ← hgd, c1], ?_, c8 _ f3 ⟨?_, ⟨by show k + 1 ≤ 14; omega, ?_, ?_, fun j hj => ?_⟩, ?_, ?_, ?_, ?_, ?_⟩⟩
    · show f_X8_camp h1 (some 74) (nI z) (nI b) = _
      have w3 : WF (sI h2 75 (upd (hI h2 75) (8 + 2 * k) (nI z))) := (WF_sI _ _ _).mpr c5
      have y1 : 8 + 2 * nI k = nI (8 + 2 * k) := by rw [show (2 : Int32) = nI 2 from rfl, show (8 : Int32) = nI 8 from rfl, pk_mul, nI_add]
      rw [u8_camp c2 (by rw [c3 75 (by omega) (by omega)]; exact b3) b1 hb, if_neg e, if_neg e2, c4, bd2_some, gR_w (q := 74) (ci := 8) (j := 0) c5 (by decide) rfl rfl, bd_some, show tR 74 0 = some 75 from rfl, y1, stI_w (q := 75) (i := 8 + 2 * k) c5 (by decide) rfl (by show _ < 556; omega) (by decide), bd_some, gR_w (q := 74) (ci := 8) (j := 0) w3 (by decide) rfl rfl, bd_some, show tR 74 0 = some 75 from rfl, nI_1, stI_w (q := 75) (i := 8 + 2 * k + 1) w3 (by decide) rfl (by show _ < 556; omega) (by decide), bd_some, sI_eq, h3d]
    · exact rB_c rb (kk 2 (by omega) (by omega) (by omega) (by omega)) (nn 0 (by omega) (by omega) (by omega)) (nn 1 (by omega) (by omega) (by omega))
    · rw [m3 3 (by omega), c6 3 (by omega), if_pos rfl, upd, if_pos rfl]
    · rw [n3, upd, if_neg (by omega), upd, if_neg (by omega), c7 2, if_pos rfl]
    · have hj' : j < k + 1 := hj
      by_cases ej : j = k
      · refine ⟨z, b, ⟨d1, d2⟩, hb, ?_, ?_, ?_, ?_⟩
        · rw [m3 5 (by omega), c6 5 (by omega), if_neg (by decide), g5, upd, if_pos ej]
        · rw [n3, upd, if_neg (by omega), upd, if_pos (by omega)]
        · rw [m3 6 (by omega), c6 6 (by omega), if_neg (by decide), g6, upd, if_pos ej]
        · rw [n3, upd, if_pos (by omega)]
      · obtain ⟨v1, v2, g1, g2, y1, y2, y3, y4⟩ := b4 j (by omega)
        refine ⟨v1, v2, g1, g2, ?_, ?_, ?_, ?_⟩
        · rw [m3 5 (by omega), c6 5 (by omega), if_neg (by decide), g5, upd, if_neg ej]; exact y1
        · rw [nn _ (by omega) (by omega) (by omega)]; exact y2
        · rw [m3 6 (by omega), c6 6 (by omega), if_neg (by decide), g6, upd, if_neg ej]; exact y3
        · rw [nn _ (by omega) (by omega) (by omega)]; exact y4
    · exact rP_c rp (k3 1 (by omega)) (kk 7 (by omega) (by omega) (by omega) (by omega)) (kk 8 (by omega) (by omega) (by omega) (by omega)) (kk 9 (by omega) (by omega) (by omega) (by omega)) (nn 3 (by omega) (by omega) (by omega)) (fun j _ _ => nn j (by omega) (by omega) (by omega))
    · exact rL_c rl (k3 2 (by omega)) (kk 10 (by omega) (by omega) (by omega) (by omega)) (nn 4 (by omega) (by omega) (by omega)) (fun j _ _ => nn j (by omega) (by omega) (by omega))
    · exact rW_c rwt (kk 4 (by omega) (by omega) (by omega) (by omega)) (fun j _ _ => nn j (by omega) (by omega) (by omega))
    · exact rT_c rt (by show k ≤ k + 1; omega) (by rw [kk 12 (by omega) (by omega) (by omega) (by omega)]) (kk 13 (by omega) (by omega) (by omega) (by omega)) (nn 5 (by omega) (by omega) (by omega)) (fun j _ _ => nn j (by omega) (by omega) (by omega))
    · exact rA_c ra (by rw [kk 20 (by omega) (by omega) (by omega) (by omega)]) (kk 21 (by omega) (by omega) (by omega) (by omega)) (nn 6 (by omega) (by omega) (by omega)) (fun j _ _ => nn j (by omega) (by omega) (by omega))
