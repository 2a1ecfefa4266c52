/-! landing, camp, rapid, applicant: one more of a kind -/
theorem lt_nI {k c : Nat} (hk : k < 2 ^ 30) (hc : c < 2 ^ 30) : (nI k < nI c) ↔ k < c := nI_ltI (by omega) (by omega)
theorem u7_landing {h : AH} (w : WF h) {k : Nat} (hk : hI h 3 2 = nI k) (hk2 : k ≤ 8) (x : Int32) : f_X7_landing h (some 0) x = if win x 0 250 = 0 then f_X7_finding h (some 0) (-100001) else if k = 8 then f_X7_finding h (some 0) (-100005) else bd2 (f_X7_change (sI h 10 (upd (hI h 10) k x)) (some 0) (some 3) (nI 2) (nI (k + 1))) fun v g => some (v + 1, g) := by
  have hl : ldI h (some 3) 2 = some (nI k) := by rw [← hk]; exact ldI_w (i := 2) w (by decide) rfl (by decide) (by decide)
  rcases win_cases x 0 250 with ⟨e, -⟩ | ⟨e, -⟩
  · simp (disch := first | (simp only [WF_sI]; exact w) | exact (w) | decide | (simp only [shq]; omega)) only [bd_some, bd2_some, bd2_id, i10, i00, not_true_eq_false, not_false_eq_true, if_true, if_false, ↓reduceIte, gR_w, gI_w, pI_w, isO_w, ldI_w, stI_w, ldZ_w, stZ_w, lenA_w, tR, f_X7_landing, e7_isMile, e]
  · by_cases c : k = 8
    · have c1 : ¬ nI k < (8 : Int32) := fun z => by have := (lt_nI (c := 8) (by omega) (by omega)).mp z; omega
      simp (disch := first | (simp only [WF_sI]; exact w) | exact (w) | decide | (simp only [shq]; omega)) only [bd_some, bd2_some, bd2_id, i10, i00, not_true_eq_false, not_false_eq_true, if_true, if_false, ↓reduceIte, gR_w, gI_w, pI_w, isO_w, ldI_w, stI_w, ldZ_w, stZ_w, lenA_w, tR, f_X7_landing, e7_isMile, e, hl, c1, c]
      rw [if_neg (by rw [← c]; exact c1)]
    · have c1 : nI k < (8 : Int32) := (lt_nI (c := 8) (by omega) (by omega)).mpr (by omega)
      simp (disch := first | (simp only [WF_sI]; exact w) | exact (w) | decide | (simp only [shq]; omega)) only [bd_some, bd2_some, bd2_id, i10, i00, not_true_eq_false, not_false_eq_true, if_true, if_false, ↓reduceIte, gR_w, gI_w, pI_w, isO_w, ldI_w, stI_w, ldZ_w, stZ_w, lenA_w, tR, f_X7_landing, e7_isMile, e, hl, c1, c, nI_1]
      rfl
theorem u8_landing {h : AH} (w : WF h) {k : Nat} (hk : hI h 75 4 = nI k) (hk2 : k ≤ 8) (x : Int32) : f_X8_landing h (some 74) x = if win x 0 250 = 0 then f_X8_finding h (some 74) (-100001) else if k = 8 then f_X8_finding h (some 74) (-100005) else bd2 (f_X8_becomes h (some 74) (nI 4) (nI (k + 1))) fun v g => bd (gR g (some 74) 8 0) fun a => bd (stI g a (66 + v) x) fun g2 => some (v + 1, g2) := by
  have hl : ldI h (some 75) 4 = some (nI k) := by rw [← hk]; exact ldI_w (i := 4) w (by decide) rfl (by decide) (by decide)
  rcases win_cases x 0 250 with ⟨e, -⟩ | ⟨e, -⟩
  · simp (disch := first | (simp only [WF_sI]; exact w) | exact (w) | decide | (simp only [shq]; omega)) only [bd_some, bd2_some, bd2_id, i10, i00, not_true_eq_false, not_false_eq_true, if_true, if_false, ↓reduceIte, gR_w, gI_w, pI_w, isO_w, ldI_w, stI_w, ldZ_w, stZ_w, lenA_w, tR, f_X8_landing, e8_isIn, e]
  · by_cases c : k = 8
    · have c1 : nI k = (8 : Int32) := by rw [c]; rfl
      simp (disch := first | (simp only [WF_sI]; exact w) | exact (w) | decide | (simp only [shq]; omega)) only [bd_some, bd2_some, bd2_id, i10, i00, not_true_eq_false, not_false_eq_true, if_true, if_false, ↓reduceIte, gR_w, gI_w, pI_w, isO_w, ldI_w, stI_w, ldZ_w, stZ_w, lenA_w, tR, f_X8_landing, e8_isIn, e, hl, c1, c]
      rw [if_neg (fun z => z rfl)]
    · have c1 : ¬ nI k = (8 : Int32) := fun z => c ((nI_eq (b := 8) (by omega) (by omega)).mp z)
      simp (disch := first | (simp only [WF_sI]; exact w) | exact (w) | decide | (simp only [shq]; omega)) only [bd_some, bd2_some, bd2_id, i10, i00, not_true_eq_false, not_false_eq_true, if_true, if_false, ↓reduceIte, gR_w, gI_w, pI_w, isO_w, ldI_w, stI_w, ldZ_w, stZ_w, lenA_w, tR, f_X8_landing, e8_isIn, e, hl, c1, c, nI_1]
      rfl
theorem op_landing (x : Int32) : OpOk (fun h => f_X7_landing h (some 0) x) (fun h => f_X8_landing h (some 74) x) := by
  intro h w r
  obtain ⟨C0, r10, -⟩ := id r
  obtain ⟨-, -, -, ⟨l1, l2, l3, -⟩, -⟩ := r10
  by_cases e : win x 0 250 = 0
  · exact fin_ok (a := fun h => f_X7_landing h (some 0) x) (b := fun h => f_X8_landing h (some 74) x) (x := -100001) w r (by show f_X7_landing h (some 0) x = _; rw [u7_landing w l2 l1, if_pos e]) (fun f => by show f_X8_landing (sI h 0 f) (some 74) x = _; rw [u8_landing (w0 w f) (by rw [sI_ne (by decide)]; exact l3) l1, if_pos e])
  by_cases e2 : C0.2.2.1 = 8
  · exact fin_ok (a := fun h => f_X7_landing h (some 0) x) (b := fun h => f_X8_landing h (some 74) x) (x := -100005) w r (by show f_X7_landing h (some 0) x = _; rw [u7_landing w l2 l1, if_neg e, if_pos e2]) (fun f => by show f_X8_landing (sI h 0 f) (some 74) x = _; rw [u8_landing (w0 w f) (by rw [sI_ne (by decide)]; exact l3) l1, if_neg e, if_pos e2])
  · rcases win_nI (x := x) (a := 0) (b := 250) (by omega) (by omega) with e1 | ⟨e1, z, d1, d2, rfl⟩
    · exact absurd e1 e
    obtain ⟨C, r1, r2, r3, nx, sz, q1, q2, q3, q4, q5, q6⟩ := r
    obtain ⟨rb, rc, rp, rl, rwt, rt, ra⟩ := id r1
    obtain ⟨b1, b2, b3, b4⟩ := id rl
    have ec : C.2.2.1 = C0.2.2.1 := (nI_eq (by omega) (by omega)).mp (b2.symm.trans l2)
    rw [← ec] at e2 l2 l3
    generalize hkk : C.2.2.1 = k at *
    obtain ⟨h1, h2, c1, c2, c3, c4, c5, c6, c7, c8⟩ := chg_ok (hg := sI h 10 (upd (hI h 10) k (nI z))) (r := 3) (i := 2) (k := 4) (v := nI (k + 1)) (v2 := nI (k + 1)) (C2 := (C.1, C.2.1, k + 1, C.2.2.2.1, C.2.2.2.2)) w r1 r2 r3 q1 q2 q3 q4 q5 q6 (Fr.sI h (S := [10]) (by decide)) (by decide) ⟨fun j => by rw [sI_ne (by decide)], fun j => by rw [sI_ne (by decide)], fun j => by rw [sI_ne (by decide)], fun j => by rw [sI_ne (by decide)], fun j => by rw [sI_ne (by decide)], fun c _ => ⟨by rw [sI_ne (by decide)], by rw [sI_ne (by decide)]⟩, fun c _ => ⟨by rw [sI_ne (by decide)], by rw [sI_ne (by decide)], by rw [sI_ne (by decide)]⟩, fun c hc => by rw [sI_eq, upd, if_neg (by omega)], fun t j _ _ => by rw [sI_ne (by decide)], fun c _ => by rw [sI_ne (by decide)]⟩ (by decide) (by decide) (by omega) (by rw [sI_ne (by decide), b2, b3]) ⟨Nat.le_refl _, Nat.le_refl _, by show C.2.2.1 ≤ k + 1; omega, Nat.le_refl _, Nat.le_refl _⟩
    rw [sI_ne (by decide)] at c1 c4
    have x3 : hI (sI h 10 (upd (hI h 10) k (nI z))) 3 = hI h 3 := sI_ne (by decide)
    have kk : ∀ j, j < 23 → j ≠ 3 → j ≠ 10 → hI (sI h2 75 (upd (hI h2 75) (66 + k) (nI z))) j = hI h j := fun j h1 h2 h3 => by rw [sI_ne (by omega), c6 j h1, if_neg h2, sI_ne h3]
    have k3 : ∀ j, j ≠ 2 → hI (sI h2 75 (upd (hI h2 75) (66 + k) (nI z))) 3 j = hI h 3 j := fun j h1 => by rw [sI_ne (by decide), c6 3 (by omega), if_pos rfl, x3, upd, if_neg h1]
    have nn : ∀ j, j ≠ 4 → j ≠ 66 + k → hI (sI h2 75 (upd (hI h2 75) (66 + k) (nI z))) 75 j = hI h 75 j := fun j h1 h2 => by rw [sI_eq, upd, if_neg h2, c7 j, if_neg h1]
    have w2 := c5
    refine ⟨_, h1, sI h2 75 (upd (hI h2 75) (66 + k) (nI z)), by show f_X7_landing h (some 0) (nI z) = _; rw [u7_landing w l2 b1, if_neg e, if_neg e2, c1, bd2_some], ?_, c8 _ (Fr.sI h2 (by decide)) ⟨?_, ?_, ?_, ⟨by show k + 1 ≤ 8; omega, ?_, ?_, fun j hj => ?_⟩, ?_, ?_, ?_⟩⟩
    · show f_X8_landing h1 (some 74) (nI z) = _
      rw [u8_landing c2 (by rw [c3 75 (by omega) (by omega)]; exact b3) b1, if_neg e, if_neg e2, c4, bd2_some, gR_w (q := 74) (ci := 8) (j := 0) w2 (by decide) rfl rfl, bd_some, show tR 74 0 = some 75 from rfl, b2, show 66 + nI k = nI (66 + k) from nI_add 66 k, stI_w (q := 75) (i := 66 + k) w2 (by decide) rfl (by show _ < 556; omega) (by decide), bd_some]
    · exact rB_c rb (kk 2 (by omega) (by omega) (by omega)) (nn 0 (by omega) (by omega)) (nn 1 (by omega) (by omega))
    · exact rC_c rc (k3 0 (by omega)) (kk 5 (by omega) (by omega) (by omega)) (kk 6 (by omega) (by omega) (by omega)) (nn 2 (by omega) (by omega)) (fun j _ _ => nn j (by omega) (by omega))
    · exact rP_c rp (k3 1 (by omega)) (kk 7 (by omega) (by omega) (by omega)) (kk 8 (by omega) (by omega) (by omega)) (kk 9 (by omega) (by omega) (by omega)) (nn 3 (by omega) (by omega)) (fun j _ _ => nn j (by omega) (by omega))
    · rw [sI_ne (by decide), c6 3 (by omega), if_pos rfl, upd, if_pos rfl]
    · rw [sI_eq, upd, if_neg (by omega), c7 4, if_pos rfl]
    · have hj' : j < k + 1 := hj
      by_cases ej : j = k
      · refine ⟨z, d2, ?_, ?_⟩
        · rw [sI_ne (by decide), c6 10 (by omega), if_neg (by decide), sI_eq, upd, if_pos ej]
        · rw [sI_eq, upd, if_pos (by omega)]
      · obtain ⟨v1, g1, g2, g3⟩ := b4 j (by omega)
        refine ⟨v1, g1, ?_, ?_⟩
        · rw [sI_ne (by decide), c6 10 (by omega), if_neg (by decide), sI_eq, upd, if_neg ej]; exact g2
        · rw [nn _ (by omega) (by omega)]; exact g3
    · exact rW_c rwt (kk 4 (by omega) (by omega) (by omega)) (fun j _ _ => nn j (by omega) (by omega))
    · exact rT_c rt (Nat.le_refl _) (by rw [kk 12 (by omega) (by omega) (by omega)]) (kk 13 (by omega) (by omega) (by omega)) (nn 5 (by omega) (by omega)) (fun j _ _ => nn j (by omega) (by omega))
    · exact rA_c ra (by rw [kk 20 (by omega) (by omega) (by omega)]) (kk 21 (by omega) (by omega) (by omega)) (nn 6 (by omega) (by omega)) (fun j _ _ => nn j (by omega) (by omega))
theorem u7_app {h : AH} (w : WF h) {k : Nat} (hk : hI h 20 0 = nI k) (hk2 : k ≤ 12) (x : Int32) : f_X7_applicant h (some 0) x = if win x 1 99 = 0 then f_X7_finding h (some 0) (-100001) else if k = 12 then f_X7_finding h (some 0) (-100005) else f_X7_change (sI h 21 (upd (hI h 21) k x)) (some 0) (some 20) (nI 0) (nI (k + 1)) := by
  rcases win_cases x 1 99 with ⟨e, -⟩ | ⟨e, -⟩
  · simp (disch := first | (simp only [WF_sI]; exact w) | exact (w) | decide | (simp only [shq]; omega)) only [bd_some, bd2_some, bd2_id, i10, i00, not_true_eq_false, not_false_eq_true, if_true, if_false, ↓reduceIte, gR_w, gI_w, pI_w, isO_w, ldI_w, stI_w, ldZ_w, stZ_w, lenA_w, tR, f_X7_applicant, e7_within, e]
  · by_cases c : k = 12
    · have c1 : ¬ nI 12 < (12 : Int32) := by decide
      simp (disch := first | (simp only [WF_sI]; exact w) | exact (w) | decide | (simp only [shq]; omega)) only [bd_some, bd2_some, bd2_id, i10, i00, not_true_eq_false, not_false_eq_true, if_true, if_false, ↓reduceIte, gR_w, gI_w, pI_w, isO_w, ldI_w, stI_w, ldZ_w, stZ_w, lenA_w, tR, f_X7_applicant, e7_within, e, e7_sizeA w, hk, c, c1]
    · have c1 : nI k < (12 : Int32) := (lt_nI (c := 12) (by omega) (by omega)).mpr (by omega)
      simp (disch := first | (simp only [WF_sI]; exact w) | exact (w) | decide | (simp only [shq]; omega)) only [bd_some, bd2_some, bd2_id, i10, i00, not_true_eq_false, not_false_eq_true, if_true, if_false, ↓reduceIte, gR_w, gI_w, pI_w, isO_w, ldI_w, stI_w, ldZ_w, stZ_w, lenA_w, tR, f_X7_applicant, e7_within, e, e7_sizeA w, hk, c1, c, nI_1]
      rfl
theorem u8_app {h : AH} (w : WF h) {k : Nat} (hk : hI h 75 6 = nI k) (hk2 : k ≤ 12) (x : Int32) : f_X8_applicant h (some 74) x = if win x 1 99 = 0 then f_X8_finding h (some 74) (-100001) else if k = 12 then f_X8_finding h (some 74) (-100005) else bd2 (f_X8_becomes h (some 74) (nI 6) (nI (k + 1))) fun v g => bd (gR g (some 74) 8 0) fun a => bd (stI g a (544 + v) x) fun g2 => some (v, g2) := by
  have hl : ldI h (some 75) 6 = some (nI k) := by rw [← hk]; exact ldI_w (i := 6) w (by decide) rfl (by decide) (by decide)
  rcases win_cases x 1 99 with ⟨e, -⟩ | ⟨e, -⟩
  · simp (disch := first | (simp only [WF_sI]; exact w) | exact (w) | decide | (simp only [shq]; omega)) only [bd_some, bd2_some, bd2_id, i10, i00, not_true_eq_false, not_false_eq_true, if_true, if_false, ↓reduceIte, gR_w, gI_w, pI_w, isO_w, ldI_w, stI_w, ldZ_w, stZ_w, lenA_w, tR, f_X8_applicant, e8_isIn, e]
  · by_cases c : k = 12
    · simp (disch := first | (simp only [WF_sI]; exact w) | exact (w) | decide | (simp only [shq]; omega)) only [bd_some, bd2_some, bd2_id, i10, i00, not_true_eq_false, not_false_eq_true, if_true, if_false, ↓reduceIte, gR_w, gI_w, pI_w, isO_w, ldI_w, stI_w, ldZ_w, stZ_w, lenA_w, tR, f_X8_applicant, e8_isIn, e, hl, c]
      rw [if_neg (fun z => z rfl)]
    · have c1 : ¬ nI k = (12 : Int32) := fun z => c ((nI_eq (b := 12) (by omega) (by omega)).mp z)
      simp (disch := first | (simp only [WF_sI]; exact w) | exact (w) | decide | (simp only [shq]; omega)) only [bd_some, bd2_some, bd2_id, i10, i00, not_true_eq_false, not_false_eq_true, if_true, if_false, ↓reduceIte, gR_w, gI_w, pI_w, isO_w, ldI_w, stI_w, ldZ_w, stZ_w, lenA_w, tR, f_X8_applicant, e8_isIn, e, hl, c1, c, nI_1]
      rfl
theorem op_applicant (x : Int32) : OpOk (fun h => f_X7_applicant h (some 0) x) (fun h => f_X8_applicant h (some 74) x) := by
  intro h w r
  obtain ⟨C0, r10, -⟩ := id r
  obtain ⟨-, -, -, -, -, -, l1, l2, l3, -⟩ := r10
  by_cases e : win x 1 99 = 0
  · exact fin_ok (a := fun h => f_X7_applicant h (some 0) x) (b := fun h => f_X8_applicant h (some 74) x) (x := -100001) w r (by show f_X7_applicant h (some 0) x = _; rw [u7_app w l2 l1, if_pos e]) (fun f => by show f_X8_applicant (sI h 0 f) (some 74) x = _; rw [u8_app (w0 w f) (by rw [sI_ne (by decide)]; exact l3) l1, if_pos e])
  by_cases e2 : C0.2.2.2.2 = 12
  · exact fin_ok (a := fun h => f_X7_applicant h (some 0) x) (b := fun h => f_X8_applicant h (some 74) x) (x := -100005) w r (by show f_X7_applicant h (some 0) x = _; rw [u7_app w l2 l1, if_neg e, if_pos e2]) (fun f => by show f_X8_applicant (sI h 0 f) (some 74) x = _; rw [u8_app (w0 w f) (by rw [sI_ne (by decide)]; exact l3) l1, if_neg e, if_pos e2])
  · rcases win_nI (x := x) (a := 1) (b := 99) (by omega) (by omega) with e1 | ⟨e1, z, d1, d2, rfl⟩
    · exact absurd e1 e
    obtain ⟨C, r1, r2, r3, nx, sz, q1, q2, q3, q4, q5, q6⟩ := r
    obtain ⟨rb, rc, rp, rl, rwt, rt, ra⟩ := id r1
    obtain ⟨b1, b2, b3, b4⟩ := id ra
    have ec : C.2.2.2.2 = C0.2.2.2.2 := (nI_eq (by omega) (by omega)).mp (b2.symm.trans l2)
    rw [← ec] at e2 l2 l3
    generalize hkk : C.2.2.2.2 = k at *
    obtain ⟨h1, h2, c1, c2, c3, c4, c5, c6, c7, c8⟩ := chg_ok (hg := sI h 21 (upd (hI h 21) k (nI z))) (r := 20) (i := 0) (k := 6) (v := nI (k + 1)) (v2 := nI (k + 1)) (C2 := (C.1, C.2.1, C.2.2.1, C.2.2.2.1, k + 1)) w r1 r2 r3 q1 q2 q3 q4 q5 q6 (Fr.sI h (S := [21]) (by decide)) (by decide) ⟨fun j => by rw [sI_ne (by decide)], fun j => by rw [sI_ne (by decide)], fun j => by rw [sI_ne (by decide)], fun j => by rw [sI_ne (by decide)], fun j => by rw [sI_ne (by decide)], fun c _ => ⟨by rw [sI_ne (by decide)], by rw [sI_ne (by decide)]⟩, fun c _ => ⟨by rw [sI_ne (by decide)], by rw [sI_ne (by decide)], by rw [sI_ne (by decide)]⟩, fun c _ => by rw [sI_ne (by decide)], fun t j _ _ => by rw [sI_ne (by decide)], fun c hc => by rw [sI_eq, upd, if_neg (by omega)]⟩ (by decide) (by decide) (by omega) (by rw [sI_ne (by decide), b2, b3]) ⟨Nat.le_refl _, Nat.le_refl _, Nat.le_refl _, Nat.le_refl _, by show C.2.2.2.2 ≤ k + 1; omega⟩
    rw [sI_ne (by decide)] at c1 c4
    have kk : ∀ j, j < 23 → j ≠ 20 → j ≠ 21 → hI (sI h2 75 (upd (hI h2 75) (544 + k) (nI z))) j = hI h j := fun j h1 h2 h3 => by rw [sI_ne (by omega), c6 j h1, if_neg h2, sI_ne h3]
    have nn : ∀ j, j ≠ 6 → j ≠ 544 + k → hI (sI h2 75 (upd (hI h2 75) (544 + k) (nI z))) 75 j = hI h 75 j := fun j h1 h2 => by rw [sI_eq, upd, if_neg h2, c7 j, if_neg h1]
    have w2 := c5
    refine ⟨_, h1, sI h2 75 (upd (hI h2 75) (544 + k) (nI z)), by show f_X7_applicant h (some 0) (nI z) = _; rw [u7_app w l2 b1, if_neg e, if_neg e2, c1], ?_, c8 _ (Fr.sI h2 (by decide)) ⟨?_, ?_, ?_, ?_, ?_, ?_, ⟨by show k + 1 ≤ 12; omega, ?_, ?_, fun j hj => ?_⟩⟩⟩
    · show f_X8_applicant h1 (some 74) (nI z) = _
      rw [u8_app c2 (by rw [c3 75 (by omega) (by omega)]; exact b3) b1, if_neg e, if_neg e2, c4, bd2_some, gR_w (q := 74) (ci := 8) (j := 0) w2 (by decide) rfl rfl, bd_some, show tR 74 0 = some 75 from rfl, b2, show 544 + nI k = nI (544 + k) from nI_add 544 k, stI_w (q := 75) (i := 544 + k) w2 (by decide) rfl (by show _ < 556; omega) (by decide), bd_some]
    · exact rB_c rb (kk 2 (by omega) (by omega) (by omega)) (nn 0 (by omega) (by omega)) (nn 1 (by omega) (by omega))
    · exact rC_c rc (by rw [kk 3 (by omega) (by omega) (by omega)]) (kk 5 (by omega) (by omega) (by omega)) (kk 6 (by omega) (by omega) (by omega)) (nn 2 (by omega) (by omega)) (fun j _ _ => nn j (by omega) (by omega))
    · exact rP_c rp (by rw [kk 3 (by omega) (by omega) (by omega)]) (kk 7 (by omega) (by omega) (by omega)) (kk 8 (by omega) (by omega) (by omega)) (kk 9 (by omega) (by omega) (by omega)) (nn 3 (by omega) (by omega)) (fun j _ _ => nn j (by omega) (by omega))
    · exact rL_c rl (by rw [kk 3 (by omega) (by omega) (by omega)]) (kk 10 (by omega) (by omega) (by omega)) (nn 4 (by omega) (by omega)) (fun j _ _ => nn j (by omega) (by omega))
    · exact rW_c rwt (kk 4 (by omega) (by omega) (by omega)) (fun j _ _ => nn j (by omega) (by omega))
    · exact rT_c rt (Nat.le_refl _) (by rw [kk 12 (by omega) (by omega) (by omega)]) (kk 13 (by omega) (by omega) (by omega)) (nn 5 (by omega) (by omega)) (fun j _ _ => nn j (by omega) (by omega))
    · rw [sI_ne (by decide), c6 20 (by omega), if_pos rfl, upd, if_pos rfl]
    · rw [sI_eq, upd, if_neg (by omega), c7 6, if_pos rfl]
    · have hj' : j < k + 1 := hj
      by_cases ej : j = k
      · refine ⟨z, ⟨d1, d2⟩, ?_, ?_⟩
        · rw [sI_ne (by decide), c6 21 (by omega), if_neg (by decide), sI_eq, upd, if_pos ej]
        · rw [sI_eq, upd, if_pos (by omega)]
      · obtain ⟨v1, g1, g2, g3⟩ := b4 j (by omega)
        refine ⟨v1, g1, ?_, ?_⟩
        · rw [sI_ne (by decide), c6 21 (by omega), if_neg (by decide), sI_eq, upd, if_neg ej]; exact g2
        · rw [nn _ (by omega) (by omega)]; exact g3
