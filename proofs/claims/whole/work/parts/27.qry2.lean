/-! as; waterAt, runs -/
theorem aT_row : ldT (nI 0) = some (-1) ∧ ldT (nI 1) = some 0 ∧ ldT (nI 2) = some 0 ∧ ldT (nI 3) = some 1 := by
  refine ⟨?_, ?_, ?_, ?_⟩ <;> decide
theorem op_as (x y : Int32) : OpOk (fun h => f_X7_as h (some 0) x y) (fun h => f_X8_as h (some 74) x y) := by
  intro h w r
  obtain ⟨C, r1, -, r3, -⟩ := id r
  obtain ⟨-, ⟨cc, -⟩, -, -, -, ⟨t1, t2, t3, t4⟩, -⟩ := r1
  have h100 : C.2.2.2.1 ≤ 100 := by omega
  have t3' : ∀ f, hI (sI h 0 f) 75 5 = nI C.2.2.2.1 := fun f => by rw [sI_ne (by decide)]; exact t3
  rcases ixw_cases x (k := C.2.2.2.1) (by omega) with e | ⟨e, t, ht, rfl⟩
  · exact fin_ok (a := fun h => f_X7_as h (some 0) x y) (b := fun h => f_X8_as h (some 74) x y) (x := -100001) w r (by show f_X7_as h (some 0) x y = _; simp (disch := first | (simp only [WF_sI]; exact w) | exact (w) | decide | (simp only [shq]; omega)) only [bd_some, bd2_some, bd2_id, i10, i00, not_true_eq_false, not_false_eq_true, if_true, if_false, ↓reduceIte, gR_w, gI_w, pI_w, isO_w, ldI_w, stI_w, ldZ_w, stZ_w, lenA_w, tR, f_X7_as, e7_isTrip w t2 h100, e]) (fun f => by show f_X8_as (sI h 0 f) (some 74) x y = _; simp (disch := first | (simp only [WF_sI]; exact w0 w f) | exact (w0 w f) | decide | (simp only [shq]; omega)) only [bd_some, bd2_some, bd2_id, i10, i00, not_true_eq_false, not_false_eq_true, if_true, if_false, ↓reduceIte, gR_w, gI_w, pI_w, isO_w, ldI_w, stI_w, ldZ_w, stZ_w, lenA_w, tR, f_X8_as, e8_isTrip (w0 w f) (t3' f), e])
  rcases win_nI (x := y) (a := 0) (b := 3) (by omega) (by omega) with e2 | ⟨e2, d, d1, d2, rfl⟩
  · have e2' : win y 0 3 = 0 := e2
    exact fin_ok (a := fun h => f_X7_as h (some 0) (nI t) y) (b := fun h => f_X8_as h (some 74) (nI t) y) (x := -100001) w r (by show f_X7_as h (some 0) (nI t) y = _; simp (disch := first | (simp only [WF_sI]; exact w) | exact (w) | decide | (simp only [shq]; omega)) only [bd_some, bd2_some, bd2_id, i10, i00, not_true_eq_false, not_false_eq_true, if_true, if_false, ↓reduceIte, gR_w, gI_w, pI_w, isO_w, ldI_w, stI_w, ldZ_w, stZ_w, lenA_w, tR, f_X7_as, e7_isTrip w t2 h100, e, e7_isKind, e2']) (fun f => by show f_X8_as (sI h 0 f) (some 74) (nI t) y = _; simp (disch := first | (simp only [WF_sI]; exact w0 w f) | exact (w0 w f) | decide | (simp only [shq]; omega)) only [bd_some, bd2_some, bd2_id, i10, i00, not_true_eq_false, not_false_eq_true, if_true, if_false, ↓reduceIte, gR_w, gI_w, pI_w, isO_w, ldI_w, stI_w, ldZ_w, stZ_w, lenA_w, tR, f_X8_as, e8_isTrip (w0 w f) (t3' f), e, e8_isIn, e2'])
  have e2' : win (nI d) 0 3 = 1 := e2
  obtain ⟨⟨k, -, -, -, -, k1, -, -, -, -, k2, -⟩, g2, -⟩ := t4 t ht
  have rd : f_X6_read h (some 11) (nI t) 0 = some (nI k, h) := by rw [← k2]; exact e6_read (j := 0) w (by omega)
  have md : f_X8_told h (some 74) (nI t) 0 = some (nI k, h) := by rw [← k2, ← g2 0 (by omega)]; exact e8_told (j := 0) w (by omega)
  have md' : ∀ f, f_X8_told (sI h 0 f) (some 74) (nI t) 0 = some (nI k, sI h 0 f) := fun f => by
    rw [show (0 : Int32) = nI 0 from rfl, e8_told (w0 w f) (by omega), sI_ne (by decide), g2 0 (by omega), k2]
  have u7 : f_X7_as h (some 0) (nI t) (nI d) = g_X7_as_35 NN h (some 0) (nI t) (nI d) (nI k) 0 := by
    simp (disch := first | (simp only [WF_sI]; exact w) | exact (w) | decide | (simp only [shq]; omega)) only [bd_some, bd2_some, bd2_id, i10, i00, not_true_eq_false, not_false_eq_true, if_true, if_false, ↓reduceIte, gR_w, gI_w, pI_w, isO_w, ldI_w, stI_w, ldZ_w, stZ_w, lenA_w, tR, f_X7_as, e7_isTrip w t2 h100, e, e7_isKind, e2', rd]
  have fd : j_X7_as_65 h (some 0) (nI t) (nI d) (nI d) = some (nI t, h) := by
    unfold j_X7_as_65; rw [if_neg (fun z => z rfl)]
  have fn : ∀ q : Int32, ¬ q = nI d → j_X7_as_65 h (some 0) (nI t) (nI d) q = f_X7_finding h (some 0) (-100004) := by
    intro q hq
    unfold j_X7_as_65
    rw [if_pos hq]
    simp (disch := first | (simp only [WF_sI]; exact w) | exact (w) | decide | (simp only [shq]; omega)) only [bd_some, bd2_some, bd2_id, i10, i00, not_true_eq_false, not_false_eq_true, if_true, if_false, ↓reduceIte, gR_w, gI_w, pI_w, isO_w, ldI_w, stI_w, ldZ_w, stZ_w, lenA_w, tR]
  have kk : ∀ q : Nat, q ≤ 3 → f_X7_isKind h (nI q) = some (1, h) := by
    intro q hq
    rw [e7_isKind]
    rcases (show q = 0 ∨ q = 1 ∨ q = 2 ∨ q = 3 by omega) with rfl | rfl | rfl | rfl <;> rfl
  have km : f_X7_isKind h (-1) = some (0, h) := by rw [e7_isKind]; rfl
  have se : ∀ (n i : Nat), i < 4 → g_X7_as_35 (n + 1) h (some 0) (nI t) (nI d) (nI d) (nI i) = some (nI t, h) := by
    intro n i hi
    have c4 : ¬ (4 : Int32) ≤ nI i := fun z => by have := (nI_leI (a := 4) (by omega) (by omega)).mp z; omega
    rw [g_X7_as_35, if_neg c4, if_pos rfl, fd]
  have sg : ∀ (n i q : Nat) (v : Int32), i < 4 → q ≤ 3 → q ≠ d → ldT (nI q) = some v → g_X7_as_35 (n + 1) h (some 0) (nI t) (nI d) (nI q) (nI i) = g_X7_as_35 n h (some 0) (nI t) (nI d) v (nI (i + 1)) := by
    intro n i q v hi hq hd hl
    have c4 : ¬ (4 : Int32) ≤ nI i := fun z => by have := (nI_leI (a := 4) (by omega) (by omega)).mp z; omega
    have c5 : ¬ nI q = nI d := fun z => hd ((nI_eq (by omega) (by omega)).mp z)
    rw [g_X7_as_35, if_neg c4, if_neg c5, kk q hq, bd2_some, if_neg (by decide), hl, bd_some, nI_1]
  have sn : ∀ (n i : Nat), i < 4 → g_X7_as_35 (n + 1) h (some 0) (nI t) (nI d) (-1) (nI i) = f_X7_finding h (some 0) (-100004) := by
    intro n i hi
    have c4 : ¬ (4 : Int32) ≤ nI i := fun z => by have := (nI_leI (a := 4) (by omega) (by omega)).mp z; omega
    have c5 : ¬ (-1 : Int32) = nI d := fun z => ne_m1 (c := d) (by omega) z.symm
    rw [g_X7_as_35, if_neg c4, if_neg c5, km, bd2_some, if_pos rfl, fn _ c5]
  obtain ⟨F, hF⟩ : ∃ F, NN = F + 1 + 1 + 1 + 1 + 1 := ⟨NN - 5, by unfold NN; rfl⟩
  rw [hF, show (0 : Int32) = nI 0 from rfl] at u7
  obtain ⟨a0, a1, a2, a3⟩ := aT_row
  have z0 : (0 : Int32) = nI 0 := rfl
  have z1 : (1 : Int32) = nI 1 := rfl
  rw [z0] at a1 a2
  rw [z1] at a3
  have ne : ∀ a b : Nat, a ≤ 3 → b ≤ 3 → a ≠ b → ¬ nI a = nI b := fun a b h1 h2 h3 z => h3 ((nI_eq (by omega) (by omega)).mp z)
  -- what the desk does
  have u7' : f_X7_as h (some 0) (nI t) (nI d) = if d = 0 ∨ d = k ∨ (d = 1 ∧ k = 3) then some (nI t, h) else f_X7_finding h (some 0) (-100004) := by
    rw [u7]
    by_cases hdk : d = k
    · subst hdk
      rw [se _ 0 (by omega), if_pos (Or.inr (Or.inl rfl))]
    rcases (show k = 0 ∨ k = 1 ∨ k = 2 ∨ k = 3 by omega) with rfl | rfl | rfl | rfl
    · rw [sg _ 0 0 _ (by omega) (by omega) (by omega) a0, sn _ 1 (by omega), if_neg (by omega)]
    · rw [sg _ 0 1 _ (by omega) (by omega) (by omega) a1]
      by_cases hd0 : d = 0
      · subst hd0; rw [se _ 1 (by omega), if_pos (Or.inl rfl)]
      · rw [sg _ 1 0 _ (by omega) (by omega) (by omega) a0, sn _ 2 (by omega), if_neg (by omega)]
    · rw [sg _ 0 2 _ (by omega) (by omega) (by omega) a2]
      by_cases hd0 : d = 0
      · subst hd0; rw [se _ 1 (by omega), if_pos (Or.inl rfl)]
      · rw [sg _ 1 0 _ (by omega) (by omega) (by omega) a0, sn _ 2 (by omega), if_neg (by omega)]
    · rw [sg _ 0 3 _ (by omega) (by omega) (by omega) a3]
      by_cases hd1 : d = 1
      · subst hd1; rw [se _ 1 (by omega), if_pos (Or.inr (Or.inr ⟨rfl, rfl⟩))]
      rw [sg _ 1 1 _ (by omega) (by omega) (by omega) a1]
      by_cases hd0 : d = 0
      · subst hd0; rw [se _ 2 (by omega), if_pos (Or.inl rfl)]
      · rw [sg _ 2 0 _ (by omega) (by omega) (by omega) a0, sn _ 3 (by omega), if_neg (by omega)]
  have i3 : ∀ q : Nat, q ≤ 3 → (nI q = 0 ↔ q = 0) := fun q hq => nI_eq (b := 0) (by omega) (by omega)
  have i4 : ∀ q : Nat, q ≤ 3 → (nI q = 1 ↔ q = 1) := fun q hq => nI_eq (b := 1) (by omega) (by omega)
  have i5 : ∀ q : Nat, q ≤ 3 → (nI q = 3 ↔ q = 3) := fun q hq => nI_eq (b := 3) (by omega) (by omega)
  have i6 : nI d = nI k ↔ d = k := nI_eq (by omega) (by omega)
  have u8' : ∀ g, WF g → hI g 75 5 = nI C.2.2.2.1 → f_X8_told g (some 74) (nI t) 0 = some (nI k, g) → f_X8_as g (some 74) (nI t) (nI d) = if d = 0 ∨ d = k ∨ (d = 1 ∧ k = 3) then some (nI t, g) else f_X8_finding g (some 74) (-100004) := by
    intro g wg tg mg
    have u : f_X8_as g (some 74) (nI t) (nI d) = if nI d = 0 then some (nI t, g) else if nI d = nI k then some (nI t, g) else if ¬ nI d = 1 then f_X8_finding g (some 74) (-100004) else if ¬ nI k = 3 then f_X8_finding g (some 74) (-100004) else some (nI t, g) := by
      simp (disch := first | (simp only [WF_sI]; exact wg) | exact (wg) | decide | (simp only [shq]; omega)) only [bd_some, bd2_some, bd2_id, i10, i00, not_true_eq_false, not_false_eq_true, if_true, if_false, ↓reduceIte, gR_w, gI_w, pI_w, isO_w, ldI_w, stI_w, ldZ_w, stZ_w, lenA_w, tR, f_X8_as, e8_isTrip wg tg, e, e8_isIn, e2', mg]
    rw [u]
    by_cases c1 : d = 0
    · rw [if_pos ((i3 d d2).mpr c1), if_pos (Or.inl c1)]
    rw [if_neg (fun z => c1 ((i3 d d2).mp z))]
    by_cases c2 : d = k
    · rw [if_pos (i6.mpr c2), if_pos (Or.inr (Or.inl c2))]
    rw [if_neg (fun z => c2 (i6.mp z))]
    by_cases c3 : d = 1
    · rw [if_neg (fun z => z ((i4 d d2).mpr c3))]
      by_cases c4 : k = 3
      · rw [if_neg (fun z => z ((i5 k k1).mpr c4)), if_pos (Or.inr (Or.inr ⟨c3, c4⟩))]
      · rw [if_pos (fun z => c4 ((i5 k k1).mp z)), if_neg (by omega)]
    · rw [if_pos (fun z => c3 ((i4 d d2).mp z)), if_neg (by omega)]
  by_cases c : d = 0 ∨ d = k ∨ (d = 1 ∧ k = 3)
  · refine qry_ok (a := fun h => f_X7_as h (some 0) (nI t) (nI d)) (b := fun h => f_X8_as h (some 74) (nI t) (nI d)) (v := nI t) w r ?_ ?_
    · show f_X7_as h (some 0) (nI t) (nI d) = _; rw [u7', if_pos c]
    · show f_X8_as h (some 74) (nI t) (nI d) = _; rw [u8' h w t3 md, if_pos c]
  · exact fin_ok (a := fun h => f_X7_as h (some 0) (nI t) (nI d)) (b := fun h => f_X8_as h (some 74) (nI t) (nI d)) (x := -100004) w r (by show f_X7_as h (some 0) (nI t) (nI d) = _; rw [u7', if_neg c]) (fun f => by show f_X8_as (sI h 0 f) (some 74) (nI t) (nI d) = _; rw [u8' _ (w0 w f) (t3' f) (md' f), if_neg c])
