/-! all, at, of, as -/
def Ok2 (h : AH) (a b : AH → Option (Int32 × AH)) : Prop := ∃ v h1 h2, a h = some (v, h1) ∧ b h1 = some (v, h2) ∧ WF h2 ∧ Rel h2 ∧ hn h2 ≤ hn h + 1 ∧ hs h2 ≤ hs h + 350
theorem qry_ok {h : AH} (w : WF h) (r : Rel h) {a b : AH → Option (Int32 × AH)} {v : Int32} (ha : a h = some (v, h)) (hb : b h = some (v, h)) : Ok2 h a b := ⟨v, h, h, ha, hb, w, r, by omega, by omega⟩
theorem q75 {h : AH} (w : WF h) {i : Nat} (hi : i < 556) : ldI h (some 75) (nI i) = some (hI h 75 i) := ldI_w w (by decide) rfl hi (by decide)
theorem op_all (x : Int32) : OpOk (fun h => f_X7_all h (some 0) x) (fun h => f_X8_all h (some 74) x) := by
  intro h w r
  obtain ⟨C, r1, -, r3, -⟩ := id r
  obtain ⟨-, ⟨-, c2, c3, -⟩, ⟨-, p2, p3, -⟩, ⟨-, l2, l3, -⟩, -, ⟨-, t2, t3, -⟩, ⟨-, a2, a3, -⟩⟩ := r1
  have k0 : ldI h (some 3) 0 = some (hI h 3 0) := ldI_w (i := 0) w (by decide) rfl (by decide) (by decide)
  have k1 : ldI h (some 3) 1 = some (hI h 3 1) := ldI_w (i := 1) w (by decide) rfl (by decide) (by decide)
  have k2 : ldI h (some 3) 2 = some (hI h 3 2) := ldI_w (i := 2) w (by decide) rfl (by decide) (by decide)
  have m2 : ldI h (some 75) 2 = some (hI h 75 2) := q75 w (i := 2) (by omega)
  have m3 : ldI h (some 75) 3 = some (hI h 75 3) := q75 w (i := 3) (by omega)
  have m4 : ldI h (some 75) 4 = some (hI h 75 4) := q75 w (i := 4) (by omega)
  have m5 : ldI h (some 75) 5 = some (hI h 75 5) := q75 w (i := 5) (by omega)
  have m6 : ldI h (some 75) 6 = some (hI h 75 6) := q75 w (i := 6) (by omega)
  by_cases e0 : x = 0
  · refine qry_ok (a := fun h => f_X7_all h (some 0) x) (b := fun h => f_X8_all h (some 74) x) (v := hI h 3 0) w r ?_ ?_
    · simp (disch := first | (simp only [WF_sI]; exact w) | exact (w) | decide | (simp only [shq]; omega)) only [bd_some, bd2_some, bd2_id, i10, i00, not_true_eq_false, not_false_eq_true, if_true, if_false, ↓reduceIte, gR_w, gI_w, pI_w, isO_w, ldI_w, stI_w, ldZ_w, stZ_w, lenA_w, tR, f_X7_all, e0, k0]
    · simp (disch := first | (simp only [WF_sI]; exact w) | exact (w) | decide | (simp only [shq]; omega)) only [bd_some, bd2_some, bd2_id, i10, i00, not_true_eq_false, not_false_eq_true, if_true, if_false, ↓reduceIte, gR_w, gI_w, pI_w, isO_w, ldI_w, stI_w, ldZ_w, stZ_w, lenA_w, tR, f_X8_all, e0, m2, c2, c3]
  by_cases e1 : x = 1
  · refine qry_ok (a := fun h => f_X7_all h (some 0) x) (b := fun h => f_X8_all h (some 74) x) (v := hI h 3 1) w r ?_ ?_
    · simp (disch := first | (simp only [WF_sI]; exact w) | exact (w) | decide | (simp only [shq]; omega)) only [bd_some, bd2_some, bd2_id, i10, i00, not_true_eq_false, not_false_eq_true, if_true, if_false, ↓reduceIte, gR_w, gI_w, pI_w, isO_w, ldI_w, stI_w, ldZ_w, stZ_w, lenA_w, tR, f_X7_all, e0, e1, k1]
    · simp (disch := first | (simp only [WF_sI]; exact w) | exact (w) | decide | (simp only [shq]; omega)) only [bd_some, bd2_some, bd2_id, i10, i00, not_true_eq_false, not_false_eq_true, if_true, if_false, ↓reduceIte, gR_w, gI_w, pI_w, isO_w, ldI_w, stI_w, ldZ_w, stZ_w, lenA_w, tR, f_X8_all, e0, e1, m3, p2, p3]
  by_cases e2 : x = 2
  · refine qry_ok (a := fun h => f_X7_all h (some 0) x) (b := fun h => f_X8_all h (some 74) x) (v := hI h 3 2) w r ?_ ?_
    · simp (disch := first | (simp only [WF_sI]; exact w) | exact (w) | decide | (simp only [shq]; omega)) only [bd_some, bd2_some, bd2_id, i10, i00, not_true_eq_false, not_false_eq_true, if_true, if_false, ↓reduceIte, gR_w, gI_w, pI_w, isO_w, ldI_w, stI_w, ldZ_w, stZ_w, lenA_w, tR, f_X7_all, e0, e1, e2, k2]
      rfl
    · simp (disch := first | (simp only [WF_sI]; exact w) | exact (w) | decide | (simp only [shq]; omega)) only [bd_some, bd2_some, bd2_id, i10, i00, not_true_eq_false, not_false_eq_true, if_true, if_false, ↓reduceIte, gR_w, gI_w, pI_w, isO_w, ldI_w, stI_w, ldZ_w, stZ_w, lenA_w, tR, f_X8_all, e0, e1, e2, m4, l2, l3]
      rfl
  by_cases e3 : x = 3
  · refine qry_ok (a := fun h => f_X7_all h (some 0) x) (b := fun h => f_X8_all h (some 74) x) (v := hI h 12 0) w r ?_ ?_
    · simp (disch := first | (simp only [WF_sI]; exact w) | exact (w) | decide | (simp only [shq]; omega)) only [bd_some, bd2_some, bd2_id, i10, i00, not_true_eq_false, not_false_eq_true, if_true, if_false, ↓reduceIte, gR_w, gI_w, pI_w, isO_w, ldI_w, stI_w, ldZ_w, stZ_w, lenA_w, tR, f_X7_all, e0, e1, e2, e3, e7_size w]
      rfl
    · simp (disch := first | (simp only [WF_sI]; exact w) | exact (w) | decide | (simp only [shq]; omega)) only [bd_some, bd2_some, bd2_id, i10, i00, not_true_eq_false, not_false_eq_true, if_true, if_false, ↓reduceIte, gR_w, gI_w, pI_w, isO_w, ldI_w, stI_w, ldZ_w, stZ_w, lenA_w, tR, f_X8_all, e0, e1, e2, e3, m5, t2, t3]
      rfl
  by_cases e4 : x = 4
  · refine qry_ok (a := fun h => f_X7_all h (some 0) x) (b := fun h => f_X8_all h (some 74) x) (v := hI h 20 0) w r ?_ ?_
    · simp (disch := first | (simp only [WF_sI]; exact w) | exact (w) | decide | (simp only [shq]; omega)) only [bd_some, bd2_some, bd2_id, i10, i00, not_true_eq_false, not_false_eq_true, if_true, if_false, ↓reduceIte, gR_w, gI_w, pI_w, isO_w, ldI_w, stI_w, ldZ_w, stZ_w, lenA_w, tR, f_X7_all, e0, e1, e2, e3, e4, e7_sizeA w]
      rfl
    · simp (disch := first | (simp only [WF_sI]; exact w) | exact (w) | decide | (simp only [shq]; omega)) only [bd_some, bd2_some, bd2_id, i10, i00, not_true_eq_false, not_false_eq_true, if_true, if_false, ↓reduceIte, gR_w, gI_w, pI_w, isO_w, ldI_w, stI_w, ldZ_w, stZ_w, lenA_w, tR, f_X8_all, e0, e1, e2, e3, e4, m6, a2, a3]
      rfl
  by_cases e5 : x = 5
  · refine qry_ok (a := fun h => f_X7_all h (some 0) x) (b := fun h => f_X8_all h (some 74) x) (v := hI h 0 6) w r ?_ ?_
    · simp (disch := first | (simp only [WF_sI]; exact w) | exact (w) | decide | (simp only [shq]; omega)) only [bd_some, bd2_some, bd2_id, i10, i00, not_true_eq_false, not_false_eq_true, if_true, if_false, ↓reduceIte, gR_w, gI_w, pI_w, isO_w, ldI_w, stI_w, ldZ_w, stZ_w, lenA_w, tR, f_X7_all, e0, e1, e2, e3, e4, e5]
      rfl
    · simp (disch := first | (simp only [WF_sI]; exact w) | exact (w) | decide | (simp only [shq]; omega)) only [bd_some, bd2_some, bd2_id, i10, i00, not_true_eq_false, not_false_eq_true, if_true, if_false, ↓reduceIte, gR_w, gI_w, pI_w, isO_w, ldI_w, stI_w, ldZ_w, stZ_w, lenA_w, tR, f_X8_all, e0, e1, e2, e3, e4, e5, r3]
      rfl
  · exact fin_ok (a := fun h => f_X7_all h (some 0) x) (b := fun h => f_X8_all h (some 74) x) (x := -100001) w r (by show f_X7_all h (some 0) x = _; simp (disch := first | (simp only [WF_sI]; exact w) | exact (w) | decide | (simp only [shq]; omega)) only [bd_some, bd2_some, bd2_id, i10, i00, not_true_eq_false, not_false_eq_true, if_true, if_false, ↓reduceIte, gR_w, gI_w, pI_w, isO_w, ldI_w, stI_w, ldZ_w, stZ_w, lenA_w, tR, f_X7_all, e0, e1, e2, e3, e4, e5]) (fun f => by show f_X8_all (sI h 0 f) (some 74) x = _; simp (disch := first | (simp only [WF_sI]; exact w0 w f) | exact (w0 w f) | decide | (simp only [shq]; omega)) only [bd_some, bd2_some, bd2_id, i10, i00, not_true_eq_false, not_false_eq_true, if_true, if_false, ↓reduceIte, gR_w, gI_w, pI_w, isO_w, ldI_w, stI_w, ldZ_w, stZ_w, lenA_w, tR, f_X8_all, e0, e1, e2, e3, e4, e5])
theorem ne_m1 {c : Nat} (hc : c < 2 ^ 30) : ¬ nI c = -1 := fun z => by have := congrArg Int32.toInt z; rw [nI_toInt (by omega)] at this; have e9 : (-1 : Int32).toInt = -1 := rfl; omega
theorem ix244 {t d : Nat} : 244 + 30 * nI t + nI d = nI (244 + 30 * t + d) := by rw [show (30 : Int32) = nI 30 from rfl, show (244 : Int32) = nI 244 from rfl, pk_mul, nI_add, nI_add]
theorem op_at (x y : Int32) : OpOk (fun h => f_X7_at h (some 0) x y) (fun h => f_X8_at h (some 74) x y) := by
  intro h w r
  obtain ⟨C, r1, -, r3, -⟩ := id r
  obtain ⟨-, ⟨cc, -⟩, -, -, -, ⟨t1, t2, t3, t4⟩, -⟩ := r1
  have h100 : C.2.2.2.1 ≤ 100 := by omega
  have t3' : ∀ f, hI (sI h 0 f) 75 5 = nI C.2.2.2.1 := fun f => by rw [sI_ne (by decide)]; exact t3
  rcases ixw_cases x (k := C.2.2.2.1) (by omega) with e | ⟨e, t, ht, rfl⟩
  · exact fin_ok (a := fun h => f_X7_at h (some 0) x y) (b := fun h => f_X8_at h (some 74) x y) (x := -100001) w r (by show f_X7_at h (some 0) x y = _; simp (disch := first | (simp only [WF_sI]; exact w) | exact (w) | decide | (simp only [shq]; omega)) only [bd_some, bd2_some, bd2_id, i10, i00, not_true_eq_false, not_false_eq_true, if_true, if_false, ↓reduceIte, gR_w, gI_w, pI_w, isO_w, ldI_w, stI_w, ldZ_w, stZ_w, lenA_w, tR, f_X7_at, e7_isTrip w t2 h100, e]) (fun f => by show f_X8_at (sI h 0 f) (some 74) x y = _; simp (disch := first | (simp only [WF_sI]; exact w0 w f) | exact (w0 w f) | decide | (simp only [shq]; omega)) only [bd_some, bd2_some, bd2_id, i10, i00, not_true_eq_false, not_false_eq_true, if_true, if_false, ↓reduceIte, gR_w, gI_w, pI_w, isO_w, ldI_w, stI_w, ldZ_w, stZ_w, lenA_w, tR, f_X8_at, e8_isTrip (w0 w f) (t3' f), e])
  rcases win_nI (x := y) (a := 0) (b := 29) (by omega) (by omega) with e2 | ⟨e2, d, d1, d2, rfl⟩
  · have e2' : win y 0 29 = 0 := e2
    exact fin_ok (a := fun h => f_X7_at h (some 0) (nI t) y) (b := fun h => f_X8_at h (some 74) (nI t) y) (x := -100001) w r (by show f_X7_at h (some 0) (nI t) y = _; simp (disch := first | (simp only [WF_sI]; exact w) | exact (w) | decide | (simp only [shq]; omega)) only [bd_some, bd2_some, bd2_id, i10, i00, not_true_eq_false, not_false_eq_true, if_true, if_false, ↓reduceIte, gR_w, gI_w, pI_w, isO_w, ldI_w, stI_w, ldZ_w, stZ_w, lenA_w, tR, f_X7_at, e7_isTrip w t2 h100, e, e7_isDay, e2']) (fun f => by show f_X8_at (sI h 0 f) (some 74) (nI t) y = _; simp (disch := first | (simp only [WF_sI]; exact w0 w f) | exact (w0 w f) | decide | (simp only [shq]; omega)) only [bd_some, bd2_some, bd2_id, i10, i00, not_true_eq_false, not_false_eq_true, if_true, if_false, ↓reduceIte, gR_w, gI_w, pI_w, isO_w, ldI_w, stI_w, ldZ_w, stZ_w, lenA_w, tR, f_X8_at, e8_isTrip (w0 w f) (t3' f), e, e8_isDay, e2'])
  have e2' : win (nI d) 0 29 = 1 := e2
  obtain ⟨-, -, g3⟩ := t4 t ht
  obtain ⟨g4, g5⟩ := g3 d (by omega)
  have rd : f_X6_read h (some 11) (nI t) (5 + nI d) = some (hI h 13 (35 * t + (5 + d)), h) := by
    rw [show 5 + nI d = nI (5 + d) from nI_add 5 d]; exact e6_read w (by omega)
  rcases g5 with g5 | ⟨c, hc, g5⟩
  · have m7 : ∀ f, ldI (sI h 0 f) (some 75) (nI (244 + 30 * t + d)) = some (-1) := fun f => by rw [q75 (w0 w f) (by omega), sI_ne (by decide), g4, g5]
    have n1 : ¬ (0 : Int32) ≤ -1 := by decide
    exact fin_ok (a := fun h => f_X7_at h (some 0) (nI t) (nI d)) (b := fun h => f_X8_at h (some 74) (nI t) (nI d)) (x := -100006) w r (by show f_X7_at h (some 0) (nI t) (nI d) = _; simp (disch := first | (simp only [WF_sI]; exact w) | exact (w) | decide | (simp only [shq]; omega)) only [bd_some, bd2_some, bd2_id, i10, i00, not_true_eq_false, not_false_eq_true, if_true, if_false, ↓reduceIte, gR_w, gI_w, pI_w, isO_w, ldI_w, stI_w, ldZ_w, stZ_w, lenA_w, tR, f_X7_at, e7_isTrip w t2 h100, e, e7_isDay, e2', rd, g5]) (fun f => by show f_X8_at (sI h 0 f) (some 74) (nI t) (nI d) = _; simp (disch := first | (simp only [WF_sI]; exact w0 w f) | exact (w0 w f) | decide | (simp only [shq]; omega)) only [bd_some, bd2_some, bd2_id, i10, i00, not_true_eq_false, not_false_eq_true, if_true, if_false, ↓reduceIte, gR_w, gI_w, pI_w, isO_w, ldI_w, stI_w, ldZ_w, stZ_w, lenA_w, tR, f_X8_at, e8_isTrip (w0 w f) (t3' f), e, e8_isDay, e2', ix244, m7 f, n1])
  · have n2 : ¬ nI c = -1 := fun z => by have := congrArg Int32.toInt z; rw [nI_toInt (by omega)] at this; have e9 : (-1 : Int32).toInt = -1 := rfl; omega
    have n3 : (0 : Int32) ≤ nI c := nI_pos' (by omega)
    have m7 : ldI h (some 75) (nI (244 + 30 * t + d)) = some (nI c) := by rw [q75 w (by omega), g4, g5]
    refine qry_ok (a := fun h => f_X7_at h (some 0) (nI t) (nI d)) (b := fun h => f_X8_at h (some 74) (nI t) (nI d)) (v := nI c) w r ?_ ?_
    · simp (disch := first | (simp only [WF_sI]; exact w) | exact (w) | decide | (simp only [shq]; omega)) only [bd_some, bd2_some, bd2_id, i10, i00, not_true_eq_false, not_false_eq_true, if_true, if_false, ↓reduceIte, gR_w, gI_w, pI_w, isO_w, ldI_w, stI_w, ldZ_w, stZ_w, lenA_w, tR, f_X7_at, e7_isTrip w t2 h100, e, e7_isDay, e2', rd, g5, n2]
    · simp (disch := first | (simp only [WF_sI]; exact w) | exact (w) | decide | (simp only [shq]; omega)) only [bd_some, bd2_some, bd2_id, i10, i00, not_true_eq_false, not_false_eq_true, if_true, if_false, ↓reduceIte, gR_w, gI_w, pI_w, isO_w, ldI_w, stI_w, ldZ_w, stZ_w, lenA_w, tR, f_X8_at, e8_isTrip w t3, e, e8_isDay, e2', ix244, m7, n3]
/-- the nights of a trip, counted by both -/
theorem nights_both {h : AH} (w : WF h) {t : Nat} (ht : t < 10) (hr : ∀ d, d < 30 → hI h 75 (244 + 30 * t + d) = hI h 13 (35 * t + (5 + d)) ∧ (hI h 13 (35 * t + (5 + d)) = -1 ∨ ∃ c, c < 14 ∧ hI h 13 (35 * t + (5 + d)) = nI c)) :
    ∀ (k i : Nat) (F G : Nat) (x : Int32), i + k = 30 → ∃ v, g_X6_nightsOf_4 (F + k + 1) h (some 11) (nI t) x (nI i) = some (v, h) ∧ g_X8_of_41 (G + k + 1) h (some 74) (nI t) x (nI i) = some (v, h) := by
  intro k
  induction k with
  | zero =>
    intro i F G x hi
    have : i = 30 := by omega
    subst this
    refine ⟨x, ?_, ?_⟩
    · rw [show F + 0 + 1 = F + 1 from rfl, g_X6_nightsOf_4, if_pos (by decide)]
    · rw [show G + 0 + 1 = G + 1 from rfl, g_X8_of_41, if_pos (by decide)]
  | succ k ih =>
    intro i F G x hi
    have c : ¬ (30 : Int32) ≤ nI i := fun z => by have := (nI_leI (a := 30) (by omega) (by omega)).mp z; omega
    obtain ⟨g4, g5⟩ := hr i (by omega)
    have rd : f_X6_read h (some 11) (nI t) (5 + nI i) = some (hI h 13 (35 * t + (5 + i)), h) := by
      rw [show 5 + nI i = nI (5 + i) from nI_add 5 i]; exact e6_read w (by omega)
    rw [g_X6_nightsOf_4, if_neg c, isO_w (q := 11) (ci := 6) w (by decide) rfl, bd_some, rd, bd2_some, nI_1, g_X8_of_41, if_neg c, gR_w (q := 74) (ci := 8) (j := 0) w (by decide) rfl rfl, bd_some, show tR 74 0 = some 75 from rfl, ix244, q75 w (by omega), bd_some, g4]
    unfold j_X8_of_73
    rw [nI_1]
    rcases g5 with g5 | ⟨c, hc, g5⟩
    · rw [g5, if_pos rfl, if_pos (by decide)]
      obtain ⟨v, v1, v2⟩ := ih (i + 1) F G x (by omega)
      exact ⟨v, v1, by rw [Int32.add_zero]; exact v2⟩
    · have n2 : ¬ nI c = -1 := fun z => by have := congrArg Int32.toInt z; rw [nI_toInt (by omega)] at this; have e9 : (-1 : Int32).toInt = -1 := rfl; omega
      have n3 : ¬ nI c < 0 := nI_pos (by omega)
      rw [g5, if_neg n2, if_neg n3]
      exact ih (i + 1) F G (x + 1) (by omega)
theorem op_of (x y : Int32) : OpOk (fun h => f_X7_of h (some 0) x y) (fun h => f_X8_of h (some 74) x y) := by
  intro h w r
  obtain ⟨C, r1, -, r3, -⟩ := id r
  obtain ⟨-, ⟨cc, -⟩, -, -, -, ⟨t1, t2, t3, t4⟩, -⟩ := r1
  have h100 : C.2.2.2.1 ≤ 100 := by omega
  have t3' : ∀ f, hI (sI h 0 f) 75 5 = nI C.2.2.2.1 := fun f => by rw [sI_ne (by decide)]; exact t3
  rcases ixw_cases x (k := C.2.2.2.1) (by omega) with e | ⟨e, t, ht, rfl⟩
  · exact fin_ok (a := fun h => f_X7_of h (some 0) x y) (b := fun h => f_X8_of h (some 74) x y) (x := -100001) w r (by show f_X7_of h (some 0) x y = _; simp (disch := first | (simp only [WF_sI]; exact w) | exact (w) | decide | (simp only [shq]; omega)) only [bd_some, bd2_some, bd2_id, i10, i00, not_true_eq_false, not_false_eq_true, if_true, if_false, ↓reduceIte, gR_w, gI_w, pI_w, isO_w, ldI_w, stI_w, ldZ_w, stZ_w, lenA_w, tR, f_X7_of, e7_isTrip w t2 h100, e]) (fun f => by show f_X8_of (sI h 0 f) (some 74) x y = _; simp (disch := first | (simp only [WF_sI]; exact w0 w f) | exact (w0 w f) | decide | (simp only [shq]; omega)) only [bd_some, bd2_some, bd2_id, i10, i00, not_true_eq_false, not_false_eq_true, if_true, if_false, ↓reduceIte, gR_w, gI_w, pI_w, isO_w, ldI_w, stI_w, ldZ_w, stZ_w, lenA_w, tR, f_X8_of, e8_isTrip (w0 w f) (t3' f), e])
  rcases win_nI (x := y) (a := 0) (b := 5) (by omega) (by omega) with e2 | ⟨e2, d, d1, d2, rfl⟩
  · have e2' : win y 0 5 = 0 := e2
    exact fin_ok (a := fun h => f_X7_of h (some 0) (nI t) y) (b := fun h => f_X8_of h (some 74) (nI t) y) (x := -100001) w r (by show f_X7_of h (some 0) (nI t) y = _; simp (disch := first | (simp only [WF_sI]; exact w) | exact (w) | decide | (simp only [shq]; omega)) only [bd_some, bd2_some, bd2_id, i10, i00, not_true_eq_false, not_false_eq_true, if_true, if_false, ↓reduceIte, gR_w, gI_w, pI_w, isO_w, ldI_w, stI_w, ldZ_w, stZ_w, lenA_w, tR, f_X7_of, e7_isTrip w t2 h100, e, e7_within, e2']) (fun f => by show f_X8_of (sI h 0 f) (some 74) (nI t) y = _; simp (disch := first | (simp only [WF_sI]; exact w0 w f) | exact (w0 w f) | decide | (simp only [shq]; omega)) only [bd_some, bd2_some, bd2_id, i10, i00, not_true_eq_false, not_false_eq_true, if_true, if_false, ↓reduceIte, gR_w, gI_w, pI_w, isO_w, ldI_w, stI_w, ldZ_w, stZ_w, lenA_w, tR, f_X8_of, e8_isTrip (w0 w f) (t3' f), e, e8_isIn, e2'])
  have e2' : win (nI d) 0 5 = 1 := e2
  obtain ⟨-, g2, g3⟩ := t4 t ht
  by_cases c5 : d = 5
  · subst c5
    have n5 : (5 : Int32) ≤ nI 5 := by decide
    obtain ⟨F, hF⟩ := NN_ge 30 (by omega)
    obtain ⟨v, v1, v2⟩ := nights_both w (t := t) (by omega) (fun d hd => ⟨(g3 d hd).1, (g3 d hd).2.imp id (fun ⟨c, hc, e⟩ => ⟨c, by omega, e⟩)⟩) 30 0 F F 0 (by omega)
    rw [← hF] at v1 v2
    refine qry_ok (a := fun h => f_X7_of h (some 0) (nI t) (nI 5)) (b := fun h => f_X8_of h (some 74) (nI t) (nI 5)) (v := v) w r ?_ ?_
    · simp (disch := first | (simp only [WF_sI]; exact w) | exact (w) | decide | (simp only [shq]; omega)) only [bd_some, bd2_some, bd2_id, i10, i00, not_true_eq_false, not_false_eq_true, if_true, if_false, ↓reduceIte, gR_w, gI_w, pI_w, isO_w, ldI_w, stI_w, ldZ_w, stZ_w, lenA_w, tR, f_X7_of, e7_isTrip w t2 h100, e, e7_within, e2', n5, f_X6_nightsOf]
      exact v1
    · simp (disch := first | (simp only [WF_sI]; exact w) | exact (w) | decide | (simp only [shq]; omega)) only [bd_some, bd2_some, bd2_id, i10, i00, not_true_eq_false, not_false_eq_true, if_true, if_false, ↓reduceIte, gR_w, gI_w, pI_w, isO_w, ldI_w, stI_w, ldZ_w, stZ_w, lenA_w, tR, f_X8_of, e8_isTrip w t3, e, e8_isIn, e2', n5]
      exact v2
  · have n5 : ¬ (5 : Int32) ≤ nI d := fun z => by have := (nI_leI (a := 5) (by omega) (by omega)).mp z; omega
    have rd : f_X6_read h (some 11) (nI t) (nI d) = some (hI h 13 (35 * t + d), h) := e6_read w (by omega)
    have md : f_X8_told h (some 74) (nI t) (nI d) = some (hI h 13 (35 * t + d), h) := by rw [e8_told w (by omega), g2 d (by omega)]
    refine qry_ok (a := fun h => f_X7_of h (some 0) (nI t) (nI d)) (b := fun h => f_X8_of h (some 74) (nI t) (nI d)) (v := hI h 13 (35 * t + d)) w r ?_ ?_
    · simp (disch := first | (simp only [WF_sI]; exact w) | exact (w) | decide | (simp only [shq]; omega)) only [bd_some, bd2_some, bd2_id, i10, i00, not_true_eq_false, not_false_eq_true, if_true, if_false, ↓reduceIte, gR_w, gI_w, pI_w, isO_w, ldI_w, stI_w, ldZ_w, stZ_w, lenA_w, tR, f_X7_of, e7_isTrip w t2 h100, e, e7_within, e2', n5, rd]
    · simp (disch := first | (simp only [WF_sI]; exact w) | exact (w) | decide | (simp only [shq]; omega)) only [bd_some, bd2_some, bd2_id, i10, i00, not_true_eq_false, not_false_eq_true, if_true, if_false, ↓reduceIte, gR_w, gI_w, pI_w, isO_w, ldI_w, stI_w, ldZ_w, stZ_w, lenA_w, tR, f_X8_of, e8_isTrip w t3, e, e8_isIn, e2', n5, md]
