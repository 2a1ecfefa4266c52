/-! near; the nights cleared; a piece of a row kept -/
theorem abs_win {a b m : Nat} (ha : a ≤ 250) (hb : b ≤ 250) (hm : m ≤ 250) : (nI m < (if 0 ≤ (nI a - nI b) then (nI a - nI b) else 0 - (nI a - nI b))) ↔ win (nI a - nI b) (-(nI m)) (nI m) = 0 := by
  have t1 := pk_sub_toInt (a := a) (b := b) (by omega) (by omega)
  have t2 := pk_sub_toInt (a := b) (b := a) (by omega) (by omega)
  have t3 : (-(nI m)).toInt = -(m : Int) := by
    have := pk_sub_toInt (a := 0) (b := m) (by omega) (by omega)
    rw [show nI 0 = 0 from rfl, Int32.zero_sub] at this
    rw [this]; omega
  have t4 := nI_toInt (n := m) (by omega)
  have t5 : 0 - (nI a - nI b) = nI b - nI a := by rw [Int32.zero_sub, Int32.neg_sub]
  rw [t5]
  have t0 : (0 : Int32).toInt = 0 := rfl
  unfold win
  by_cases c1 : (0 : Int32) ≤ nI a - nI b
  · rw [if_pos c1]
    have d1 := Int32.le_iff_toInt_le.mp c1
    rw [if_neg (fun z => by have := Int32.lt_iff_toInt_lt.mp z; omega)]
    by_cases c2 : nI m < nI a - nI b
    · rw [if_pos c2]; exact ⟨fun _ => rfl, fun _ => c2⟩
    · rw [if_neg c2]; exact ⟨fun z => absurd z c2, fun z => absurd z (by decide)⟩
  · rw [if_neg c1]
    have d1 : ¬ (0 : Int) ≤ (nI a - nI b).toInt := fun z => c1 (Int32.le_iff_toInt_le.mpr (by rw [t0]; exact z))
    by_cases c2 : nI m < nI b - nI a
    · have d2 := Int32.lt_iff_toInt_lt.mp c2
      rw [if_pos (Int32.lt_iff_toInt_lt.mpr (by omega))]; exact ⟨fun _ => rfl, fun _ => c2⟩
    · have d2 : ¬ (nI m).toInt < (nI b - nI a).toInt := fun z => c2 (Int32.lt_iff_toInt_lt.mpr z)
      rw [if_neg (fun z => by have := Int32.lt_iff_toInt_lt.mp z; omega), if_neg (fun z => by have := Int32.lt_iff_toInt_lt.mp z; omega)]
      exact ⟨fun z => absurd z c2, fun z => absurd z (by decide)⟩
theorem ixw_1 {c k : Nat} (hc : c < k) (hk : k < 2 ^ 30) : ixw (nI c) k = 1 := by
  unfold ixw
  rw [if_neg (nI_pos (by omega)), if_neg (nI_ge hc (by omega))]
theorem ixw_m (k : Nat) : ixw (-1) k = 0 := by
  unfold ixw
  rw [if_pos (by decide)]
theorem e8_mileOf {h : AH} (w : WF h) {c : Nat} (hc : c < 14) : f_X8_mileOf h (some 74) (nI c) = some (hI h 75 (8 + 2 * c), h) := by
  have n1 : ¬ nI c = 14 := fun z => by have := (nI_eq (b := 14) (by omega) (by omega)).mp z; omega
  have x1 : 8 + 2 * nI c = nI (8 + 2 * c) := by rw [show (2 : Int32) = nI 2 from rfl, show (8 : Int32) = nI 8 from rfl, pk_mul, nI_add]
  have l1 := q75 w (i := 8 + 2 * c) (by omega)
  simp (disch := first | (simp only [WF_sI]; exact w) | exact (w) | decide | (simp only [shq]; omega)) only [bd_some, bd2_some, bd2_id, i10, i00, not_true_eq_false, not_false_eq_true, if_true, if_false, ↓reduceIte, gR_w, gI_w, pI_w, isO_w, ldI_w, stI_w, ldZ_w, stZ_w, lenA_w, tR, f_X8_mileOf, n1, x1, l1]
theorem near_both {h : AH} (w : WF h) {C : CT} (R : Rd (hI h) (hI h 75) C) {t o m : Nat} (ht : t < C.2.2.2.1) (ho : o < C.2.2.2.1) (hm : m ≤ 250) :
    ∀ (k i : Nat) (F G : Nat) (x : Int32), i + k = 30 → ∃ v, g_X7_near_48 (F + k + 1) h (some 0) (nI t) (nI o) (nI m) x (nI i) = some (v, h) ∧ g_X8_near_52 (G + k + 1) h (some 74) (nI t) (nI o) (nI m) x (nI i) = some (v, h) := by
  obtain ⟨-, ⟨cc, c2, c3, c4⟩, -, -, -, ⟨t1, t2, t3, t4⟩, -⟩ := R
  have h100 : C.1 ≤ 100 := by omega
  intro k
  induction k with
  | zero =>
    intro i F G x hi
    have : i = 30 := by omega
    subst this
    refine ⟨x, ?_, ?_⟩
    · rw [show F + 0 + 1 = F + 1 from rfl, g_X7_near_48, if_pos (by decide)]
    · rw [show G + 0 + 1 = G + 1 from rfl, g_X8_near_52, if_pos (by decide)]
  | succ k ih =>
    intro i F G x hi
    have c : ¬ (30 : Int32) ≤ nI i := fun z => by have := (nI_leI (a := 30) (by omega) (by omega)).mp z; omega
    obtain ⟨-, -, g3⟩ := t4 t ht
    obtain ⟨g4, g5⟩ := g3 i (by omega)
    obtain ⟨-, -, o3⟩ := t4 o ho
    obtain ⟨o4, o5⟩ := o3 i (by omega)
    have rd : f_X6_read h (some 11) (nI t) (5 + nI i) = some (hI h 13 (35 * t + (5 + i)), h) := by
      rw [show 5 + nI i = nI (5 + i) from nI_add 5 i]; exact e6_read w (by omega)
    have rd2 : f_X6_read h (some 11) (nI o) (5 + nI i) = some (hI h 13 (35 * o + (5 + i)), h) := by
      rw [show 5 + nI i = nI (5 + i) from nI_add 5 i]; exact e6_read w (by omega)
    have md : ldI h (some 75) (nI (244 + 30 * t + i)) = some (hI h 13 (35 * t + (5 + i))) := by rw [← g4]; exact q75 w (by omega)
    have md2 : ldI h (some 75) (nI (244 + 30 * o + i)) = some (hI h 13 (35 * o + (5 + i))) := by rw [← o4]; exact q75 w (by omega)
    have n1 : (-1 : Int32) < 0 := by decide
    rcases g5 with g5 | ⟨a, ha, g5⟩
    · rw [g5] at rd md
      have s7 : g_X7_near_48 (F + (k + 1) + 1) h (some 0) (nI t) (nI o) (nI m) x (nI i) = g_X7_near_48 (F + k + 1) h (some 0) (nI t) (nI o) (nI m) x (nI (i + 1)) := by
        rw [g_X7_near_48]
        simp (disch := first | (simp only [WF_sI]; exact w) | exact (w) | decide | (simp only [shq]; omega)) only [bd_some, bd2_some, bd2_id, i10, i00, not_true_eq_false, not_false_eq_true, if_true, if_false, ↓reduceIte, gR_w, gI_w, pI_w, isO_w, ldI_w, stI_w, ldZ_w, stZ_w, lenA_w, tR, c, rd, rd2, e7_isCamp w c2 h100, ixw_m, nI_1]
        rfl
      have s8 : g_X8_near_52 (G + (k + 1) + 1) h (some 74) (nI t) (nI o) (nI m) x (nI i) = g_X8_near_52 (G + k + 1) h (some 74) (nI t) (nI o) (nI m) x (nI (i + 1)) := by
        rw [g_X8_near_52]
        simp (disch := first | (simp only [WF_sI]; exact w) | exact (w) | decide | (simp only [shq]; omega)) only [bd_some, bd2_some, bd2_id, i10, i00, not_true_eq_false, not_false_eq_true, if_true, if_false, ↓reduceIte, gR_w, gI_w, pI_w, isO_w, ldI_w, stI_w, ldZ_w, stZ_w, lenA_w, tR, c, ix244, md, md2, n1, nI_1]
        rfl
      rw [s7, s8]
      exact ih (i + 1) F G x (by omega)
    rw [g5] at rd md
    have a0 : ¬ nI a < 0 := nI_pos (by omega)
    have a1 := ixw_1 (c := a) (k := C.1) ha (by omega)
    rcases o5 with o5 | ⟨b, hb, o5⟩
    · rw [o5] at rd2 md2
      have s7 : g_X7_near_48 (F + (k + 1) + 1) h (some 0) (nI t) (nI o) (nI m) x (nI i) = g_X7_near_48 (F + k + 1) h (some 0) (nI t) (nI o) (nI m) x (nI (i + 1)) := by
        rw [g_X7_near_48]
        simp (disch := first | (simp only [WF_sI]; exact w) | exact (w) | decide | (simp only [shq]; omega)) only [bd_some, bd2_some, bd2_id, i10, i00, not_true_eq_false, not_false_eq_true, if_true, if_false, ↓reduceIte, gR_w, gI_w, pI_w, isO_w, ldI_w, stI_w, ldZ_w, stZ_w, lenA_w, tR, c, rd, rd2, e7_isCamp w c2 h100, ixw_m, a1, nI_1]
        rfl
      have s8 : g_X8_near_52 (G + (k + 1) + 1) h (some 74) (nI t) (nI o) (nI m) x (nI i) = g_X8_near_52 (G + k + 1) h (some 74) (nI t) (nI o) (nI m) x (nI (i + 1)) := by
        rw [g_X8_near_52]
        simp (disch := first | (simp only [WF_sI]; exact w) | exact (w) | decide | (simp only [shq]; omega)) only [bd_some, bd2_some, bd2_id, i10, i00, not_true_eq_false, not_false_eq_true, if_true, if_false, ↓reduceIte, gR_w, gI_w, pI_w, isO_w, ldI_w, stI_w, ldZ_w, stZ_w, lenA_w, tR, c, ix244, md, md2, n1, a0, nI_1]
        rfl
      rw [s7, s8]
      exact ih (i + 1) F G x (by omega)
    rw [o5] at rd2 md2
    have b0 : ¬ nI b < 0 := nI_pos (by omega)
    have b1 := ixw_1 (c := b) (k := C.1) hb (by omega)
    obtain ⟨ma, -, x1, -, x3, x4, -⟩ := c4 a ha
    obtain ⟨mb, -, y1, -, y3, y4, -⟩ := c4 b hb
    have ka : ldI h (some 5) (nI a) = some (nI ma) := by rw [← x3]; exact ldI_w w (by decide) rfl (by show a < 14; omega) (by decide)
    have kb : ldI h (some 5) (nI b) = some (nI mb) := by rw [← y3]; exact ldI_w w (by decide) rfl (by show b < 14; omega) (by decide)
    have la : f_X8_mileOf h (some 74) (nI a) = some (nI ma, h) := by rw [← x4]; exact e8_mileOf w (by omega)
    have lb : f_X8_mileOf h (some 74) (nI b) = some (nI mb, h) := by rw [← y4]; exact e8_mileOf w (by omega)
    have s7 : g_X7_near_48 (F + (k + 1) + 1) h (some 0) (nI t) (nI o) (nI m) x (nI i) = if win (nI ma - nI mb) (-(nI m)) (nI m) = 0 then g_X7_near_48 (F + k + 1) h (some 0) (nI t) (nI o) (nI m) x (nI (i + 1)) else g_X7_near_48 (F + k + 1) h (some 0) (nI t) (nI o) (nI m) (x + 1) (nI (i + 1)) := by
      rw [g_X7_near_48]
      simp (disch := first | (simp only [WF_sI]; exact w) | exact (w) | decide | (simp only [shq]; omega)) only [bd_some, bd2_some, bd2_id, i10, i00, not_true_eq_false, not_false_eq_true, if_true, if_false, ↓reduceIte, gR_w, gI_w, pI_w, isO_w, ldI_w, stI_w, ldZ_w, stZ_w, lenA_w, tR, c, rd, rd2, e7_isCamp w c2 h100, a1, b1, ka, kb, nI_1]
      have aw := abs_win (a := ma) (b := mb) (m := m) (by omega) (by omega) hm
      by_cases cw : win (nI ma - nI mb) (-(nI m)) (nI m) = 0
      · rw [if_pos cw, if_pos (aw.mpr cw)]; rfl
      · rw [if_neg cw, if_neg (fun z => cw (aw.mp z))]; rfl
    have s8 : g_X8_near_52 (G + (k + 1) + 1) h (some 74) (nI t) (nI o) (nI m) x (nI i) = if win (nI ma - nI mb) (-(nI m)) (nI m) = 0 then g_X8_near_52 (G + k + 1) h (some 74) (nI t) (nI o) (nI m) x (nI (i + 1)) else g_X8_near_52 (G + k + 1) h (some 74) (nI t) (nI o) (nI m) (x + 1) (nI (i + 1)) := by
      rw [g_X8_near_52]
      simp (disch := first | (simp only [WF_sI]; exact w) | exact (w) | decide | (simp only [shq]; omega)) only [bd_some, bd2_some, bd2_id, i10, i00, not_true_eq_false, not_false_eq_true, if_true, if_false, ↓reduceIte, gR_w, gI_w, pI_w, isO_w, ldI_w, stI_w, ldZ_w, stZ_w, lenA_w, tR, c, ix244, md, md2, a0, b0, la, lb, e8_isIn, j_X8_near_138, Int32.add_zero, nI_1]
      rfl
    rw [s7, s8]
    by_cases cw : win (nI ma - nI mb) (-(nI m)) (nI m) = 0
    · rw [if_pos cw, if_pos cw]
      exact ih (i + 1) F G x (by omega)
    · rw [if_neg cw, if_neg cw]
      exact ih (i + 1) F G (x + 1) (by omega)
theorem op_near (x y z : Int32) : OpOk (fun h => f_X7_near h (some 0) x y z) (fun h => f_X8_near h (some 74) x y z) := by
  intro h w r
  obtain ⟨C, r1, -, r3, -⟩ := id r
  obtain ⟨-, -, -, -, -, ⟨t1, t2, t3, t4⟩, -⟩ := id r1
  have h100 : C.2.2.2.1 ≤ 100 := by omega
  have t3' : ∀ f, hI (sI h 0 f) 75 5 = nI C.2.2.2.1 := fun f => by rw [sI_ne (by decide)]; exact t3
  rcases ixw_cases x (k := C.2.2.2.1) (by omega) with e | ⟨e, t, ht, rfl⟩
  · exact fin_ok (a := fun h => f_X7_near h (some 0) x y z) (b := fun h => f_X8_near h (some 74) x y z) (x := -100001) w r (by show f_X7_near h (some 0) x y z = _; simp (disch := first | (simp only [WF_sI]; exact w) | exact (w) | decide | (simp only [shq]; omega)) only [bd_some, bd2_some, bd2_id, i10, i00, not_true_eq_false, not_false_eq_true, if_true, if_false, ↓reduceIte, gR_w, gI_w, pI_w, isO_w, ldI_w, stI_w, ldZ_w, stZ_w, lenA_w, tR, f_X7_near, e7_isTrip w t2 h100, e]) (fun f => by show f_X8_near (sI h 0 f) (some 74) x y z = _; simp (disch := first | (simp only [WF_sI]; exact w0 w f) | exact (w0 w f) | decide | (simp only [shq]; omega)) only [bd_some, bd2_some, bd2_id, i10, i00, not_true_eq_false, not_false_eq_true, if_true, if_false, ↓reduceIte, gR_w, gI_w, pI_w, isO_w, ldI_w, stI_w, ldZ_w, stZ_w, lenA_w, tR, f_X8_near, e8_isTrip (w0 w f) (t3' f), e])
  rcases ixw_cases y (k := C.2.2.2.1) (by omega) with e3 | ⟨e3, o, ho, rfl⟩
  · exact fin_ok (a := fun h => f_X7_near h (some 0) (nI t) y z) (b := fun h => f_X8_near h (some 74) (nI t) y z) (x := -100001) w r (by show f_X7_near h (some 0) (nI t) y z = _; simp (disch := first | (simp only [WF_sI]; exact w) | exact (w) | decide | (simp only [shq]; omega)) only [bd_some, bd2_some, bd2_id, i10, i00, not_true_eq_false, not_false_eq_true, if_true, if_false, ↓reduceIte, gR_w, gI_w, pI_w, isO_w, ldI_w, stI_w, ldZ_w, stZ_w, lenA_w, tR, f_X7_near, e7_isTrip w t2 h100, e, e3]) (fun f => by show f_X8_near (sI h 0 f) (some 74) (nI t) y z = _; simp (disch := first | (simp only [WF_sI]; exact w0 w f) | exact (w0 w f) | decide | (simp only [shq]; omega)) only [bd_some, bd2_some, bd2_id, i10, i00, not_true_eq_false, not_false_eq_true, if_true, if_false, ↓reduceIte, gR_w, gI_w, pI_w, isO_w, ldI_w, stI_w, ldZ_w, stZ_w, lenA_w, tR, f_X8_near, e8_isTrip (w0 w f) (t3' f), e, e3])
  rcases win_nI (x := z) (a := 0) (b := 250) (by omega) (by omega) with e2 | ⟨e2, m, m1, m2, rfl⟩
  · have e2' : win z 0 250 = 0 := e2
    exact fin_ok (a := fun h => f_X7_near h (some 0) (nI t) (nI o) z) (b := fun h => f_X8_near h (some 74) (nI t) (nI o) z) (x := -100001) w r (by show f_X7_near h (some 0) (nI t) (nI o) z = _; simp (disch := first | (simp only [WF_sI]; exact w) | exact (w) | decide | (simp only [shq]; omega)) only [bd_some, bd2_some, bd2_id, i10, i00, not_true_eq_false, not_false_eq_true, if_true, if_false, ↓reduceIte, gR_w, gI_w, pI_w, isO_w, ldI_w, stI_w, ldZ_w, stZ_w, lenA_w, tR, f_X7_near, e7_isTrip w t2 h100, e, e3, e7_isMile, e2']) (fun f => by show f_X8_near (sI h 0 f) (some 74) (nI t) (nI o) z = _; simp (disch := first | (simp only [WF_sI]; exact w0 w f) | exact (w0 w f) | decide | (simp only [shq]; omega)) only [bd_some, bd2_some, bd2_id, i10, i00, not_true_eq_false, not_false_eq_true, if_true, if_false, ↓reduceIte, gR_w, gI_w, pI_w, isO_w, ldI_w, stI_w, ldZ_w, stZ_w, lenA_w, tR, f_X8_near, e8_isTrip (w0 w f) (t3' f), e, e3, e8_isIn, e2'])
  have e2' : win (nI m) 0 250 = 1 := e2
  by_cases c : t = o
  · have c' : nI t = nI o := by rw [c]
    have c2 : (¬ nI t = nI o) = False := by rw [c']; simp
    exact fin_ok (a := fun h => f_X7_near h (some 0) (nI t) (nI o) (nI m)) (b := fun h => f_X8_near h (some 74) (nI t) (nI o) (nI m)) (x := -100003) w r (by show f_X7_near h (some 0) (nI t) (nI o) (nI m) = _; simp (disch := first | (simp only [WF_sI]; exact w) | exact (w) | decide | (simp only [shq]; omega)) only [bd_some, bd2_some, bd2_id, i10, i00, not_true_eq_false, not_false_eq_true, if_true, if_false, ↓reduceIte, gR_w, gI_w, pI_w, isO_w, ldI_w, stI_w, ldZ_w, stZ_w, lenA_w, tR, f_X7_near, e7_isTrip w t2 h100, e, e3, e7_isMile, e2', c2]) (fun f => by show f_X8_near (sI h 0 f) (some 74) (nI t) (nI o) (nI m) = _; simp (disch := first | (simp only [WF_sI]; exact w0 w f) | exact (w0 w f) | decide | (simp only [shq]; omega)) only [bd_some, bd2_some, bd2_id, i10, i00, not_true_eq_false, not_false_eq_true, if_true, if_false, ↓reduceIte, gR_w, gI_w, pI_w, isO_w, ldI_w, stI_w, ldZ_w, stZ_w, lenA_w, tR, f_X8_near, e8_isTrip (w0 w f) (t3' f), e, e3, e8_isIn, e2', c2])
  have n1 : ¬ nI t = nI o := fun q => c ((nI_eq (by omega) (by omega)).mp q)
  obtain ⟨F, hF⟩ := NN_ge 30 (by omega)
  obtain ⟨v, v1, v2⟩ := near_both w r1 ht ho m2 30 0 F F 0 rfl
  rw [show nI 0 = 0 from rfl] at v1 v2
  refine qry_ok (a := fun h => f_X7_near h (some 0) (nI t) (nI o) (nI m)) (b := fun h => f_X8_near h (some 74) (nI t) (nI o) (nI m)) (v := v) w r ?_ ?_
  · show f_X7_near h (some 0) (nI t) (nI o) (nI m) = _
    unfold f_X7_near
    rw [hF]
    simp (disch := first | (simp only [WF_sI]; exact w) | exact (w) | decide | (simp only [shq]; omega)) only [bd_some, bd2_some, bd2_id, i10, i00, not_true_eq_false, not_false_eq_true, if_true, if_false, ↓reduceIte, gR_w, gI_w, pI_w, isO_w, ldI_w, stI_w, ldZ_w, stZ_w, lenA_w, tR, e7_isTrip w t2 h100, e, e3, e7_isMile, e2', n1, v1]
  · show f_X8_near h (some 74) (nI t) (nI o) (nI m) = _
    unfold f_X8_near
    rw [hF]
    simp (disch := first | (simp only [WF_sI]; exact w) | exact (w) | decide | (simp only [shq]; omega)) only [bd_some, bd2_some, bd2_id, i10, i00, not_true_eq_false, not_false_eq_true, if_true, if_false, ↓reduceIte, gR_w, gI_w, pI_w, isO_w, ldI_w, stI_w, ldZ_w, stZ_w, lenA_w, tR, e8_isTrip w t3, e, e3, e8_isIn, e2', n1, v2]
theorem clr7 {t : Nat} (ht : t < 10) : ∀ (d i F : Nat) (h : AH), i + d = 30 → WF h → ∃ h1, g_X6_clearNights_2 (F + d + 1) h (some 11) (nI t) (nI i) = some h1 ∧ Fr h h1 [13] ∧ ∀ j, hI h1 13 j = if 35 * t + (5 + i) ≤ j ∧ j < 35 * t + 35 then -1 else hI h 13 j := by
  intro d
  induction d with
  | zero =>
    intro i F h hi w
    have : i = 30 := by omega
    subst this
    refine ⟨h, ?_, Fr.rf h _, fun j => by rw [if_neg (by omega)]⟩
    rw [show F + 0 + 1 = F + 1 from rfl, g_X6_clearNights_2, if_pos (by decide)]
  | succ d ih =>
    intro i F h hi w
    have c : ¬ (30 : Int32) ≤ nI i := fun z => by have := (nI_leI (a := 30) (by omega) (by omega)).mp z; omega
    have wr : f_X6_write h (some 11) (nI t) (5 + nI i) (-1) = some (sI h 13 (upd (hI h 13) (35 * t + (5 + i)) (-1))) := by
      rw [show 5 + nI i = nI (5 + i) from nI_add 5 i]; exact e6_write w (by omega)
    obtain ⟨h1, a1, a2, a3⟩ := ih (i + 1) F (sI h 13 (upd (hI h 13) (35 * t + (5 + i)) (-1))) (by omega) ((WF_sI _ _ _).mpr w)
    refine ⟨h1, ?_, (Fr.sI h (by decide)).trans a2, fun j => ?_⟩
    · rw [g_X6_clearNights_2]
      simp (disch := first | (simp only [WF_sI]; exact w) | exact (w) | decide | (simp only [shq]; omega)) only [bd_some, bd2_some, bd2_id, i10, i00, not_true_eq_false, not_false_eq_true, if_true, if_false, ↓reduceIte, gR_w, gI_w, pI_w, isO_w, ldI_w, stI_w, ldZ_w, stZ_w, lenA_w, tR, c, wr, nI_1]
      exact a1
    · rw [a3 j, sI_eq]
      unfold upd
      by_cases c1 : 35 * t + (5 + (i + 1)) ≤ j ∧ j < 35 * t + 35
      · rw [if_pos c1, if_pos (by omega)]
      · rw [if_neg c1]
        by_cases c2 : j = 35 * t + (5 + i)
        · rw [if_pos c2, if_pos (by omega)]
        · rw [if_neg c2, if_neg (by omega)]
theorem clr8 {t : Nat} (ht : t < 10) : ∀ (d i F : Nat) (h : AH), i + d = 30 → WF h → ∃ h1, g_X8_noNights_2 (F + d + 1) h (some 74) (nI t) (nI i) = some h1 ∧ Fr h h1 [75] ∧ ∀ j, hI h1 75 j = if 244 + 30 * t + i ≤ j ∧ j < 244 + 30 * t + 30 then -1 else hI h 75 j := by
  intro d
  induction d with
  | zero =>
    intro i F h hi w
    have : i = 30 := by omega
    subst this
    refine ⟨h, ?_, Fr.rf h _, fun j => by rw [if_neg (by omega)]⟩
    rw [show F + 0 + 1 = F + 1 from rfl, g_X8_noNights_2, if_pos (by decide)]
  | succ d ih =>
    intro i F h hi w
    have c : ¬ (30 : Int32) ≤ nI i := fun z => by have := (nI_leI (a := 30) (by omega) (by omega)).mp z; omega
    have wr : stI h (some 75) (nI (244 + 30 * t + i)) (-1) = some (sI h 75 (upd (hI h 75) (244 + 30 * t + i) (-1))) := stI_w w (by decide) rfl (by show _ < 556; omega) (by decide)
    obtain ⟨h1, a1, a2, a3⟩ := ih (i + 1) F (sI h 75 (upd (hI h 75) (244 + 30 * t + i) (-1))) (by omega) ((WF_sI _ _ _).mpr w)
    refine ⟨h1, ?_, (Fr.sI h (by decide)).trans a2, fun j => ?_⟩
    · rw [g_X8_noNights_2]
      simp (disch := first | (simp only [WF_sI]; exact w) | exact (w) | decide | (simp only [shq]; omega)) only [bd_some, bd2_some, bd2_id, i10, i00, not_true_eq_false, not_false_eq_true, if_true, if_false, ↓reduceIte, gR_w, gI_w, pI_w, isO_w, ldI_w, stI_w, ldZ_w, stZ_w, lenA_w, tR, c, ix244, wr, nI_1]
      exact a1
    · rw [a3 j, sI_eq]
      unfold upd
      by_cases c1 : 244 + 30 * t + (i + 1) ≤ j ∧ j < 244 + 30 * t + 30
      · rw [if_pos c1, if_pos (by omega)]
      · rw [if_neg c1]
        by_cases c2 : j = 244 + 30 * t + i
        · rw [if_pos c2, if_pos (by omega)]
        · rw [if_neg c2, if_neg (by omega)]
theorem e6_clear {h : AH} (w : WF h) {t : Nat} (ht : t < 10) : ∃ h1, f_X6_clearNights h (some 11) (nI t) = some h1 ∧ Fr h h1 [13] ∧ ∀ j, hI h1 13 j = if 35 * t + 5 ≤ j ∧ j < 35 * t + 35 then -1 else hI h 13 j := by
  obtain ⟨F, hF⟩ := NN_ge 30 (by omega)
  have := clr7 ht 30 0 F h rfl w
  rw [← hF] at this
  exact this
theorem e8_clear {h : AH} (w : WF h) {t : Nat} (ht : t < 10) : ∃ h1, f_X8_noNights h (some 74) (nI t) = some h1 ∧ Fr h h1 [75] ∧ ∀ j, hI h1 75 j = if 244 + 30 * t ≤ j ∧ j < 244 + 30 * t + 30 then -1 else hI h 75 j := by
  obtain ⟨F, hF⟩ := NN_ge 30 (by omega)
  have := clr8 ht 30 0 F h rfl w
  rw [← hF] at this
  exact this
/-- a piece of a row kept, then that piece (and rows P that no one keeps) written over -/
theorem ck_rng {h : AH} (w : WF h) {nx sz r a m : Nat} (hx : nx < 20) (hnx : hI h 23 1 = nI nx) (hz : sz ≤ 20) (hsz : hI h 23 2 = nI sz) (hr : r ∈ rowsOk) (ham : a + m ≤ (shq r).2) :
    ∃ h1, f_X1_keep h (some 23) (some r) (nI a) (nI m) = some h1 ∧ WF h1 ∧ (∀ k, k < 23 → hI h1 k = hI h k) ∧ (∀ k, 65 ≤ k → k < 86 → hI h1 k = hI h k) ∧
      ∀ (h2 hg : AH) (P : List Nat), (∀ k, k ∈ P → 15 ≤ k ∧ k ≤ 18) → Fr h1 h2 (r :: P) → Fr h hg P → (∀ k, k ∈ P → hI h2 k = hI hg k) → (∀ j, ¬ (a ≤ j ∧ j < a + m) → hI h2 r j = hI h r j) → CK hg h2 nx sz := by
  obtain ⟨r1, r2, r3, r4, r5, r6⟩ := shq_rows r hr
  obtain ⟨h1, e1, w1, n1, s1, k1, a1, a2, p1, p2, p3, p4, p5, p6⟩ := e1_keep (a := a) (m := m) w hx hnx hz hsz hr ham
  have k23 : ∀ k, k < 23 → hI h1 k = hI h k := fun k hk => k1 k (by omega) (by omega) (fun j _ => by omega)
  have k65 : ∀ k, 65 ≤ k → k < 86 → hI h1 k = hI h k := fun k hk hk2 => k1 k (by omega) (by omega) (fun j _ => by omega)
  refine ⟨h1, e1, w1, k23, k65, fun h2 hg P hP f2 fg e2 e3 => ?_⟩
  have hr15 : ¬ (15 ≤ r ∧ r ≤ 18) := by
    have : ∀ r, r ∈ rowsOk → ¬ (15 ≤ r ∧ r ≤ 18) := by decide
    exact this r hr
  have hS2 : ∀ k, k ∈ r :: P → k < 23 := fun k hk => by
    rcases List.mem_cons.mp hk with e | e
    · omega
    · have := hP k e; omega
  have out : ∀ k, 23 ≤ k → hI h2 k = hI h1 k := fun k hk => f2.2.2.2.2 k (fun z => by have := hS2 k z; omega)
  have outg : ∀ k, 19 ≤ k → hI hg k = hI h k := fun k hk => fg.2.2.2.2 k (fun z => by have := hP k z; omega)
  have pe : ∀ j, j < 20 → PVf h2 j = PVf h1 j := fun j hj => PVf_fr w1 f2 (fun k hk => Or.inl (hS2 k hk)) hj
  have pg : ∀ j, j < 20 → PVf hg j = PVf h j := fun j hj => PVf_fr w fg (fun k hk => Or.inl (by have := hP k hk; omega)) hj
  refine ⟨WF_fr f2 w1, by rw [f2.2.2.1, fg.2.2.1]; exact n1, by rw [f2.2.2.2.1, fg.2.2.2.1]; exact s1, by rw [out 23 (by omega)]; exact a1, by rw [out 23 (by omega)]; exact a2, fun j hj e => (pe j hj).trans ((p1 j hj e).trans (pg j hj).symm), by rw [pe nx hx]; exact p2, fun k j hk => ?_, fun k hk hk2 => ?_, ?_⟩
  · rw [pe nx hx]
    unfold unp
    rw [p3]
    simp only [va_up]
    obtain ⟨rr, aa, mm, -, y1, y2, y3, y4, -, y5, y6⟩ := p2
    have em : mm = m ∧ aa = a := by
      rw [p4] at y2; rw [p5] at y3
      exact ⟨((nI_eq (by omega) (by omega)).mp y3).symm, ((nI_eq (by omega) (by omega)).mp y2).symm⟩
    by_cases e : k = r
    · subst e
      rw [if_pos rfl, p4, p5, nI_clamp (by omega), nI_clamp (by omega), fg.2.2.2.2 k (fun z => by have := hP k z; omega)]
      unfold va_cpy
      by_cases c : a ≤ j ∧ j < a + m
      · rw [if_pos c, Nat.zero_add, p6 (j - a) (by omega), show a + (j - a) = j by omega]
      · rw [if_neg c]; exact e3 j c
    · rw [if_neg e]
      by_cases c : k ∈ P
      · rw [e2 k c]
      · rw [f2.2.2.2.2 k (fun z => by rcases List.mem_cons.mp z with q | q; exact e q; exact c q), fg.2.2.2.2 k c, k23 k hk]
  · rw [out k (by omega), outg k (by omega)]; exact k65 k hk hk2
  · rw [f2.2.2.2.2 0 (fun z => by rcases List.mem_cons.mp z with q | q; (have : ∀ r, r ∈ rowsOk → r ≠ 0 := by decide); exact this r hr q.symm; have := hP 0 q; omega), fg.2.2.2.2 0 (fun z => by have := hP 0 z; omega)]; exact k23 0 (by omega)
