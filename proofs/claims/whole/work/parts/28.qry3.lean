/-! waterAt, runs -/
theorem dv_nI {a b : Nat} (ha : a < 2 ^ 30) (h0 : 0 < b) (hb : b < 2 ^ 30) : dv (nI a) (nI b) = some (nI (a / b)) := by
  unfold dv
  rw [if_pos (nI_ne0 h0 (by omega)), pk_div (by omega) h0 (by omega)]
def wi (m s d u : Nat) : Nat := (24 * d + u - m / s) / 6
theorem wi_lt {m s d u : Nat} (hd : d ≤ 29) (hu : u ≤ 23) : wi m s d u < 120 := by
  unfold wi
  have : 24 * d + u - m / s ≤ 719 := Nat.le_trans (Nat.sub_le _ _) (by omega)
  omega
theorem e4_arriving {h : AH} (w : WF h) {m s d u : Nat} (hs : 1 ≤ s) (hs2 : s ≤ 9) (e1 : hI h 2 1 = nI s) (hm : m ≤ 250) (hd : d ≤ 29) (hu : u ≤ 23) : f_X4_arriving h (some 1) (nI m) (nI d) (nI u) = some (hI h 4 (wi m s d u), h) := by
  have k1 : ldI h (some 2) 1 = some (nI s) := by rw [← e1]; exact ldI_w (i := 1) w (by decide) rfl (by decide) (by decide)
  have k2 : (if (1 : Int32) < nI s then nI s else 1) = nI s := by
    by_cases c : 1 < s
    · rw [if_pos (show (1 : Int32) < nI s from nI_lt (a := 1) c (by omega))]
    · have : s = 1 := by omega
      subst this; rfl
  have hq : m / s ≤ 250 := Nat.le_trans (Nat.div_le_self m s) hm
  have hsb : 24 * d + u - m / s ≤ 719 := Nat.le_trans (Nat.sub_le _ _) (by omega)
  have hq0 : 0 ≤ m / s := Nat.zero_le _
  have k3 : nI d * 24 + nI u = nI (24 * d + u) := by rw [show (24 : Int32) = nI 24 from rfl, pk_mul, nI_add, Nat.mul_comm]
  have k4 : (if (0 : Int32) < nI (24 * d + u) - nI (m / s) then nI (24 * d + u) - nI (m / s) else 0) = nI (24 * d + u - m / s) := by
    by_cases c : m / s ≤ 24 * d + u
    · rw [pk_sub c]
      by_cases c2 : 0 < 24 * d + u - m / s
      · rw [if_pos (show (0 : Int32) < nI _ from nI_lt (a := 0) c2 (by omega))]
      · rw [show 24 * d + u - m / s = 0 by omega]; rfl
    · have c2 := pk_sneg (a := 24 * d + u) (b := m / s) (by omega) (by omega)
      have c3 : ¬ (0 : Int32) < nI (24 * d + u) - nI (m / s) := fun z => Int32.lt_irrefl (Int32.lt_trans c2 z)
      rw [if_neg c3, show 24 * d + u - m / s = 0 by omega]; rfl
  unfold f_X4_arriving
  rw [gR_w (q := 1) (ci := 4) (j := 0) w (by decide) rfl rfl, bd_some, show tR 1 0 = some 2 from rfl, k1, bd_some, k2, dv_nI (by omega) (by omega) (by omega), bd_some, gR_w (q := 1) (ci := 4) (j := 2) w (by decide) rfl rfl, bd_some, show tR 1 2 = some 4 from rfl, k3, k4, show (6 : Int32) = nI 6 from rfl, dv_nI (by omega) (by omega) (by omega), bd_some]
  rw [ldI_w (q := 4) (i := (24 * d + u - m / s) / 6) w (by decide) rfl (by have := wi_lt (m := m) (s := s) hd hu; exact this) (by decide), bd_some]
  rfl
theorem e8_waterOf {h : AH} (w : WF h) {m s d u : Nat} (hs : 1 ≤ s) (hs2 : s ≤ 9) (e1 : hI h 75 1 = nI s) (hm : m ≤ 250) (hd : d ≤ 29) (hu : u ≤ 23) : f_X8_waterOf h (some 74) (nI m) (nI d) (nI u) = some (hI h 75 (74 + wi m s d u), h) := by
  have k1 : ldI h (some 75) 1 = some (nI s) := by rw [← e1]; exact q75 w (i := 1) (by omega)
  have hq : m / s ≤ 250 := Nat.le_trans (Nat.div_le_self m s) hm
  have hsb : 24 * d + u - m / s ≤ 719 := Nat.le_trans (Nat.sub_le _ _) (by omega)
  have hq0 : 0 ≤ m / s := Nat.zero_le _
  have k3 : 24 * nI d + nI u = nI (24 * d + u) := by rw [show (24 : Int32) = nI 24 from rfl, pk_mul, nI_add]
  have hw := wi_lt (m := m) (s := s) hd hu
  unfold f_X8_waterOf
  rw [gR_w (q := 74) (ci := 8) (j := 0) w (by decide) rfl rfl, bd_some, show tR 74 0 = some 75 from rfl, k1, bd_some, dv_nI (by omega) (by omega) (by omega), bd_some, bd_some, k3]
  by_cases c : m / s ≤ 24 * d + u
  · rw [pk_sub c, if_pos (nI_pos' (by omega)), show (6 : Int32) = nI 6 from rfl, dv_nI (by omega) (by omega) (by omega), bd_some, show 74 + nI ((24 * d + u - m / s) / 6) = nI (74 + (24 * d + u - m / s) / 6) from nI_add 74 _, q75 w (by unfold wi at hw; omega), bd_some]
    rfl
  · have c2 := pk_sneg (a := 24 * d + u) (b := m / s) (by omega) (by omega)
    have c3 : ¬ (0 : Int32) ≤ nI (24 * d + u) - nI (m / s) := Int32.not_le.mpr c2
    rw [if_neg c3, show (74 : Int32) + 0 = nI (74 + 0) from rfl, q75 w (by omega), bd_some]
    unfold wi
    rw [show (24 * d + u - m / s) / 6 = 0 by omega]
theorem op_waterAt (x y z : Int32) : OpOk (fun h => f_X7_waterAt h (some 0) x y z) (fun h => f_X8_waterAt h (some 74) x y z) := by
  intro h w r
  obtain ⟨C, r1, -, r3, -⟩ := id r
  obtain ⟨⟨en, sp, b1, b2, b3, b4, b5, b6⟩, -, -, -, rwt, -⟩ := r1
  rcases win_nI (x := x) (a := 0) (b := 250) (by omega) (by omega) with e1 | ⟨e1, m, m1, m2, rfl⟩
  · have e1' : win x 0 250 = 0 := e1
    exact fin_ok (a := fun h => f_X7_waterAt h (some 0) x y z) (b := fun h => f_X8_waterAt h (some 74) x y z) (x := -100001) w r (by show f_X7_waterAt h (some 0) x y z = _; simp (disch := first | (simp only [WF_sI]; exact w) | exact (w) | decide | (simp only [shq]; omega)) only [bd_some, bd2_some, bd2_id, i10, i00, not_true_eq_false, not_false_eq_true, if_true, if_false, ↓reduceIte, gR_w, gI_w, pI_w, isO_w, ldI_w, stI_w, ldZ_w, stZ_w, lenA_w, tR, f_X7_waterAt, e7_isMile, e1']) (fun f => by show f_X8_waterAt (sI h 0 f) (some 74) x y z = _; simp (disch := first | (simp only [WF_sI]; exact w0 w f) | exact (w0 w f) | decide | (simp only [shq]; omega)) only [bd_some, bd2_some, bd2_id, i10, i00, not_true_eq_false, not_false_eq_true, if_true, if_false, ↓reduceIte, gR_w, gI_w, pI_w, isO_w, ldI_w, stI_w, ldZ_w, stZ_w, lenA_w, tR, f_X8_waterAt, e8_isIn, e1'])
  have e1' : win (nI m) 0 250 = 1 := e1
  rcases win_nI (x := y) (a := 0) (b := 29) (by omega) (by omega) with e2 | ⟨e2, d, d1, d2, rfl⟩
  · have e2' : win y 0 29 = 0 := e2
    exact fin_ok (a := fun h => f_X7_waterAt h (some 0) (nI m) y z) (b := fun h => f_X8_waterAt h (some 74) (nI m) y z) (x := -100001) w r (by show f_X7_waterAt h (some 0) (nI m) y z = _; simp (disch := first | (simp only [WF_sI]; exact w) | exact (w) | decide | (simp only [shq]; omega)) only [bd_some, bd2_some, bd2_id, i10, i00, not_true_eq_false, not_false_eq_true, if_true, if_false, ↓reduceIte, gR_w, gI_w, pI_w, isO_w, ldI_w, stI_w, ldZ_w, stZ_w, lenA_w, tR, f_X7_waterAt, e7_isMile, e1', e7_isDay, e2']) (fun f => by show f_X8_waterAt (sI h 0 f) (some 74) (nI m) y z = _; simp (disch := first | (simp only [WF_sI]; exact w0 w f) | exact (w0 w f) | decide | (simp only [shq]; omega)) only [bd_some, bd2_some, bd2_id, i10, i00, not_true_eq_false, not_false_eq_true, if_true, if_false, ↓reduceIte, gR_w, gI_w, pI_w, isO_w, ldI_w, stI_w, ldZ_w, stZ_w, lenA_w, tR, f_X8_waterAt, e8_isIn, e1', e8_isDay, e2'])
  have e2' : win (nI d) 0 29 = 1 := e2
  rcases win_nI (x := z) (a := 0) (b := 23) (by omega) (by omega) with e3 | ⟨e3, u, u1, u2, rfl⟩
  · have e3' : win z 0 23 = 0 := e3
    exact fin_ok (a := fun h => f_X7_waterAt h (some 0) (nI m) (nI d) z) (b := fun h => f_X8_waterAt h (some 74) (nI m) (nI d) z) (x := -100001) w r (by show f_X7_waterAt h (some 0) (nI m) (nI d) z = _; simp (disch := first | (simp only [WF_sI]; exact w) | exact (w) | decide | (simp only [shq]; omega)) only [bd_some, bd2_some, bd2_id, i10, i00, not_true_eq_false, not_false_eq_true, if_true, if_false, ↓reduceIte, gR_w, gI_w, pI_w, isO_w, ldI_w, stI_w, ldZ_w, stZ_w, lenA_w, tR, f_X7_waterAt, e7_isMile, e1', e7_isDay, e2', e7_within, e3']) (fun f => by show f_X8_waterAt (sI h 0 f) (some 74) (nI m) (nI d) z = _; simp (disch := first | (simp only [WF_sI]; exact w0 w f) | exact (w0 w f) | decide | (simp only [shq]; omega)) only [bd_some, bd2_some, bd2_id, i10, i00, not_true_eq_false, not_false_eq_true, if_true, if_false, ↓reduceIte, gR_w, gI_w, pI_w, isO_w, ldI_w, stI_w, ldZ_w, stZ_w, lenA_w, tR, f_X8_waterAt, e8_isIn, e1', e8_isDay, e2', e3'])
  have e3' : win (nI u) 0 23 = 1 := e3
  obtain ⟨v, v1, v2, v3⟩ := rwt (wi m sp d u) (wi_lt d2 u2)
  refine qry_ok (a := fun h => f_X7_waterAt h (some 0) (nI m) (nI d) (nI u)) (b := fun h => f_X8_waterAt h (some 74) (nI m) (nI d) (nI u)) (v := nI v) w r ?_ ?_
  · simp (disch := first | (simp only [WF_sI]; exact w) | exact (w) | decide | (simp only [shq]; omega)) only [bd_some, bd2_some, bd2_id, i10, i00, not_true_eq_false, not_false_eq_true, if_true, if_false, ↓reduceIte, gR_w, gI_w, pI_w, isO_w, ldI_w, stI_w, ldZ_w, stZ_w, lenA_w, tR, f_X7_waterAt, e7_isMile, e1', e7_isDay, e2', e7_within, e3', e4_arriving w b2.1 b2.2 b5 m2 d2 u2, v2]
  · simp (disch := first | (simp only [WF_sI]; exact w) | exact (w) | decide | (simp only [shq]; omega)) only [bd_some, bd2_some, bd2_id, i10, i00, not_true_eq_false, not_false_eq_true, if_true, if_false, ↓reduceIte, gR_w, gI_w, pI_w, isO_w, ldI_w, stI_w, ldZ_w, stZ_w, lenA_w, tR, f_X8_waterAt, e8_isIn, e1', e8_isDay, e2', e3', e8_waterOf w b2.1 b2.2 b6 m2 d2 u2, v3]
/-- the first hour, sought by both -/
theorem hour_both {h : AH} (w : WF h) {C : CT} (R : Rd (hI h) (hI h 75) C) {q d : Nat} (hq : q < C.2.1) (hd : d ≤ 29) (lst : Int32) :
    ∀ (k i : Nat) (F G : Nat), i + k = 18 → 8 ≤ i → ∃ v, (v = -1 ∨ ∃ u, u < 18 ∧ v = nI u) ∧ g_X4_firstHour_24 (F + k + 1) h (some 1) (nI q) (nI d) lst (nI i) = some (v, h) ∧ g_X8_hourOf_31 (G + k + 1) h (some 74) (nI q) (nI d) lst (nI i) = some (v, h) := by
  obtain ⟨⟨en, sp, b1, b2, b3, b4, b5, b6⟩, -, ⟨p1, p2, p3, p4⟩, -, rwt, -⟩ := R
  obtain ⟨m, a, b, m1, m2, m3, m4, m5, m6, m7, m8⟩ := p4 q hq
  have x1 : 36 + 3 * nI q = nI (36 + 3 * q) := by rw [show (3 : Int32) = nI 3 from rfl, show (36 : Int32) = nI 36 from rfl, pk_mul, nI_add]
  have k7 : ldI h (some 7) (nI q) = some (nI m) := by rw [← m3]; exact ldI_w w (by decide) rfl (by show q < 10; omega) (by decide)
  have k9 : ldI h (some 9) (nI q) = some (nI b) := by rw [← m7]; exact ldI_w w (by decide) rfl (by show q < 10; omega) (by decide)
  have n0 : ldI h (some 75) (nI (36 + 3 * q)) = some (nI m) := by rw [← m4]; exact q75 w (by omega)
  have n2 : ldI h (some 75) (nI (36 + 3 * q) + 2) = some (nI b) := by rw [← m8, show nI (36 + 3 * q) + 2 = nI (36 + 3 * q + 2) from nI_add _ 2]; exact q75 w (by omega)
  intro k
  induction k with
  | zero =>
    intro i F G hi _
    have : i = 18 := by omega
    subst this
    refine ⟨-1, Or.inl rfl, ?_, ?_⟩
    · rw [show F + 0 + 1 = F + 1 from rfl, g_X4_firstHour_24, if_pos (by decide)]
    · rw [show G + 0 + 1 = G + 1 from rfl, g_X8_hourOf_31, if_pos (by decide)]
  | succ k ih =>
    intro i F G hi h8
    have c : ¬ (17 : Int32) < nI i := fun z => by have := (nI_ltI (a := 17) (by omega) (by omega)).mp z; omega
    obtain ⟨v, v1, v2, v3⟩ := rwt (wi m sp d i) (wi_lt hd (by omega))
    have ar : f_X4_arriving h (some 1) (nI m) (nI d) (nI i) = some (nI v, h) := by rw [e4_arriving w b2.1 b2.2 b5 (by omega) hd (by omega), v2]
    have wo : f_X8_waterOf h (some 74) (nI m) (nI d) (nI i) = some (nI v, h) := by rw [e8_waterOf w b2.1 b2.2 b6 (by omega) hd (by omega), v3]
    have s7 : g_X4_firstHour_24 (F + (k + 1) + 1) h (some 1) (nI q) (nI d) lst (nI i) = if win (nI v) lst (nI b) = 0 then g_X4_firstHour_24 (F + k + 1) h (some 1) (nI q) (nI d) lst (nI (i + 1)) else some (nI i, h) := by
      rw [g_X4_firstHour_24, if_neg c]
      simp (disch := first | (simp only [WF_sI]; exact w) | exact (w) | decide | (simp only [shq]; omega)) only [bd_some, bd2_some, bd2_id, i10, i00, not_true_eq_false, not_false_eq_true, if_true, if_false, ↓reduceIte, gR_w, gI_w, pI_w, isO_w, ldI_w, stI_w, ldZ_w, stZ_w, lenA_w, tR, k7, k9, ar, e7_within, nI_1]
      rfl
    have s8 : g_X8_hourOf_31 (G + (k + 1) + 1) h (some 74) (nI q) (nI d) lst (nI i) = if win (nI v) lst (nI b) = 0 then g_X8_hourOf_31 (G + k + 1) h (some 74) (nI q) (nI d) lst (nI (i + 1)) else some (nI i, h) := by
      rw [g_X8_hourOf_31, if_neg c]
      simp (disch := first | (simp only [WF_sI]; exact w) | exact (w) | decide | (simp only [shq]; omega)) only [bd_some, bd2_some, bd2_id, i10, i00, not_true_eq_false, not_false_eq_true, if_true, if_false, ↓reduceIte, gR_w, gI_w, pI_w, isO_w, ldI_w, stI_w, ldZ_w, stZ_w, lenA_w, tR, x1, n0, n2, wo, e8_isIn, nI_1]
      rfl
    rw [s7, s8]
    by_cases cw : win (nI v) lst (nI b) = 0
    · rw [if_pos cw, if_pos cw]
      exact ih (i + 1) F G (by omega) (by omega)
    · rw [if_neg cw, if_neg cw]
      exact ⟨nI i, Or.inr ⟨i, by omega, rfl⟩, rfl, rfl⟩
/-- the hour in which a kind runs a rapid, for both -/
theorem hour_ok {h : AH} (w : WF h) {C : CT} (R : Rd (hI h) (hI h 75) C) {q d : Nat} (hq : q < C.2.1) (hd : d ≤ 29) (kd : Int32) : ∃ v, (v = -1 ∨ ∃ u, u < 18 ∧ v = nI u) ∧ f_X4_firstHour h (some 1) (nI q) (nI d) kd = some (v, h) ∧ f_X8_hourOf h (some 74) (nI q) (nI d) kd = some (v, h) := by
  obtain ⟨-, -, ⟨p1, p2, p3, p4⟩, -⟩ := id R
  obtain ⟨m, a, b, m1, m2, m3, m4, m5, m6, m7, m8⟩ := p4 q hq
  have x1 : 36 + 3 * nI q = nI (36 + 3 * q) := by rw [show (3 : Int32) = nI 3 from rfl, show (36 : Int32) = nI 36 from rfl, pk_mul, nI_add]
  have k8 : ldI h (some 8) (nI q) = some (nI a) := by rw [← m5]; exact ldI_w w (by decide) rfl (by show q < 10; omega) (by decide)
  have n1 : ldI h (some 75) (nI (36 + 3 * q + 1)) = some (nI a) := by rw [← m6]; exact q75 w (by omega)
  obtain ⟨F, hF⟩ := NN_ge 10 (by omega)
  unfold f_X4_firstHour f_X8_hourOf j_X4_firstHour_17 j_X8_hourOf_24
  rw [gR_w (q := 1) (ci := 4) (j := 6) w (by decide) rfl rfl, bd_some, show tR 1 6 = some 8 from rfl, k8, bd_some, gR_w (q := 74) (ci := 8) (j := 0) w (by decide) rfl rfl, bd_some, show tR 74 0 = some 75 from rfl, x1, nI_1, n1, bd_some]
  by_cases c : ¬ kd = 3
  · rw [if_pos c, if_pos c]
    obtain ⟨v, v0, v1, v2⟩ := hour_both w R hq hd (nI a - 0) 10 8 F F (by omega) (by omega)
    exact ⟨v, v0, by rw [hF]; exact v1, by rw [hF]; exact v2⟩
  · rw [if_neg c, if_neg c]
    obtain ⟨v, v0, v1, v2⟩ := hour_both w R hq hd (nI a - 50) 10 8 F F (by omega) (by omega)
    exact ⟨v, v0, by rw [hF]; exact v1, by rw [hF]; exact v2⟩
theorem op_runs (x y z : Int32) : OpOk (fun h => f_X7_runs h (some 0) x y z) (fun h => f_X8_runs h (some 74) x y z) := by
  intro h w r
  obtain ⟨C, r1, -, r3, -⟩ := id r
  obtain ⟨-, -, ⟨p1, p2, p3, p4⟩, -⟩ := id r1
  have hk9 : C.2.1 < 2 ^ 30 := by omega
  have kl : ldI h (some 3) 1 = some (nI C.2.1) := by rw [← p2]; exact ldI_w (i := 1) w (by decide) rfl (by decide) (by decide)
  have p3' : ∀ f, hI (sI h 0 f) 75 3 = nI C.2.1 := fun f => by rw [sI_ne (by decide)]; exact p3
  rcases ixw_cases x (k := C.2.1) (by omega) with e1 | ⟨e1, q, hq, rfl⟩
  · exact fin_ok (a := fun h => f_X7_runs h (some 0) x y z) (b := fun h => f_X8_runs h (some 74) x y z) (x := -100001) w r (by show f_X7_runs h (some 0) x y z = _; simp (disch := first | (simp only [WF_sI]; exact w) | exact (w) | decide | (simp only [shq]; omega)) only [bd_some, bd2_some, bd2_id, i10, i00, not_true_eq_false, not_false_eq_true, if_true, if_false, ↓reduceIte, gR_w, gI_w, pI_w, isO_w, ldI_w, stI_w, ldZ_w, stZ_w, lenA_w, tR, f_X7_runs, kl, e7_within, win_ixw x hk9, e1]) (fun f => by show f_X8_runs (sI h 0 f) (some 74) x y z = _; simp (disch := first | (simp only [WF_sI]; exact w0 w f) | exact (w0 w f) | decide | (simp only [shq]; omega)) only [bd_some, bd2_some, bd2_id, i10, i00, not_true_eq_false, not_false_eq_true, if_true, if_false, ↓reduceIte, gR_w, gI_w, pI_w, isO_w, ldI_w, stI_w, ldZ_w, stZ_w, lenA_w, tR, f_X8_runs, e8_isRapid (w0 w f) (p3' f), e1])
  rcases win_nI (x := y) (a := 0) (b := 29) (by omega) (by omega) with e2 | ⟨e2, d, d1, d2, rfl⟩
  · have e2' : win y 0 29 = 0 := e2
    exact fin_ok (a := fun h => f_X7_runs h (some 0) (nI q) y z) (b := fun h => f_X8_runs h (some 74) (nI q) y z) (x := -100001) w r (by show f_X7_runs h (some 0) (nI q) y z = _; simp (disch := first | (simp only [WF_sI]; exact w) | exact (w) | decide | (simp only [shq]; omega)) only [bd_some, bd2_some, bd2_id, i10, i00, not_true_eq_false, not_false_eq_true, if_true, if_false, ↓reduceIte, gR_w, gI_w, pI_w, isO_w, ldI_w, stI_w, ldZ_w, stZ_w, lenA_w, tR, f_X7_runs, kl, e7_within, win_ixw (nI q) hk9, e1, e7_isDay, e2']) (fun f => by show f_X8_runs (sI h 0 f) (some 74) (nI q) y z = _; simp (disch := first | (simp only [WF_sI]; exact w0 w f) | exact (w0 w f) | decide | (simp only [shq]; omega)) only [bd_some, bd2_some, bd2_id, i10, i00, not_true_eq_false, not_false_eq_true, if_true, if_false, ↓reduceIte, gR_w, gI_w, pI_w, isO_w, ldI_w, stI_w, ldZ_w, stZ_w, lenA_w, tR, f_X8_runs, e8_isRapid (w0 w f) (p3' f), e1, e8_isDay, e2'])
  have e2' : win (nI d) 0 29 = 1 := e2
  rcases win_cases z 0 3 with ⟨e3, -⟩ | ⟨e3, -⟩
  · exact fin_ok (a := fun h => f_X7_runs h (some 0) (nI q) (nI d) z) (b := fun h => f_X8_runs h (some 74) (nI q) (nI d) z) (x := -100001) w r (by show f_X7_runs h (some 0) (nI q) (nI d) z = _; simp (disch := first | (simp only [WF_sI]; exact w) | exact (w) | decide | (simp only [shq]; omega)) only [bd_some, bd2_some, bd2_id, i10, i00, not_true_eq_false, not_false_eq_true, if_true, if_false, ↓reduceIte, gR_w, gI_w, pI_w, isO_w, ldI_w, stI_w, ldZ_w, stZ_w, lenA_w, tR, f_X7_runs, kl, e7_within, win_ixw (nI q) hk9, e1, e7_isDay, e2', e7_isKind, e3]) (fun f => by show f_X8_runs (sI h 0 f) (some 74) (nI q) (nI d) z = _; simp (disch := first | (simp only [WF_sI]; exact w0 w f) | exact (w0 w f) | decide | (simp only [shq]; omega)) only [bd_some, bd2_some, bd2_id, i10, i00, not_true_eq_false, not_false_eq_true, if_true, if_false, ↓reduceIte, gR_w, gI_w, pI_w, isO_w, ldI_w, stI_w, ldZ_w, stZ_w, lenA_w, tR, f_X8_runs, e8_isRapid (w0 w f) (p3' f), e1, e8_isDay, e2', e8_isIn, e3])
  obtain ⟨v, -, v1, v2⟩ := hour_ok w r1 hq d2 z
  refine qry_ok (a := fun h => f_X7_runs h (some 0) (nI q) (nI d) z) (b := fun h => f_X8_runs h (some 74) (nI q) (nI d) z) (v := v) w r ?_ ?_
  · simp (disch := first | (simp only [WF_sI]; exact w) | exact (w) | decide | (simp only [shq]; omega)) only [bd_some, bd2_some, bd2_id, i10, i00, not_true_eq_false, not_false_eq_true, if_true, if_false, ↓reduceIte, gR_w, gI_w, pI_w, isO_w, ldI_w, stI_w, ldZ_w, stZ_w, lenA_w, tR, f_X7_runs, kl, e7_within, win_ixw (nI q) hk9, e1, e7_isDay, e2', e7_isKind, e3, v1]
  · simp (disch := first | (simp only [WF_sI]; exact w) | exact (w) | decide | (simp only [shq]; omega)) only [bd_some, bd2_some, bd2_id, i10, i00, not_true_eq_false, not_false_eq_true, if_true, if_false, ↓reduceIte, gR_w, gI_w, pI_w, isO_w, ldI_w, stI_w, ldZ_w, stZ_w, lenA_w, tR, f_X8_runs, e8_isRapid w p3, e1, e8_isDay, e2', e8_isIn, e3, v2]
