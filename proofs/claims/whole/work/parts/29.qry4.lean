/-! who, hurt, near -/
/-- the first trip at a camp on a day, but one, sought by both; ex: the one left out, or -1 -/
theorem other_both {h g : AH} (w : WF h) (wg : WF g) (hg : hI g 75 = hI h 75) {C : CT} (R : Rd (hI h) (hI h 75) C) {c d : Nat} (hc : c < 14) (hd : d ≤ 29) :
    ∀ (k i : Nat) (F G : Nat), i + k = C.2.2.2.1 → ∃ v, (v = -1 ∨ ∃ u, u < C.2.2.2.1 ∧ v = nI u) ∧ g_X6_guest_2 (F + k + 1) h (some 11) (nI c) (nI d) (nI i) = some (v, h) ∧ g_X8_other_3 (G + k + 1) g (some 74) (nI c) (nI d) (-1) (nI i) = some (v, g) := by
  obtain ⟨-, -, -, -, -, ⟨t1, t2, t3, t4⟩, -⟩ := R
  have m5 : ldI g (some 75) 5 = some (nI C.2.2.2.1) := by rw [← t3, ← hg]; exact q75 wg (i := 5) (by omega)
  intro k
  induction k with
  | zero =>
    intro i F G hi
    have hi2 : i = C.2.2.2.1 := by omega
    have c1 : nI C.2.2.2.1 ≤ nI i := nI_le (by omega) (by omega)
    refine ⟨-1, Or.inl rfl, ?_, ?_⟩
    · rw [show F + 0 + 1 = F + 1 from rfl, g_X6_guest_2]
      simp (disch := first | (simp only [WF_sI]; exact w) | exact (w) | decide | (simp only [shq]; omega)) only [bd_some, bd2_some, bd2_id, i10, i00, not_true_eq_false, not_false_eq_true, if_true, if_false, ↓reduceIte, gR_w, gI_w, pI_w, isO_w, ldI_w, stI_w, ldZ_w, stZ_w, lenA_w, tR, e7_size w, t2, c1]
    · rw [show G + 0 + 1 = G + 1 from rfl, g_X8_other_3]
      simp (disch := first | (simp only [WF_sI]; exact wg) | exact (wg) | decide | (simp only [shq]; omega)) only [bd_some, bd2_some, bd2_id, i10, i00, not_true_eq_false, not_false_eq_true, if_true, if_false, ↓reduceIte, gR_w, gI_w, pI_w, isO_w, ldI_w, stI_w, ldZ_w, stZ_w, lenA_w, tR, m5, c1]
  | succ k ih =>
    intro i F G hi
    have c1 : ¬ nI C.2.2.2.1 ≤ nI i := fun z => by have := (nI_leI (by omega) (by omega)).mp z; omega
    have c2 : ¬ nI i = -1 := ne_m1 (by omega)
    obtain ⟨-, -, g3⟩ := t4 i (by omega)
    obtain ⟨g4, -⟩ := g3 d (by omega)
    have rd : f_X6_read h (some 11) (nI i) (5 + nI d) = some (hI h 13 (35 * i + (5 + d)), h) := by
      rw [show 5 + nI d = nI (5 + d) from nI_add 5 d]; exact e6_read w (by omega)
    have md : ldI g (some 75) (nI (244 + 30 * i + d)) = some (hI h 13 (35 * i + (5 + d))) := by rw [← g4, ← hg]; exact q75 wg (by omega)
    have s7 : g_X6_guest_2 (F + (k + 1) + 1) h (some 11) (nI c) (nI d) (nI i) = if ¬ hI h 13 (35 * i + (5 + d)) = nI c then g_X6_guest_2 (F + k + 1) h (some 11) (nI c) (nI d) (nI (i + 1)) else some (nI i, h) := by
      rw [g_X6_guest_2]
      simp (disch := first | (simp only [WF_sI]; exact w) | exact (w) | decide | (simp only [shq]; omega)) only [bd_some, bd2_some, bd2_id, i10, i00, not_true_eq_false, not_false_eq_true, if_true, if_false, ↓reduceIte, gR_w, gI_w, pI_w, isO_w, ldI_w, stI_w, ldZ_w, stZ_w, lenA_w, tR, e7_size w, t2, c1, rd, nI_1]
      rfl
    have s8 : g_X8_other_3 (G + (k + 1) + 1) g (some 74) (nI c) (nI d) (-1) (nI i) = if ¬ hI h 13 (35 * i + (5 + d)) = nI c then g_X8_other_3 (G + k + 1) g (some 74) (nI c) (nI d) (-1) (nI (i + 1)) else some (nI i, g) := by
      rw [g_X8_other_3]
      simp (disch := first | (simp only [WF_sI]; exact wg) | exact (wg) | decide | (simp only [shq]; omega)) only [bd_some, bd2_some, bd2_id, i10, i00, not_true_eq_false, not_false_eq_true, if_true, if_false, ↓reduceIte, gR_w, gI_w, pI_w, isO_w, ldI_w, stI_w, ldZ_w, stZ_w, lenA_w, tR, m5, c1, c2, ix244, md, nI_1]
      rfl
    rw [s7, s8]
    by_cases cw : ¬ hI h 13 (35 * i + (5 + d)) = nI c
    · rw [if_pos cw, if_pos cw]
      exact ih (i + 1) F G (by omega)
    · rw [if_neg cw, if_neg cw]
      exact ⟨nI i, Or.inr ⟨i, by omega, rfl⟩, rfl, rfl⟩
theorem op_who (x y : Int32) : OpOk (fun h => f_X7_who h (some 0) x y) (fun h => f_X8_who h (some 74) x y) := by
  intro h w r
  obtain ⟨C, r1, -, r3, -⟩ := id r
  obtain ⟨-, ⟨c1, c2, c3, -⟩, -, -, -, ⟨t1, -⟩, -⟩ := id r1
  have h100 : C.1 ≤ 100 := by omega
  have c3' : ∀ f, hI (sI h 0 f) 75 2 = nI C.1 := fun f => by rw [sI_ne (by decide)]; exact c3
  rcases ixw_cases x (k := C.1) (by omega) with e | ⟨e, c, hc, rfl⟩
  · exact fin_ok (a := fun h => f_X7_who h (some 0) x y) (b := fun h => f_X8_who h (some 74) x y) (x := -100001) w r (by show f_X7_who h (some 0) x y = _; simp (disch := first | (simp only [WF_sI]; exact w) | exact (w) | decide | (simp only [shq]; omega)) only [bd_some, bd2_some, bd2_id, i10, i00, not_true_eq_false, not_false_eq_true, if_true, if_false, ↓reduceIte, gR_w, gI_w, pI_w, isO_w, ldI_w, stI_w, ldZ_w, stZ_w, lenA_w, tR, f_X7_who, e7_isCamp w c2 h100, e]) (fun f => by show f_X8_who (sI h 0 f) (some 74) x y = _; simp (disch := first | (simp only [WF_sI]; exact w0 w f) | exact (w0 w f) | decide | (simp only [shq]; omega)) only [bd_some, bd2_some, bd2_id, i10, i00, not_true_eq_false, not_false_eq_true, if_true, if_false, ↓reduceIte, gR_w, gI_w, pI_w, isO_w, ldI_w, stI_w, ldZ_w, stZ_w, lenA_w, tR, f_X8_who, e8_isCamp (w0 w f) (c3' f), e])
  rcases win_nI (x := y) (a := 0) (b := 29) (by omega) (by omega) with e2 | ⟨e2, d, d1, d2, rfl⟩
  · have e2' : win y 0 29 = 0 := e2
    exact fin_ok (a := fun h => f_X7_who h (some 0) (nI c) y) (b := fun h => f_X8_who h (some 74) (nI c) y) (x := -100001) w r (by show f_X7_who h (some 0) (nI c) y = _; simp (disch := first | (simp only [WF_sI]; exact w) | exact (w) | decide | (simp only [shq]; omega)) only [bd_some, bd2_some, bd2_id, i10, i00, not_true_eq_false, not_false_eq_true, if_true, if_false, ↓reduceIte, gR_w, gI_w, pI_w, isO_w, ldI_w, stI_w, ldZ_w, stZ_w, lenA_w, tR, f_X7_who, e7_isCamp w c2 h100, e, e7_isDay, e2']) (fun f => by show f_X8_who (sI h 0 f) (some 74) (nI c) y = _; simp (disch := first | (simp only [WF_sI]; exact w0 w f) | exact (w0 w f) | decide | (simp only [shq]; omega)) only [bd_some, bd2_some, bd2_id, i10, i00, not_true_eq_false, not_false_eq_true, if_true, if_false, ↓reduceIte, gR_w, gI_w, pI_w, isO_w, ldI_w, stI_w, ldZ_w, stZ_w, lenA_w, tR, f_X8_who, e8_isCamp (w0 w f) (c3' f), e, e8_isDay, e2'])
  have e2' : win (nI d) 0 29 = 1 := e2
  obtain ⟨F, hF⟩ := NN_ge C.2.2.2.1 (by omega)
  obtain ⟨v, v0, v1, v2⟩ := other_both w w rfl r1 (c := c) (by omega) d2 C.2.2.2.1 0 F F (by omega)
  rw [← hF] at v1 v2
  have g7 : f_X6_guest h (some 11) (nI c) (nI d) = some (v, h) := v1
  have g8 : f_X8_other h (some 74) (nI c) (nI d) (-1) = some (v, h) := v2
  rcases v0 with rfl | ⟨u, hu, rfl⟩
  · have n1 : ¬ (0 : Int32) ≤ -1 := by decide
    have g8' : ∀ f, f_X8_other (sI h 0 f) (some 74) (nI c) (nI d) (-1) = some (-1, sI h 0 f) := by
      intro f
      obtain ⟨v', -, y1, y2⟩ := other_both w (w0 w f) (sI_ne (by decide)) r1 (c := c) (by omega) d2 C.2.2.2.1 0 F F (by omega)
      rw [← hF] at y1 y2
      have e9 : v' = -1 := (ret_s (y1.symm.trans v1)).1
      rw [e9] at y2
      exact y2
    exact fin_ok (a := fun h => f_X7_who h (some 0) (nI c) (nI d)) (b := fun h => f_X8_who h (some 74) (nI c) (nI d)) (x := -100006) w r (by show f_X7_who h (some 0) (nI c) (nI d) = _; simp (disch := first | (simp only [WF_sI]; exact w) | exact (w) | decide | (simp only [shq]; omega)) only [bd_some, bd2_some, bd2_id, i10, i00, not_true_eq_false, not_false_eq_true, if_true, if_false, ↓reduceIte, gR_w, gI_w, pI_w, isO_w, ldI_w, stI_w, ldZ_w, stZ_w, lenA_w, tR, f_X7_who, e7_isCamp w c2 h100, e, e7_isDay, e2', g7]) (fun f => by show f_X8_who (sI h 0 f) (some 74) (nI c) (nI d) = _; simp (disch := first | (simp only [WF_sI]; exact w0 w f) | exact (w0 w f) | decide | (simp only [shq]; omega)) only [bd_some, bd2_some, bd2_id, i10, i00, not_true_eq_false, not_false_eq_true, if_true, if_false, ↓reduceIte, gR_w, gI_w, pI_w, isO_w, ldI_w, stI_w, ldZ_w, stZ_w, lenA_w, tR, f_X8_who, e8_isCamp (w0 w f) (c3' f), e, e8_isDay, e2', g8' f, n1])
  · have n2 : ¬ nI u = -1 := ne_m1 (by omega)
    have n3 : (0 : Int32) ≤ nI u := nI_pos' (by omega)
    refine qry_ok (a := fun h => f_X7_who h (some 0) (nI c) (nI d)) (b := fun h => f_X8_who h (some 74) (nI c) (nI d)) (v := nI u) w r ?_ ?_
    · simp (disch := first | (simp only [WF_sI]; exact w) | exact (w) | decide | (simp only [shq]; omega)) only [bd_some, bd2_some, bd2_id, i10, i00, not_true_eq_false, not_false_eq_true, if_true, if_false, ↓reduceIte, gR_w, gI_w, pI_w, isO_w, ldI_w, stI_w, ldZ_w, stZ_w, lenA_w, tR, f_X7_who, e7_isCamp w c2 h100, e, e7_isDay, e2', g7, n2]
    · simp (disch := first | (simp only [WF_sI]; exact w) | exact (w) | decide | (simp only [shq]; omega)) only [bd_some, bd2_some, bd2_id, i10, i00, not_true_eq_false, not_false_eq_true, if_true, if_false, ↓reduceIte, gR_w, gI_w, pI_w, isO_w, ldI_w, stI_w, ldZ_w, stZ_w, lenA_w, tR, f_X8_who, e8_isCamp w c3, e, e8_isDay, e2', g8, n3]
/-- the way out, counted by both: what stands in the desk and in the reference at the same landing -/
def best (v : Int32) (b : Int32) : Prop := (v = 15001 ∧ b = -1) ∨ ∃ k : Nat, k ≤ 15000 ∧ v = nI k ∧ b = nI k
theorem out_both {h g : AH} (w : WF h) (wg : WF g) (hg : hI g 75 = hI h 75) {C : CT} (R : Rd (hI h) (hI h 75) C) {m up : Nat} (hm : m ≤ 250) (hu : up = 20 ∨ up = 60) :
    ∀ (k i : Nat) (F G : Nat) (v b : Int32), i + k = C.2.2.1 → best v b → ∃ v2 b2, best v2 b2 ∧ g_X4_minutesOut_20 (F + k + 1) h (some 1) (nI m) (nI up) v (nI i) = some (v2, h) ∧ g_X8_hurt_58 (G + k + 1) g (some 74) (nI m) (nI up) b (nI i) = if 0 ≤ b2 then some (b2, g) else f_X8_finding g (some 74) (-100006) := by
  obtain ⟨⟨en, sp, b1, b2, b3, b4, b5, b6⟩, -, -, ⟨l1, l2, l3, l4⟩, -⟩ := R
  have m4 : ldI g (some 75) 4 = some (nI C.2.2.1) := by rw [← l3, ← hg]; exact q75 wg (i := 4) (by omega)
  have m0 : ldI g (some 75) 0 = some (nI en) := by rw [← b4, ← hg]; exact q75 wg (i := 0) (by omega)
  have k2 : ldI h (some 3) 2 = some (nI C.2.2.1) := by rw [← l2]; exact ldI_w (i := 2) w (by decide) rfl (by decide) (by decide)
  have k0 : ldI h (some 2) 0 = some (nI en) := by rw [← b3]; exact ldI_w (i := 0) w (by decide) rfl (by decide) (by decide)
  intro k
  induction k with
  | zero =>
    intro i F G v b hi hb
    have c1 : nI C.2.2.1 ≤ nI i := nI_le (by omega) (by omega)
    refine ⟨v, b, hb, ?_, ?_⟩
    · rw [show F + 0 + 1 = F + 1 from rfl, g_X4_minutesOut_20]
      simp (disch := first | (simp only [WF_sI]; exact w) | exact (w) | decide | (simp only [shq]; omega)) only [bd_some, bd2_some, bd2_id, i10, i00, not_true_eq_false, not_false_eq_true, if_true, if_false, ↓reduceIte, gR_w, gI_w, pI_w, isO_w, ldI_w, stI_w, ldZ_w, stZ_w, lenA_w, tR, k2, c1]
    · rw [show G + 0 + 1 = G + 1 from rfl, g_X8_hurt_58]
      simp (disch := first | (simp only [WF_sI]; exact wg) | exact (wg) | decide | (simp only [shq]; omega)) only [bd_some, bd2_some, bd2_id, i10, i00, not_true_eq_false, not_false_eq_true, if_true, if_false, ↓reduceIte, gR_w, gI_w, pI_w, isO_w, ldI_w, stI_w, ldZ_w, stZ_w, lenA_w, tR, m4, c1]
  | succ k ih =>
    intro i F G v b hi hb
    have c1 : ¬ nI C.2.2.1 ≤ nI i := fun z => by have := (nI_leI (by omega) (by omega)).mp z; omega
    obtain ⟨q, q1, q2, q3⟩ := l4 i (by omega)
    have kl : ldI h (some 10) (nI i) = some (nI q) := by rw [← q2]; exact ldI_w w (by decide) rfl (by show i < 8; omega) (by decide)
    have ml : ldI g (some 75) (66 + nI i) = some (nI q) := by rw [← q3, ← hg, show 66 + nI i = nI (66 + i) from nI_add 66 i]; exact q75 wg (by omega)
    -- the minutes to this landing
    obtain ⟨d, hd, e7, e8⟩ : ∃ d : Nat, d ≤ 15000 ∧ (if nI q - nI m < 0 then (-(nI q - nI m)) * nI up else (nI q - nI m) * 12) = nI d ∧ (if nI q < nI m then nI up * (nI m - nI q) else 12 * (nI q - nI m)) = nI d := by
      by_cases c : q < m
      · have n1 := pk_sneg (a := q) (b := m) (by omega) c
        have n2 : nI q < nI m := nI_lt c (by omega)
        have n3 : -(nI q - nI m) = nI (m - q) := by rw [← pk_sub (by omega : q ≤ m), Int32.neg_sub]
        refine ⟨up * (m - q), ?_, ?_, ?_⟩
        · rcases hu with rfl | rfl <;> omega
        · rw [if_pos n1, n3, pk_mul, Nat.mul_comm]
        · rw [if_pos n2, pk_sub (by omega : q ≤ m), pk_mul]
      · have n2 : ¬ nI q < nI m := nI_nlt (by omega) (by omega)
        have n1 : ¬ nI q - nI m < 0 := by rw [pk_sub (by omega : m ≤ q)]; exact nI_pos (by omega)
        refine ⟨12 * (q - m), by omega, ?_, ?_⟩
        · rw [if_neg n1, pk_sub (by omega : m ≤ q), show (12 : Int32) = nI 12 from rfl, pk_mul, Nat.mul_comm]
        · rw [if_neg n2, pk_sub (by omega : m ≤ q), show (12 : Int32) = nI 12 from rfl, pk_mul]
    have s7 : g_X4_minutesOut_20 (F + (k + 1) + 1) h (some 1) (nI m) (nI up) v (nI i) = if nI en ≤ nI q then g_X4_minutesOut_20 (F + k + 1) h (some 1) (nI m) (nI up) v (nI (i + 1)) else g_X4_minutesOut_20 (F + k + 1) h (some 1) (nI m) (nI up) (if nI d < v then nI d else v) (nI (i + 1)) := by
      rw [← e7, g_X4_minutesOut_20]
      simp (disch := first | (simp only [WF_sI]; exact w) | exact (w) | decide | (simp only [shq]; omega)) only [bd_some, bd2_some, bd2_id, i10, i00, not_true_eq_false, not_false_eq_true, if_true, if_false, ↓reduceIte, gR_w, gI_w, pI_w, isO_w, ldI_w, stI_w, ldZ_w, stZ_w, lenA_w, tR, k2, c1, kl, k0, nI_1, j_X4_minutesOut_78]
      by_cases cq : nI en ≤ nI q
      · rw [if_pos cq, if_pos cq]; rfl
      · rw [if_neg cq, if_neg cq]
        by_cases cn : nI q - nI m < 0
        · rw [if_pos cn, if_pos cn]; rfl
        · rw [if_neg cn, if_neg cn]; rfl
    have s8 : g_X8_hurt_58 (G + (k + 1) + 1) g (some 74) (nI m) (nI up) b (nI i) = if nI en ≤ nI q then g_X8_hurt_58 (G + k + 1) g (some 74) (nI m) (nI up) b (nI (i + 1)) else g_X8_hurt_58 (G + k + 1) g (some 74) (nI m) (nI up) (if b < 0 then nI d else if b ≤ nI d then b else nI d) (nI (i + 1)) := by
      have jj : ∀ y : Int32, j_X8_hurt_104 (fun h x0 x2 x4 x5 x6 => g_X8_hurt_58 (G + (k + 1)) h x0 x2 x4 x5 x6) g (some 74) (nI m) (nI up) b (nI i) (nI q) y = if nI en ≤ nI q then g_X8_hurt_58 (G + k + 1) g (some 74) (nI m) (nI up) b (nI (i + 1)) else g_X8_hurt_58 (G + k + 1) g (some 74) (nI m) (nI up) (if b < 0 then y else if b ≤ y then b else y) (nI (i + 1)) := by
        intro y
        simp (disch := first | (simp only [WF_sI]; exact wg) | exact (wg) | decide | (simp only [shq]; omega)) only [bd_some, bd2_some, bd2_id, i10, i00, not_true_eq_false, not_false_eq_true, if_true, if_false, ↓reduceIte, gR_w, gI_w, pI_w, isO_w, ldI_w, stI_w, ldZ_w, stZ_w, lenA_w, tR, j_X8_hurt_104, m0, j_X8_hurt_134, j_X8_hurt_129, nI_1]
        by_cases cq : nI en ≤ nI q
        · rw [if_pos cq, if_pos cq]; rfl
        · rw [if_neg cq, if_neg cq]
          by_cases cb : b < 0
          · rw [if_pos cb, if_pos cb]; rfl
          · rw [if_neg cb, if_neg cb]
            by_cases cb2 : b ≤ y
            · rw [if_pos cb2, if_pos cb2]; rfl
            · rw [if_neg cb2, if_neg cb2]; rfl
      rw [← e8, g_X8_hurt_58]
      simp (disch := first | (simp only [WF_sI]; exact wg) | exact (wg) | decide | (simp only [shq]; omega)) only [bd_some, bd2_some, bd2_id, i10, i00, not_true_eq_false, not_false_eq_true, if_true, if_false, ↓reduceIte, gR_w, gI_w, pI_w, isO_w, ldI_w, stI_w, ldZ_w, stZ_w, lenA_w, tR, m4, c1, ml]
      by_cases cn : nI q < nI m
      · rw [if_pos cn, if_pos cn, jj]
      · rw [if_neg cn, if_neg cn, jj]
    rw [s7, s8]
    by_cases cq : nI en ≤ nI q
    · rw [if_pos cq, if_pos cq]
      exact ih (i + 1) F G v b (by omega) hb
    · rw [if_neg cq, if_neg cq]
      refine ih (i + 1) F G _ _ (by omega) ?_
      rcases hb with ⟨rfl, rfl⟩ | ⟨z, hz, rfl, rfl⟩
      · refine Or.inr ⟨d, hd, ?_, ?_⟩
        · rw [if_pos (show nI d < 15001 from nI_lt (b := 15001) (by omega) (by omega))]
        · rw [if_pos (by decide)]
      · have n0 : ¬ nI z < 0 := nI_pos (by omega)
        by_cases cz : d < z
        · refine Or.inr ⟨d, hd, ?_, ?_⟩
          · rw [if_pos (nI_lt cz (by omega))]
          · rw [if_neg n0, if_neg (nI_ge cz (by omega))]
        · refine Or.inr ⟨z, hz, ?_, ?_⟩
          · rw [if_neg (nI_nlt (by omega) (by omega))]
          · rw [if_neg n0, if_pos (nI_le (by omega) (by omega))]
theorem op_hurt (x y : Int32) : OpOk (fun h => f_X7_hurt h (some 0) x y) (fun h => f_X8_hurt h (some 74) x y) := by
  intro h w r
  obtain ⟨C, r1, -, r3, -⟩ := id r
  obtain ⟨-, -, -, ⟨l1, -⟩, -, ⟨t1, t2, t3, t4⟩, -⟩ := id r1
  have h100 : C.2.2.2.1 ≤ 100 := by omega
  have t3' : ∀ f, hI (sI h 0 f) 75 5 = nI C.2.2.2.1 := fun f => by rw [sI_ne (by decide)]; exact t3
  rcases ixw_cases x (k := C.2.2.2.1) (by omega) with e | ⟨e, t, ht, rfl⟩
  · exact fin_ok (a := fun h => f_X7_hurt h (some 0) x y) (b := fun h => f_X8_hurt h (some 74) x y) (x := -100001) w r (by show f_X7_hurt h (some 0) x y = _; simp (disch := first | (simp only [WF_sI]; exact w) | exact (w) | decide | (simp only [shq]; omega)) only [bd_some, bd2_some, bd2_id, i10, i00, not_true_eq_false, not_false_eq_true, if_true, if_false, ↓reduceIte, gR_w, gI_w, pI_w, isO_w, ldI_w, stI_w, ldZ_w, stZ_w, lenA_w, tR, f_X7_hurt, e7_isTrip w t2 h100, e]) (fun f => by show f_X8_hurt (sI h 0 f) (some 74) x y = _; simp (disch := first | (simp only [WF_sI]; exact w0 w f) | exact (w0 w f) | decide | (simp only [shq]; omega)) only [bd_some, bd2_some, bd2_id, i10, i00, not_true_eq_false, not_false_eq_true, if_true, if_false, ↓reduceIte, gR_w, gI_w, pI_w, isO_w, ldI_w, stI_w, ldZ_w, stZ_w, lenA_w, tR, f_X8_hurt, e8_isTrip (w0 w f) (t3' f), e])
  rcases win_nI (x := y) (a := 0) (b := 250) (by omega) (by omega) with e2 | ⟨e2, m, m1, m2, rfl⟩
  · have e2' : win y 0 250 = 0 := e2
    exact fin_ok (a := fun h => f_X7_hurt h (some 0) (nI t) y) (b := fun h => f_X8_hurt h (some 74) (nI t) y) (x := -100001) w r (by show f_X7_hurt h (some 0) (nI t) y = _; simp (disch := first | (simp only [WF_sI]; exact w) | exact (w) | decide | (simp only [shq]; omega)) only [bd_some, bd2_some, bd2_id, i10, i00, not_true_eq_false, not_false_eq_true, if_true, if_false, ↓reduceIte, gR_w, gI_w, pI_w, isO_w, ldI_w, stI_w, ldZ_w, stZ_w, lenA_w, tR, f_X7_hurt, e7_isTrip w t2 h100, e, e7_isMile, e2']) (fun f => by show f_X8_hurt (sI h 0 f) (some 74) (nI t) y = _; simp (disch := first | (simp only [WF_sI]; exact w0 w f) | exact (w0 w f) | decide | (simp only [shq]; omega)) only [bd_some, bd2_some, bd2_id, i10, i00, not_true_eq_false, not_false_eq_true, if_true, if_false, ↓reduceIte, gR_w, gI_w, pI_w, isO_w, ldI_w, stI_w, ldZ_w, stZ_w, lenA_w, tR, f_X8_hurt, e8_isTrip (w0 w f) (t3' f), e, e8_isIn, e2'])
  have e2' : win (nI m) 0 250 = 1 := e2
  obtain ⟨⟨k, -, -, -, -, k1, -, -, -, -, k2, -⟩, g2, -⟩ := t4 t ht
  have rd : f_X6_read h (some 11) (nI t) 0 = some (nI k, h) := by rw [← k2]; exact e6_read (j := 0) w (by omega)
  have md : ∀ g, WF g → hI g 75 = hI h 75 → f_X8_told g (some 74) (nI t) 0 = some (nI k, g) := fun g wg hg => by
    rw [show (0 : Int32) = nI 0 from rfl, e8_told wg (by omega), hg, g2 0 (by omega), k2]
  obtain ⟨up, hup, z7, z8⟩ : ∃ up : Nat, (up = 20 ∨ up = 60) ∧ (f_X7_hurt h (some 0) (nI t) (nI m) = bd2 (g_X4_minutesOut_20 NN h (some 1) (nI m) (nI up) 15001 0) fun v g => if ¬ v = 15001 then some (v, g) else f_X7_finding g (some 0) (-100006)) ∧ ∀ g, WF g → hI g 75 = hI h 75 → f_X8_hurt g (some 74) (nI t) (nI m) = g_X8_hurt_58 NN g (some 74) (nI m) (nI up) (-1) 0 := by
    have fin7 : ∀ up : Int32, ∀ q : Int32, (f_X4_minutesOut h (some 1) (nI m) q = g_X4_minutesOut_20 NN h (some 1) (nI m) up 15001 0) → (∀ v g, g_X4_minutesOut_20 NN h (some 1) (nI m) up 15001 0 = some (v, g) → WF g) → j_X7_hurt_52 h (some 0) (some 1) (nI m) q = bd2 (g_X4_minutesOut_20 NN h (some 1) (nI m) up 15001 0) fun v g => if ¬ v = 15001 then some (v, g) else f_X7_finding g (some 0) (-100006) := by
      intro up q e5 wf
      unfold j_X7_hurt_52
      rw [isO_w (q := 1) (ci := 4) w (by decide) rfl, bd_some, e5]
      cases hc : g_X4_minutesOut_20 NN h (some 1) (nI m) up 15001 0 with
      | none => rfl
      | some p =>
        obtain ⟨v, g⟩ := p
        rw [bd2_some, bd2_some, isO_w (q := 0) (ci := 7) (wf v g hc) (by decide) rfl, bd_some, bd2_id]
    have wf : ∀ up : Nat, (up = 20 ∨ up = 60) → ∀ v g, g_X4_minutesOut_20 NN h (some 1) (nI m) (nI up) 15001 0 = some (v, g) → WF g := by
      intro up hu v g hh
      obtain ⟨F, hF⟩ := NN_ge C.2.2.1 (by omega)
      obtain ⟨v2, b2, -, y1, -⟩ := out_both w w rfl r1 m2 hu C.2.2.1 0 F F 15001 (-1) (by omega) (Or.inl ⟨rfl, rfl⟩)
      rw [← hF] at y1
      have := (ret_s (hh.symm.trans y1)).2
      rw [this]; exact w
    have o20 : f_X4_minutesOut h (some 1) (nI m) 1 = g_X4_minutesOut_20 NN h (some 1) (nI m) (nI 20) 15001 0 := by unfold f_X4_minutesOut; rw [if_neg (by decide)]; rfl
    have o60 : f_X4_minutesOut h (some 1) (nI m) 0 = g_X4_minutesOut_20 NN h (some 1) (nI m) (nI 60) 15001 0 := by unfold f_X4_minutesOut; rw [if_pos rfl]; rfl
    by_cases ck : k = 1 ∨ k = 3
    · refine ⟨20, Or.inl rfl, ?_, fun g wg hg => ?_⟩
      · rw [← fin7 _ 1 o20 (wf 20 (Or.inl rfl))]
        rcases ck with rfl | rfl
        · simp (disch := first | (simp only [WF_sI]; exact w) | exact (w) | decide | (simp only [shq]; omega)) only [bd_some, bd2_some, bd2_id, i10, i00, not_true_eq_false, not_false_eq_true, if_true, if_false, ↓reduceIte, gR_w, gI_w, pI_w, isO_w, ldI_w, stI_w, ldZ_w, stZ_w, lenA_w, tR, f_X7_hurt, e7_isTrip w t2 h100, e, e7_isMile, e2', rd, j_X7_hurt_47]
          rfl
        · simp (disch := first | (simp only [WF_sI]; exact w) | exact (w) | decide | (simp only [shq]; omega)) only [bd_some, bd2_some, bd2_id, i10, i00, not_true_eq_false, not_false_eq_true, if_true, if_false, ↓reduceIte, gR_w, gI_w, pI_w, isO_w, ldI_w, stI_w, ldZ_w, stZ_w, lenA_w, tR, f_X7_hurt, e7_isTrip w t2 h100, e, e7_isMile, e2', rd, j_X7_hurt_47]
          rfl
      · have mg := md g wg hg
        have tg : hI g 75 5 = nI C.2.2.2.1 := by rw [hg]; exact t3
        rcases ck with rfl | rfl
        · simp (disch := first | (simp only [WF_sI]; exact wg) | exact (wg) | decide | (simp only [shq]; omega)) only [bd_some, bd2_some, bd2_id, i10, i00, not_true_eq_false, not_false_eq_true, if_true, if_false, ↓reduceIte, gR_w, gI_w, pI_w, isO_w, ldI_w, stI_w, ldZ_w, stZ_w, lenA_w, tR, f_X8_hurt, e8_isTrip wg tg, e, e8_isIn, e2', mg, j_X8_hurt_43, j_X8_hurt_50]
          rfl
        · simp (disch := first | (simp only [WF_sI]; exact wg) | exact (wg) | decide | (simp only [shq]; omega)) only [bd_some, bd2_some, bd2_id, i10, i00, not_true_eq_false, not_false_eq_true, if_true, if_false, ↓reduceIte, gR_w, gI_w, pI_w, isO_w, ldI_w, stI_w, ldZ_w, stZ_w, lenA_w, tR, f_X8_hurt, e8_isTrip wg tg, e, e8_isIn, e2', mg, j_X8_hurt_43, j_X8_hurt_50]
          rfl
    · have n1 : ¬ nI k = 1 := fun z => ck (Or.inl ((nI_eq (b := 1) (by omega) (by omega)).mp z))
      have n3 : ¬ nI k = 3 := fun z => ck (Or.inr ((nI_eq (b := 3) (by omega) (by omega)).mp z))
      refine ⟨60, Or.inr rfl, ?_, fun g wg hg => ?_⟩
      · rw [← fin7 _ 0 o60 (wf 60 (Or.inr rfl))]
        simp (disch := first | (simp only [WF_sI]; exact w) | exact (w) | decide | (simp only [shq]; omega)) only [bd_some, bd2_some, bd2_id, i10, i00, not_true_eq_false, not_false_eq_true, if_true, if_false, ↓reduceIte, gR_w, gI_w, pI_w, isO_w, ldI_w, stI_w, ldZ_w, stZ_w, lenA_w, tR, f_X7_hurt, e7_isTrip w t2 h100, e, e7_isMile, e2', rd, n1, n3]
      · have mg := md g wg hg
        have tg : hI g 75 5 = nI C.2.2.2.1 := by rw [hg]; exact t3
        simp (disch := first | (simp only [WF_sI]; exact wg) | exact (wg) | decide | (simp only [shq]; omega)) only [bd_some, bd2_some, bd2_id, i10, i00, not_true_eq_false, not_false_eq_true, if_true, if_false, ↓reduceIte, gR_w, gI_w, pI_w, isO_w, ldI_w, stI_w, ldZ_w, stZ_w, lenA_w, tR, f_X8_hurt, e8_isTrip wg tg, e, e8_isIn, e2', mg, n1, n3, j_X8_hurt_50]
        rfl
  obtain ⟨F, hF⟩ := NN_ge C.2.2.1 (by omega)
  have run : ∀ g, WF g → hI g 75 = hI h 75 → ∃ v2 b2, best v2 b2 ∧ g_X4_minutesOut_20 NN h (some 1) (nI m) (nI up) 15001 0 = some (v2, h) ∧ g_X8_hurt_58 NN g (some 74) (nI m) (nI up) (-1) 0 = if 0 ≤ b2 then some (b2, g) else f_X8_finding g (some 74) (-100006) := by
    intro g wg hg
    have := out_both w wg hg r1 m2 hup C.2.2.1 0 F F 15001 (-1) (by omega) (Or.inl ⟨rfl, rfl⟩)
    rw [← hF] at this
    exact this
  obtain ⟨v2, b2, hb, y1, y2⟩ := run h w rfl
  rcases hb with ⟨rfl, rfl⟩ | ⟨z, hz, rfl, rfl⟩
  · exact fin_ok (a := fun h => f_X7_hurt h (some 0) (nI t) (nI m)) (b := fun h => f_X8_hurt h (some 74) (nI t) (nI m)) (x := -100006) w r (by show f_X7_hurt h (some 0) (nI t) (nI m) = _; rw [z7, y1, bd2_some, if_neg (fun q => q rfl)]) (fun f => by show f_X8_hurt (sI h 0 f) (some 74) (nI t) (nI m) = _; obtain ⟨v3, b3, hb3, y3, y4⟩ := run (sI h 0 f) (w0 w f) (sI_ne (by decide)); have e9 := (ret_s (y3.symm.trans y1)).1; rw [z8 _ (w0 w f) (sI_ne (by decide)), y4, if_neg (by rcases hb3 with ⟨-, rfl⟩ | ⟨q, hq, rfl, rfl⟩; exact (by decide); exact absurd ((nI_eq (b := 15001) (by omega) (by omega)).mp e9) (by omega))])
  · have n1 : ¬ nI z = 15001 := fun q => by have := (nI_eq (b := 15001) (by omega) (by omega)).mp q; omega
    refine qry_ok (a := fun h => f_X7_hurt h (some 0) (nI t) (nI m)) (b := fun h => f_X8_hurt h (some 74) (nI t) (nI m)) (v := nI z) w r ?_ ?_
    · show f_X7_hurt h (some 0) (nI t) (nI m) = _; rw [z7, y1, bd2_some, if_pos n1]
    · show f_X8_hurt h (some 74) (nI t) (nI m) = _; rw [z8 h w rfl, y2, if_pos (nI_pos' (by omega))]
