/-! the small methods of both, under WF -/
def win (x a b : Int32) : Int32 := if x < a then 0 else if b < x then 0 else 1
def ixw (x : Int32) (k : Nat) : Int32 := if x < 0 then 0 else if nI k ≤ x then 0 else 1
theorem win_cases (x a b : Int32) : (win x a b = 0 ∧ ¬ (a ≤ x ∧ x ≤ b)) ∨ (win x a b = 1 ∧ a ≤ x ∧ x ≤ b) := by
  unfold win
  split
  · rename_i h1
    exact Or.inl ⟨rfl, fun z => absurd h1 (Int32.not_lt.mpr z.1)⟩
  · rename_i h1
    split
    · rename_i h2
      exact Or.inl ⟨rfl, fun z => absurd h2 (Int32.not_lt.mpr z.2)⟩
    · rename_i h2
      exact Or.inr ⟨rfl, Int32.not_lt.mp h1, Int32.not_lt.mp h2⟩
theorem bl_win (x a b : Int32) : bl (win x a b) = some (win x a b) := by
  rcases win_cases x a b with ⟨e, -⟩ | ⟨e, -⟩ <;> rw [e] <;> rfl
/-- a number in literal bounds -/
theorem win_nI {x : Int32} {a b : Nat} (ha : a < 2 ^ 30) (hb : b < 2 ^ 30) : (win x (nI a) (nI b) = 0) ∨ (win x (nI a) (nI b) = 1 ∧ ∃ j, a ≤ j ∧ j ≤ b ∧ x = nI j) := by
  rcases win_cases x (nI a) (nI b) with ⟨e, -⟩ | ⟨e, h1, h2⟩
  · exact Or.inl e
  · refine Or.inr ⟨e, ?_⟩
    have h0 : ¬ x < 0 := by
      intro z
      have z1 := Int32.lt_iff_toInt_lt.mp z
      have z2 := Int32.le_iff_toInt_le.mp h1
      rw [nI_toInt (by omega)] at z2
      have : (0 : Int32).toInt = 0 := rfl
      omega
    obtain ⟨j, hj, rfl⟩ := nI_of h0
    have z1 := (nI_leI (by omega) hj).mp h1
    have z2 := (nI_leI hj (by omega)).mp h2
    exact ⟨j, z1, z2, rfl⟩
theorem ixw_cases (x : Int32) {k : Nat} (hk : k < 2 ^ 30) : (ixw x k = 0) ∨ (ixw x k = 1 ∧ ∃ j, j < k ∧ x = nI j) := by
  unfold ixw
  split
  · exact Or.inl rfl
  · rename_i h1
    split
    · exact Or.inl rfl
    · rename_i h2
      obtain ⟨j, hj, rfl⟩ := nI_of h1
      exact Or.inr ⟨rfl, j, Nat.not_le.mp fun z => h2 (nI_le z (by omega)), rfl⟩
theorem win_ixw (x : Int32) {k : Nat} (hk : k < 2 ^ 30) : win x 0 (nI k - 1) = ixw x k := by
  unfold win ixw
  split
  · rfl
  · rename_i h1
    obtain ⟨j, hj, rfl⟩ := nI_of h1
    cases k with
    | zero =>
      rw [if_pos (by show nI 0 - 1 < nI j; have h0 : (0 : Int) ≤ (nI j).toInt := by rw [nI_toInt hj]; omega
                     exact Int32.lt_iff_toInt_lt.mpr (by have : (nI 0 - 1).toInt = -1 := by decide
                                                         omega)), if_pos (nI_le (Nat.zero_le _) hj)]
    | succ k =>
      rw [nI_pred]
      by_cases hk2 : k < j
      · rw [if_pos (nI_lt hk2 hj), if_pos (nI_le hk2 hj)]
      · rw [if_neg (nI_nlt (Nat.not_lt.mp hk2) (by omega)), if_neg (fun z => hk2 ((nI_leI (by omega) hj).mp z))]
theorem bl_ixw (x : Int32) (k : Nat) : bl (ixw x k) = some (ixw x k) := by
  unfold ixw
  split
  · rfl
  · split <;> rfl
section Small
variable {h : AH}
theorem e7_finding (w : WF h) (x : Int32) : f_X7_finding h (some 0) x = some (x, sI h 0 (upd (hI h 0) 6 (hI h 0 6 + 1))) := by
  simp (disch := first | (simp only [WF_sI]; exact w) | exact (w) | decide | (simp only [shq]; omega)) only [bd_some, bd2_some, gR_w, gI_w, pI_w, isO_w, ldI_w, stI_w, ldZ_w, stZ_w, lenA_w, tR, f_X7_finding]
theorem e8_finding (w : WF h) (x : Int32) : f_X8_finding h (some 74) x = some (x, sI h 74 (upd (hI h 74) 6 (hI h 74 6 + 1))) := by
  simp (disch := first | (simp only [WF_sI]; exact w) | exact (w) | decide | (simp only [shq]; omega)) only [bd_some, bd2_some, gR_w, gI_w, pI_w, isO_w, ldI_w, stI_w, ldZ_w, stZ_w, lenA_w, tR, f_X8_finding]
theorem e7_within (x a b : Int32) : f_X7_within h x a b = some (win x a b, h) := by
  unfold f_X7_within win
  split
  · rfl
  · split <;> rfl
theorem e8_isIn (x a b : Int32) : f_X8_isIn h x a b = some (win x a b, h) := by
  unfold f_X8_isIn win
  split
  · rfl
  · split <;> rfl
theorem e7_isDay (x : Int32) : f_X7_isDay h x = some (win x 0 29, h) := by
  simp only [f_X7_isDay, e7_within, bd_some, bd2_some, bl_win]
theorem e8_isDay (x : Int32) : f_X8_isDay h x = some (win x 0 29, h) := by
  simp only [f_X8_isDay, e8_isIn, bd_some, bd2_some, bl_win]
theorem e7_isSheet (x : Int32) : f_X7_isSheet h x = some (win x 0 3, h) := by
  simp only [f_X7_isSheet, e7_within, bd_some, bd2_some, bl_win]
theorem e8_isSheet (x : Int32) : f_X8_isSheet h x = some (win x 0 3, h) := by
  simp only [f_X8_isSheet, e8_isIn, bd_some, bd2_some, bl_win]
theorem e7_isKind (x : Int32) : f_X7_isKind h x = some (win x 0 3, h) := by
  simp only [f_X7_isKind, e7_within, bd_some, bd2_some, bl_win]
theorem e7_isMile (x : Int32) : f_X7_isMile h x = some (win x 0 250, h) := by
  simp only [f_X7_isMile, e7_within, bd_some, bd2_some, bl_win]
theorem e7_isWater (x : Int32) : f_X7_isWater h x = some (win x 0 999, h) := by
  simp only [f_X7_isWater, e7_within, bd_some, bd2_some, bl_win]
theorem e8_isWater (x : Int32) : f_X8_isWater h x = some (win x 0 999, h) := by
  simp only [f_X8_isWater, e8_isIn, bd_some, bd2_some, bl_win]
theorem e7_size (w : WF h) : f_X6_size h (some 11) = some (hI h 12 0, h) := by
  simp (disch := first | (simp only [WF_sI]; exact w) | exact (w) | decide | (simp only [shq]; omega)) only [bd_some, bd2_some, gR_w, gI_w, pI_w, isO_w, ldI_w, stI_w, ldZ_w, stZ_w, lenA_w, tR, f_X6_size, lit]
theorem e7_sizeA (w : WF h) : f_X0_size h (some 19) = some (hI h 20 0, h) := by
  simp (disch := first | (simp only [WF_sI]; exact w) | exact (w) | decide | (simp only [shq]; omega)) only [bd_some, bd2_some, gR_w, gI_w, pI_w, isO_w, ldI_w, stI_w, ldZ_w, stZ_w, lenA_w, tR, f_X0_size, lit]
theorem e7_isTrip (w : WF h) {k : Nat} (hk : hI h 12 0 = nI k) (hk2 : k ≤ 100) (x : Int32) : f_X7_isTrip h (some 0) x = some (ixw x k, h) := by
  have h9 : k < 2 ^ 30 := by omega
  simp (disch := first | (simp only [WF_sI]; exact w) | exact (w) | decide | (simp only [shq]; omega)) only [bd_some, bd2_some, gR_w, gI_w, pI_w, isO_w, ldI_w, stI_w, ldZ_w, stZ_w, lenA_w, tR, f_X7_isTrip, e7_size, e7_within, hk, win_ixw x h9, bl_ixw]
theorem e7_isApp (w : WF h) {k : Nat} (hk : hI h 20 0 = nI k) (hk2 : k ≤ 100) (x : Int32) : f_X7_isApplicant h (some 0) x = some (ixw x k, h) := by
  have h9 : k < 2 ^ 30 := by omega
  simp (disch := first | (simp only [WF_sI]; exact w) | exact (w) | decide | (simp only [shq]; omega)) only [bd_some, bd2_some, gR_w, gI_w, pI_w, isO_w, ldI_w, stI_w, ldZ_w, stZ_w, lenA_w, tR, f_X7_isApplicant, e7_sizeA, e7_within, hk, win_ixw x h9, bl_ixw]
theorem e7_isCamp (w : WF h) {k : Nat} (hk : hI h 3 0 = nI k) (hk2 : k ≤ 100) (x : Int32) : f_X7_isCamp h (some 0) x = some (ixw x k, h) := by
  have h9 : k < 2 ^ 30 := by omega
  have hl : ldI h (some 3) 0 = some (nI k) := by rw [← hk]; exact ldI_w (i := 0) w (by decide) rfl (by decide) (by decide)
  simp (disch := first | (simp only [WF_sI]; exact w) | exact (w) | decide | (simp only [shq]; omega)) only [bd_some, bd2_some, gR_w, gI_w, pI_w, isO_w, ldI_w, stI_w, ldZ_w, stZ_w, lenA_w, tR, f_X7_isCamp, e7_within, hl, win_ixw x h9, bl_ixw]
theorem e8_isTrip (w : WF h) {k : Nat} (hk : hI h 75 5 = nI k) (x : Int32) : f_X8_isTrip h (some 74) x = some (ixw x k, h) := by
  have hl : ldI h (some 75) 5 = some (nI k) := by rw [← hk]; exact ldI_w (i := 5) w (by decide) rfl (by decide) (by decide)
  simp (disch := first | (simp only [WF_sI]; exact w) | exact (w) | decide | (simp only [shq]; omega)) only [bd_some, bd2_some, gR_w, gI_w, pI_w, isO_w, ldI_w, stI_w, ldZ_w, stZ_w, lenA_w, tR, f_X8_isTrip, hl]
  unfold ixw
  split
  · rfl
  · split <;> rfl
theorem e8_isCamp (w : WF h) {k : Nat} (hk : hI h 75 2 = nI k) (x : Int32) : f_X8_isCamp h (some 74) x = some (ixw x k, h) := by
  have hl : ldI h (some 75) 2 = some (nI k) := by rw [← hk]; exact ldI_w (i := 2) w (by decide) rfl (by decide) (by decide)
  simp (disch := first | (simp only [WF_sI]; exact w) | exact (w) | decide | (simp only [shq]; omega)) only [bd_some, bd2_some, gR_w, gI_w, pI_w, isO_w, ldI_w, stI_w, ldZ_w, stZ_w, lenA_w, tR, f_X8_isCamp, hl]
  unfold ixw
  split
  · rfl
  · split <;> rfl
theorem e8_isRapid (w : WF h) {k : Nat} (hk : hI h 75 3 = nI k) (x : Int32) : f_X8_isRapid h (some 74) x = some (ixw x k, h) := by
  have hl : ldI h (some 75) 3 = some (nI k) := by rw [← hk]; exact ldI_w (i := 3) w (by decide) rfl (by decide) (by decide)
  simp (disch := first | (simp only [WF_sI]; exact w) | exact (w) | decide | (simp only [shq]; omega)) only [bd_some, bd2_some, gR_w, gI_w, pI_w, isO_w, ldI_w, stI_w, ldZ_w, stZ_w, lenA_w, tR, f_X8_isRapid, hl]
  unfold ixw
  split
  · rfl
  · split <;> rfl
theorem e8_isApp (w : WF h) {k : Nat} (hk : hI h 75 6 = nI k) (x : Int32) : f_X8_isApplicant h (some 74) x = some (ixw x k, h) := by
  have hl : ldI h (some 75) 6 = some (nI k) := by rw [← hk]; exact ldI_w (i := 6) w (by decide) rfl (by decide) (by decide)
  simp (disch := first | (simp only [WF_sI]; exact w) | exact (w) | decide | (simp only [shq]; omega)) only [bd_some, bd2_some, gR_w, gI_w, pI_w, isO_w, ldI_w, stI_w, ldZ_w, stZ_w, lenA_w, tR, f_X8_isApplicant, hl]
  unfold ixw
  split
  · rfl
  · split <;> rfl
theorem e6_read (w : WF h) {t j : Nat} (hj : 35 * t + j < 350) : f_X6_read h (some 11) (nI t) (nI j) = some (hI h 13 (35 * t + j), h) := by
  have e : nI t * 35 + nI j = nI (35 * t + j) := by rw [show (35 : Int32) = nI 35 from rfl, pk_mul, nI_add, Nat.mul_comm]
  simp (disch := first | (simp only [WF_sI]; exact w) | exact (w) | decide | (simp only [shq]; omega)) only [bd_some, bd2_some, gR_w, gI_w, pI_w, isO_w, ldI_w, stI_w, ldZ_w, stZ_w, lenA_w, tR, f_X6_read, f_X6_index, e]
theorem e6_write (w : WF h) {t j : Nat} {v : Int32} (hj : 35 * t + j < 350) : f_X6_write h (some 11) (nI t) (nI j) v = some (sI h 13 (upd (hI h 13) (35 * t + j) v)) := by
  have e : nI t * 35 + nI j = nI (35 * t + j) := by rw [show (35 : Int32) = nI 35 from rfl, pk_mul, nI_add, Nat.mul_comm]
  simp (disch := first | (simp only [WF_sI]; exact w) | exact (w) | decide | (simp only [shq]; omega)) only [bd_some, bd2_some, gR_w, gI_w, pI_w, isO_w, ldI_w, stI_w, ldZ_w, stZ_w, lenA_w, tR, f_X6_write, f_X6_index, e]
theorem e8_told (w : WF h) {t j : Nat} (hj : 5 * t + j < 50) : f_X8_told h (some 74) (nI t) (nI j) = some (hI h 75 (194 + 5 * t + j), h) := by
  have e : (194 + 5 * nI t) + nI j = nI (194 + 5 * t + j) := by rw [show (5 : Int32) = nI 5 from rfl, show (194 : Int32) = nI 194 from rfl, pk_mul, nI_add, nI_add]
  simp (disch := first | (simp only [WF_sI]; exact w) | exact (w) | decide | (simp only [shq]; omega)) only [bd_some, bd2_some, gR_w, gI_w, pI_w, isO_w, ldI_w, stI_w, ldZ_w, stZ_w, lenA_w, tR, f_X8_told, e]
end Small
