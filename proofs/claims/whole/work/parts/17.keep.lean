/-! scratch rows; the desk's Past.keep -/
def core (k : Nat) : Bool := !([0, 14, 15, 16, 17, 18, 22, 66, 67, 68, 69, 70, 71, 72, 73, 74, 77, 78, 79, 80, 81, 82, 83, 84, 85].contains k)
theorem core_pc : ∀ i, i < 20 → core (25 + 2 * i) = true ∧ core (26 + 2 * i) = true := by decide
theorem core_big {k : Nat} (h : 86 ≤ k) : core k = true := by
  unfold core
  simp only [List.contains_eq_mem, List.mem_cons, List.not_mem_nil, or_false, Bool.not_eq_true', decide_eq_false_iff_not]
  omega
theorem Rel_of {h h1 : AH} (w : WF h) (r : Rel h) (hc : ∀ k, core k = true → hI h1 k = hI h k) (h2 : hR h1 = hR h) (h3 : hS h1 = hS h) (sh : Sh h1) (f : hI h1 0 6 = hI h1 74 6) (z : hI h1 74 2 = hI h 74 2) : Rel h1 := by
  obtain ⟨C, r1, r2, r3, nx, sz, q1, q2, q3, q4, q5, q6⟩ := r
  have ag : Ag (hI h) (hI h1) C := by
    refine ⟨fun j => ?_, fun j => ?_, fun j => ?_, fun j => ?_, fun j => ?_, fun c _ => ⟨?_, ?_⟩, fun c _ => ⟨?_, ?_, ?_⟩, fun c _ => ?_, fun t j _ _ => ?_, fun a _ => ?_⟩ <;> rw [hc _ (by decide)]
  have pe : ∀ i, pb h1 i = pb h i := fun i => by unfold pb; rw [h2]
  have pv : ∀ i, i < 20 → PVf h1 i = PVf h i := by
    intro i hi
    unfold PVf
    rw [pe i, h2, h3, hc _ (core_pc i hi).1]
    have : hI h1 (pb h i) = hI h (pb h i) := by
      obtain ⟨-, p2, -⟩ := w.2.2.2.1 i hi
      rcases p2 with p2 | p2
      · rw [p2]; exact hc _ (core_pc i hi).2
      · exact hc _ (core_big p2)
    rw [this]
  refine ⟨C, ?_, sh, f, nx, sz, q1, q2, by rw [hc 23 (by decide)]; exact q3, by rw [hc 23 (by decide)]; exact q4, by rw [z]; exact q5, ?_⟩
  · rw [hc 75 (by decide)]
    exact Rd_ag r1 ag
  · have s1 : snf h1 = snf h := by unfold snf; rw [hc 76 (by decide)]
    rw [s1]
    refine Hist_ag sz (Hist_V sz q6 q1 q2 (fun k _ _ => pv _ (Nat.mod_lt _ (by omega)))) ag
theorem Sh_of {h h1 : AH} (s : Sh h) (h0 : ∀ k, (66 ≤ k ∧ k ≤ 73) ∨ (77 ≤ k ∧ k ≤ 79) → hI h1 k = hI h k) : Sh h1 := by
  intro i hi
  obtain ⟨b, z, a1, a2, a3, a4, a5, a6, a7, a8⟩ := s i hi
  refine ⟨b, z, a1, a2, a3, ?_, ?_, ?_, ?_, fun j hj => ?_⟩
  · rw [h0 (66 + 2 * i) (by omega)]; exact a4
  · rw [h0 77 (by omega)]; exact a5
  · rw [h0 (66 + 2 * i) (by omega)]; exact a6
  · rw [h0 78 (by omega)]; exact a7
  · rw [h0 (67 + 2 * i) (by omega), h0 79 (by omega)]; exact a8 j hj
/-- a finding on both sides -/
theorem Rel_find {h : AH} (w : WF h) (r : Rel h) : Rel (sI (sI h 0 (upd (hI h 0) 6 (hI h 0 6 + 1))) 74 (upd (hI h 74) 6 (hI h 74 6 + 1))) := by
  have r3 : hI h 0 6 = hI h 74 6 := by obtain ⟨C, -, -, r3, -⟩ := r; exact r3
  have sh : Sh h := by obtain ⟨C, -, r2, -⟩ := r; exact r2
  refine Rel_of w r (fun k hk => ?_) rfl rfl (Sh_of sh (fun k hk => ?_)) ?_ ?_
  · have e0 : k ≠ 0 := fun e => by subst e; exact absurd hk (by decide)
    have e1 : k ≠ 74 := fun e => by subst e; exact absurd hk (by decide)
    rw [hI_sI, if_neg e1, hI_sI, if_neg e0]
  · rw [hI_sI, if_neg (by omega), hI_sI, if_neg (by omega)]
  · rw [hI_sI, if_neg (by decide), hI_sI, if_pos rfl, hI_sI, if_pos rfl]
    simp only [upd, if_true]
    rw [r3]
  · rw [hI_sI, if_pos rfl]
    simp [upd]
theorem tR24 : ∀ i, i < 20 → tR 24 i = some (25 + 2 * i) := by decide
theorem shq_p : ∀ i, i < 20 → shq (25 + 2 * i) = (6, 4) ∧ shq (26 + 2 * i) = (0, 1) := by decide
theorem shq_rows : ∀ r, r ∈ rowsOk → (shq r).1 = 0 ∧ 1 ≤ (shq r).2 ∧ (shq r).2 ≤ 350 ∧ r < 86 ∧ core r = true ∧ r < 23 := by decide
theorem tR_p : ∀ i, i < 20 → ∀ j, j < 5 → tR (25 + 2 * i) j = none := by decide
theorem tR_none_p {i j : Nat} (hi : i < 20) : (tR (25 + 2 * i) j).isSome = false := by
  rcases Nat.lt_or_ge j 5 with hj | hj
  · rw [tR_p i hi j hj]; rfl
  · have : ∀ i, i < 20 → ∀ j, tR (25 + 2 * i) (j + 5) = none := by
      intro i hi
      match i, hi with
      | 0, _ | 1, _ | 2, _ | 3, _ | 4, _ | 5, _ | 6, _ | 7, _ | 8, _ | 9, _ | 10, _ | 11, _ | 12, _ | 13, _ | 14, _ | 15, _ | 16, _ | 17, _ | 18, _ | 19, _ => intro j; rfl
      | n + 20, hi => omega
    have e := this i hi (j - 5)
    rw [show j - 5 + 5 = j by omega] at e
    rw [e]; rfl
/-- a piece told anew -/
theorem WF_pc {h h1 : AH} {nx r b1 : Nat} (w : WF h) (hx : nx < 20) (hr : r ∈ rowsOk) (g1 : hn h ≤ hn h1) (g2 : ∀ k, k < hn h → hS h1 k = hS h k) (g3 : ∀ k, k < hn h → k ≠ 25 + 2 * nx → hR h1 k = hR h k) (g4 : ∀ j, j ≠ 0 → j ≠ 3 → hR h1 (25 + 2 * nx) j = hR h (25 + 2 * nx) j) (g5 : hR h1 (25 + 2 * nx) 0 = some r) (g6 : hR h1 (25 + 2 * nx) 3 = some b1) (g7 : b1 = pb h nx ∨ (b1 = hn h ∧ hn h < hn h1 ∧ (hS h1 b1).1 = 0 ∧ (hS h1 b1).2 ≤ 350)) : WF h1 ∧ (∀ i, i < 20 → i ≠ nx → pb h1 i = pb h i) ∧ pb h1 nx = b1 := by
  obtain ⟨w1, w2, w3, w4, w5⟩ := w
  have pne : ∀ i, i < 20 → i ≠ nx → pb h1 i = pb h i := fun i hi e => by unfold pb; rw [g3 _ (by omega) (by omega)]
  have pnx : pb h1 nx = b1 := by unfold pb; rw [g6]; rfl
  have blt : ∀ i, i < 20 → pb h i < hn h := fun i hi => (w4 i hi).2.2.1
  refine ⟨⟨by omega, fun k hk => by rw [g2 k (by omega)]; exact w2 k hk, fun k j hj => ?_, fun i hi => ?_, fun i j hi hj e => ?_⟩, pne, pnx⟩
  · by_cases e : k = 25 + 2 * nx
    · subst e
      rw [tR_none_p hx] at hj
      cases hj
    · have hk : k < 86 := by
        rcases Nat.lt_or_ge k 86 with z | z
        · exact z
        · exfalso
          have : tR k j = none := by
            unfold tR
            split <;> first | omega | rfl
          rw [this] at hj; cases hj
      rw [g3 k (by omega) e]; exact w3 k j hj
  · by_cases e : i = nx
    · subst e
      unfold PW
      rw [pnx]
      obtain ⟨p1, p2, p3, p4, p5, p6⟩ := w4 i hi
      refine ⟨g6, ?_, ?_, ?_, ?_, Or.inr ⟨r, hr, g5⟩⟩
      · rcases g7 with z | ⟨z, -⟩
        · rw [z]; exact p2
        · right; omega
      · rcases g7 with z | ⟨z, z2, -⟩
        · rw [z]; omega
        · omega
      · rcases g7 with z | ⟨-, -, z, -⟩
        · rw [z, g2 _ p3]; exact p4
        · exact z
      · rcases g7 with z | ⟨-, -, -, z⟩
        · rw [z, g2 _ p3]; exact p5
        · exact z
    · unfold PW
      rw [pne i hi e, g3 _ (by omega) (by omega)]
      obtain ⟨p1, p2, p3, p4, p5, p6⟩ := w4 i hi
      exact ⟨p1, p2, by omega, by rw [g2 _ p3]; exact p4, by rw [g2 _ p3]; exact p5, p6⟩
  · by_cases ei : i = nx
    · by_cases ej : j = nx
      · omega
      · subst ei
        rw [pnx, pne j hj ej] at e
        rcases g7 with z | ⟨z, -⟩
        · exact w5 i j hi hj (z ▸ e)
        · have := blt j hj; omega
    · by_cases ej : j = nx
      · subst ej
        rw [pnx, pne i hi ei] at e
        rcases g7 with z | ⟨z, -⟩
        · exact w5 i j hi hj (z ▸ e)
        · have := blt i hi; omega
      · rw [pne i hi ei, pne j hj ej] at e
        exact w5 i j hi hj e
