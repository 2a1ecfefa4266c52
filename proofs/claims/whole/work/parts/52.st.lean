/-! the start is related -/
theorem lA_all : ∀ k, k < 86 → ∀ j, j < 20 → ((tR k j).isSome = false ∨ ((k, j) ∈ lA ∧ tR2 k j = tR k j)) := by decide +kernel
theorem lA_pc : ∀ i, i < 20 → (25 + 2 * i, 3) ∈ lA ∧ (25 + 2 * i, 0) ∈ lA := by decide +kernel
theorem tR_dom {k j : Nat} (h : (tR k j).isSome = true) : k < 86 ∧ j < 20 := by
  unfold tR at h
  split at h <;> first | (constructor <;> omega) | exact absurd h (by decide)
theorem st_ok {h : AH} {s : Nat} (q : Qh h 86 s lA (iv8 120 300)) : WF h ∧ Rel h := by
  obtain ⟨q1, q2, q3, q4, q5, q6⟩ := q
  have rf : ∀ i, i < 20 → hR h (25 + 2 * i) 3 = some (26 + 2 * i) := fun i hi => by rw [(q4 _ (lA_pc i hi).1).2]; exact (sq2 i hi).2.2.1.symm
  have pe : ∀ i, i < 20 → pb h i = 26 + 2 * i := fun i hi => by unfold pb; rw [rf i hi]; rfl
  have z : ∀ k j, k ≠ 2 → k ≠ 4 → k ≠ 75 → hI h k j = 0 := fun k j h1 h2 h3 => by rw [q5 k j]; unfold iv8; rw [if_neg h3, ivD_0 h1 h2]
  have m : ∀ j, hI h 75 j = if j = 0 then 200 else if j = 1 then 4 else if 74 ≤ j ∧ j < 74 + 120 then 100 else if 244 ≤ j ∧ j < 244 + 300 then -1 else 0 := fun j => by rw [q5]; unfold iv8; rw [if_pos rfl]
  have d : ∀ j, hI h 2 j = if j = 0 then 200 else if j = 1 then 4 else 0 := fun j => by rw [q5]; unfold iv8 ivD; rw [if_neg (by decide), if_pos rfl]
  have d4 : ∀ j, j < 120 → hI h 4 j = 100 := fun j hj => by rw [q5]; unfold iv8 ivD; rw [if_neg (by decide), if_neg (by decide), if_pos rfl, if_pos hj]
  refine ⟨⟨by omega, fun k hk => q3 k hk, fun k j hk => ?_, fun i hi => ?_, fun i j hi hj e => ?_⟩, (0, 0, 0, 0, 0), ⟨?_, ?_, ?_, ?_, fun x hx => ?_, ?_, ?_⟩, fun x hx => ?_, ?_, 0, 0, by omega, by omega, ?_, ?_, ?_, trivial⟩
  · obtain ⟨k1, k2⟩ := tR_dom hk
    obtain ⟨a1, a2⟩ := (lA_all k k1 j k2).resolve_left (by rw [hk]; decide)
    rw [← a2]; exact (q4 _ a1).2
  · refine ⟨by rw [pe i hi]; exact rf i hi, Or.inl (pe i hi), by rw [pe i hi]; omega, by rw [pe i hi, q3 _ (by omega), (sq2 i hi).2.1], by rw [pe i hi, q3 _ (by omega), (sq2 i hi).2.1]; decide, Or.inl ?_⟩
    rw [(q4 _ (lA_pc i hi).2).2]; exact (sq2 i hi).2.2.2.1.symm
  · rw [pe i hi, pe j hj] at e; omega
  · exact ⟨200, 4, by omega, by omega, by rw [d]; rfl, by rw [m]; rfl, by rw [d]; rfl, by rw [m]; rfl⟩
  · exact ⟨by decide, by rw [z 3 0 (by decide) (by decide) (by decide)]; rfl, by rw [m]; rfl, fun c hc => absurd hc (Nat.not_lt_zero _)⟩
  · exact ⟨by decide, by rw [z 3 1 (by decide) (by decide) (by decide)]; rfl, by rw [m]; rfl, fun c hc => absurd hc (Nat.not_lt_zero _)⟩
  · exact ⟨by decide, by rw [z 3 2 (by decide) (by decide) (by decide)]; rfl, by rw [m]; rfl, fun c hc => absurd hc (Nat.not_lt_zero _)⟩
  · exact ⟨100, by omega, by rw [d4 x hx]; rfl, by rw [m, if_neg (by omega), if_neg (by omega), if_pos (by omega)]; rfl⟩
  · exact ⟨by decide, by rw [z 12 0 (by decide) (by decide) (by decide)]; rfl, by rw [m]; rfl, fun c hc => absurd hc (Nat.not_lt_zero _)⟩
  · exact ⟨by decide, by rw [z 20 0 (by decide) (by decide) (by decide)]; rfl, by rw [m]; rfl, fun c hc => absurd hc (Nat.not_lt_zero _)⟩
  · exact ⟨0, 0, Or.inl rfl, by omega, fun _ => rfl, by rw [z _ _ (by omega) (by omega) (by omega)]; rfl, by rw [z _ _ (by omega) (by omega) (by omega)]; rfl, by rw [z _ _ (by omega) (by omega) (by omega)]; rfl, by rw [z _ _ (by omega) (by omega) (by omega)]; rfl, fun i hi => by rw [z _ _ (by omega) (by omega) (by omega), z _ _ (by omega) (by omega) (by omega)]⟩
  · rw [z 0 6 (by decide) (by decide) (by decide), z 74 6 (by decide) (by decide) (by decide)]
  · rw [z 23 1 (by decide) (by decide) (by decide)]; rfl
  · rw [z 23 2 (by decide) (by decide) (by decide)]; rfl
  · rw [z 74 2 (by decide) (by decide) (by decide)]; rfl
theorem law_st (L : Nat) (xs : Nat → Int32) : ∃ h, WF h ∧ Rel h ∧ hn h = 86 ∧ hs h ≤ 20000 ∧ f_L_law L xs h00 = g_L_law_18 L xs NN h (some 0) (some 74) 0 := by
  have q0 : Qh h00 0 0 [] (fun _ _ => 0) := ⟨rfl, rfl, fun k hk => absurd hk (Nat.not_lt_zero _), fun p hp => absurd hp (by simp), fun k j => rfl, fun k j _ => rfl⟩
  obtain ⟨h1, e1, q1⟩ := q_nO q0 (ci := 7) (len := 7) rfl
  obtain ⟨h2, s2, e2, q2, b2⟩ := in_X7 q1
  obtain ⟨h3, e3, q3⟩ := q_nO q2 (ci := 8) (len := 13) rfl
  obtain ⟨h4, s4, e4, q4, b4⟩ := in_X8 q3
  obtain ⟨w, r⟩ := st_ok q4
  refine ⟨h4, w, r, q4.1, by rw [q4.2.1]; omega, ?_⟩
  unfold f_L_law
  rw [e1, bd_some, q0.1, e2, bd_some, e3, bd_some, q2.1, e4, bd_some]
