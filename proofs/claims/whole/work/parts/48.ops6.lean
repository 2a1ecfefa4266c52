/-! plan, planned, take -/
section Ops6
theorem W8f {h : AH} {x : Int32} : (bd2 (f_X8_finding h (some 74) x) fun a b => some (a, b)) = f_X8_finding h (some 74) x := bd2_id _
theorem P_15 {h : AH} (w : WF h) : gR h (some 0) 7 2 = some (some 15) := gR_w (q := 0) (ci := 7) (j := 2) w (by decide) rfl rfl
theorem P_1 {h : AH} (w : WF h) : gR h (some 0) 7 0 = some (some 1) := gR_w (q := 0) (ci := 7) (j := 0) w (by decide) rfl rfl
theorem P_11 {h : AH} (w : WF h) : gR h (some 0) 7 1 = some (some 11) := gR_w (q := 0) (ci := 7) (j := 1) w (by decide) rfl rfl
theorem M_75 {h : AH} (w : WF h) : gR h (some 74) 8 0 = some (some 75) := gR_w (q := 74) (ci := 8) (j := 0) w (by decide) rfl rfl
theorem M_81 {h : AH} (w : WF h) : gR h (some 74) 8 8 = some (some 81) := gR_w (q := 74) (ci := 8) (j := 8) w (by decide) rfl rfl
theorem ne1000 {n : Nat} (h : n ≤ 15) : ¬ nI n = 1000 := fun z => by have := (nI_eq (b := 1000) (by omega) (by omega)).mp z; omega
theorem op_plan (x : Int32) : OpOk (fun h => f_X7_plan h (some 0) x) (fun h => f_X8_plan h (some 74) x) := by
  intro h w r
  obtain ⟨C, r1, -⟩ := id r
  obtain ⟨-, -, -, -, -, ⟨l1, l2, l3, -⟩, -⟩ := id r1
  have h100 : C.2.2.2.1 ≤ 100 := by omega
  have t3' : ∀ f, hI (sI h 0 f) 75 5 = nI C.2.2.2.1 := fun f => by rw [sI_ne (by decide)]; exact l3
  rcases ixw_cases x (k := C.2.2.2.1) (by omega) with e | ⟨e, t, ht, rfl⟩
  · exact fin_ok (a := fun h => f_X7_plan h (some 0) x) (b := fun h => f_X8_plan h (some 74) x) (x := -100001) w r (by show f_X7_plan h (some 0) x = _; unfold f_X7_plan; rw [O_7 w, bd_some, e7_isTrip w l2 h100, bd2_some, if_neg (fun q => q e), O_7 w, bd_some, bd2_id]) (fun f => by show f_X8_plan (sI h 0 f) (some 74) x = _; unfold f_X8_plan; rw [O_8 (w0 w f), bd_some, e8_isTrip (w0 w f) (t3' f), bd2_some, if_neg (fun q => q e), O_8 (w0 w f), bd_some, bd2_id])
  have e' : ¬ ixw (nI t) C.2.2.2.1 = 0 := by rw [e]; decide
  obtain ⟨l, n, Pt, p1, p2, p3, p4, p5, p6, p7, p8, p9⟩ := plan_both r1 ht
  obtain ⟨h1, a1, f1, a2, a3⟩ := p7 h ⟨w, fun _ _ => rfl⟩
  have w1 := WF_fr f1 w
  have s7 : f_X7_plan h (some 0) (nI t) = if n = 0 then f_X7_finding h1 (some 0) (-100006) else some (nI n, h1) := by
    unfold f_X7_plan
    rw [O_7 w, bd_some, e7_isTrip w l2 h100, bd2_some, if_pos e', P_15 w, bd_some, P_1 w, bd_some, P_11 w, bd_some, O_15 w, bd_some, a1, bd2_some, O_7 w1, bd_some, bd2_id, P_15 w1, bd_some, g15 w1, bd_some, a2]
    by_cases c : n = 0
    · rw [if_pos c, if_pos c, if_pos rfl]
    · rw [if_neg c, if_neg c, if_neg (by decide)]
  have s8 : ∀ g, WF g → hI g 75 = hI h 75 → ∃ g', Fr g g' [80, 81] ∧ f_X8_plan g (some 74) (nI t) = if n = 0 then f_X8_finding g' (some 74) (-100006) else some (nI n, g') := by
    intro g wg hg
    obtain ⟨g', b1, f2⟩ := p8 g wg hg
    refine ⟨g', f2, ?_⟩
    unfold f_X8_plan
    rw [O_8 wg, bd_some, e8_isTrip wg (k := C.2.2.2.1) (by rw [hg]; exact l3), bd2_some, if_pos e', O_8 wg, bd_some, b1, bd2_some, O_8 (WF_fr f2 wg), bd_some, bd2_id]
    by_cases c : n = 0
    · rw [if_pos c, if_neg (fun q => q rfl), if_pos c]
    · rw [if_neg c, if_pos (ne1000 p4), if_neg c]
  by_cases c : n = 0
  · refine fin_ok2 (a := fun h => f_X7_plan h (some 0) (nI t)) (b := fun h => f_X8_plan h (some 74) (nI t)) (x := -100006) w r f1 ?_ (fun g wg hg => ?_)
    · show f_X7_plan h (some 0) (nI t) = _
      rw [s7, if_pos c]
    · obtain ⟨g', f2, b1⟩ := s8 g wg hg
      exact ⟨g', f2, by show f_X8_plan g (some 74) (nI t) = _; rw [b1, if_pos c]⟩
  · obtain ⟨h2, f2, b1⟩ := s8 h1 w1 (f1.2.2.2.2 75 (by decide))
    obtain ⟨-, rr1⟩ := jnk f1 (by decide) w r
    obtain ⟨w2, rr2⟩ := jnk f2 (by decide) w1 rr1
    exact ⟨nI n, h1, h2, by show f_X7_plan h (some 0) (nI t) = _; rw [s7, if_neg c], by show f_X8_plan h1 (some 74) (nI t) = _; rw [b1, if_neg c], w2, rr2, by rw [f2.2.2.1, f1.2.2.1]; omega, by rw [f2.2.2.2.1, f1.2.2.2.1]; omega⟩
theorem op_planned (x y : Int32) : OpOk (fun h => f_X7_planned h (some 0) x y) (fun h => f_X8_planned h (some 74) x y) := by
  intro h w r
  obtain ⟨C, r1, -⟩ := id r
  obtain ⟨-, -, -, -, -, ⟨l1, l2, l3, -⟩, -⟩ := id r1
  have h100 : C.2.2.2.1 ≤ 100 := by omega
  have t3' : ∀ f, hI (sI h 0 f) 75 5 = nI C.2.2.2.1 := fun f => by rw [sI_ne (by decide)]; exact l3
  rcases ixw_cases x (k := C.2.2.2.1) (by omega) with e | ⟨e, t, ht, rfl⟩
  · exact fin_ok (a := fun h => f_X7_planned h (some 0) x y) (b := fun h => f_X8_planned h (some 74) x y) (x := -100001) w r (by show f_X7_planned h (some 0) x y = _; unfold f_X7_planned; rw [O_7 w, bd_some, e7_isTrip w l2 h100, bd2_some, if_neg (fun q => q e), O_7 w, bd_some, bd2_id]) (fun f => by show f_X8_planned (sI h 0 f) (some 74) x y = _; unfold f_X8_planned; rw [O_8 (w0 w f), bd_some, e8_isTrip (w0 w f) (t3' f), bd2_some, if_neg (fun q => q e), O_8 (w0 w f), bd_some, bd2_id])
  have e' : ¬ ixw (nI t) C.2.2.2.1 = 0 := by rw [e]; decide
  obtain ⟨l, n, Pt, p1, p2, p3, p4, p5, p6, p7, p8, p9⟩ := plan_both r1 ht
  obtain ⟨h1, a1, f1, a2, a3⟩ := p7 h ⟨w, fun _ _ => rfl⟩
  have w1 := WF_fr f1 w
  have s7 : f_X7_planned h (some 0) (nI t) y = if n = 0 then f_X7_finding h1 (some 0) (-100006) else if ¬ ixw y n = 0 then (if ¬ y = (nI n - 1) then bd (ldI h1 (some 16) y) fun v => some (v, h1) else some (-1, h1)) else f_X7_finding h1 (some 0) (-100001) := by
    unfold f_X7_planned
    rw [O_7 w, bd_some, e7_isTrip w l2 h100, bd2_some, if_pos e', P_15 w, bd_some, P_1 w, bd_some, P_11 w, bd_some, O_15 w, bd_some, a1, bd2_some, O_7 w1, bd_some, bd2_id, P_15 w1, bd_some, g15 w1, bd_some, a2, e7_within, bd2_some, win_ixw y (k := n) (by omega), P_15 w1, bd_some, g15 w1, bd_some, a2, bd_some, R15_1 w1, bd_some, O_7 w1, bd_some, bd2_id]
    by_cases c : n = 0
    · rw [if_pos c, if_pos c, if_neg (fun q => q rfl)]
    · rw [if_neg c, if_neg c, if_pos (by decide)]
  have s8 : ∀ g, WF g → hI g 75 = hI h 75 → ∃ g', Fr g g' [80, 81] ∧ (∀ j, j + 1 < n → hI g' 81 j = nI (Pt j)) ∧ f_X8_planned g (some 74) (nI t) y = if n = 0 then f_X8_finding g' (some 74) (-100006) else if y < 0 then f_X8_finding g' (some 74) (-100001) else if y < nI n then (if ¬ y = (nI n - 1) then bd (ldI g' (some 81) y) fun v => some (v, g') else some (-1, g')) else f_X8_finding g' (some 74) (-100001) := by
    intro g wg hg
    obtain ⟨g', b1, f2, b2⟩ := p9 g wg hg
    refine ⟨g', f2, b2, ?_⟩
    have wg' := WF_fr f2 wg
    unfold f_X8_planned
    rw [O_8 wg, bd_some, e8_isTrip wg (k := C.2.2.2.1) (by rw [hg]; exact l3), bd2_some, if_pos e', O_8 wg, bd_some, b1, bd2_some, O_8 wg', bd_some, bd2_id, M_81 wg', bd_some, bd_some, bd2_id]
    by_cases c : n = 0
    · rw [if_pos c, if_neg (fun q => q rfl), if_pos c]
    · rw [if_neg c, if_pos (ne1000 p4), if_neg c]
  by_cases c : n = 0
  · refine fin_ok2 (a := fun h => f_X7_planned h (some 0) (nI t) y) (b := fun h => f_X8_planned h (some 74) (nI t) y) (x := -100006) w r f1 ?_ (fun g wg hg => ?_)
    · show f_X7_planned h (some 0) (nI t) y = _
      rw [s7, if_pos c]
    · obtain ⟨g', f2, -, b1⟩ := s8 g wg hg
      exact ⟨g', f2, by show f_X8_planned g (some 74) (nI t) y = _; rw [b1, if_pos c]⟩
  by_cases cy : ixw y n = 0
  · refine fin_ok2 (a := fun h => f_X7_planned h (some 0) (nI t) y) (b := fun h => f_X8_planned h (some 74) (nI t) y) (x := -100001) w r f1 ?_ (fun g wg hg => ?_)
    · show f_X7_planned h (some 0) (nI t) y = _
      rw [s7, if_neg c, if_neg (fun q => q cy)]
    · obtain ⟨g', f2, -, b1⟩ := s8 g wg hg
      refine ⟨g', f2, ?_⟩
      show f_X8_planned g (some 74) (nI t) y = _
      rw [b1, if_neg c]
      unfold ixw at cy
      split at cy
      · rename_i q; rw [if_pos q]
      · rename_i q
        split at cy
        · rename_i q2; rw [if_neg q, if_neg (Int32.not_lt.mpr q2)]
        · exact absurd cy (by decide)
  obtain ⟨h2, f2, b2, b1⟩ := s8 h1 w1 (f1.2.2.2.2 75 (by decide))
  obtain ⟨-, rr1⟩ := jnk f1 (by decide) w r
  obtain ⟨w2, rr2⟩ := jnk f2 (by decide) w1 rr1
  rcases ixw_cases y (k := n) (by omega) with z | ⟨-, j, hj, rfl⟩
  · exact absurd z cy
  rw [if_neg c, if_pos cy] at s7
  rw [if_neg c, if_neg (nI_pos (by omega)), if_pos (nI_lt hj (by omega))] at b1
  have fin : ∀ v, f_X7_planned h (some 0) (nI t) (nI j) = some (v, h1) → f_X8_planned h1 (some 74) (nI t) (nI j) = some (v, h2) → Ok2 h (fun h => f_X7_planned h (some 0) (nI t) (nI j)) (fun h => f_X8_planned h (some 74) (nI t) (nI j)) := fun v z1 z2 => ⟨v, h1, h2, z1, z2, w2, rr2, by rw [f2.2.2.1, f1.2.2.1]; omega, by rw [f2.2.2.2.1, f1.2.2.2.1]; omega⟩
  rw [show nI n - 1 = nI (n - 1) from pk_sub (b := 1) (by omega)] at s7 b1
  by_cases ce : j = n - 1
  · rw [if_neg (fun q => q (by rw [ce]))] at s7 b1
    exact fin _ s7 b1
  · have ce' : ¬ nI j = nI (n - 1) := fun z => ce ((nI_eq (by omega) (by omega)).mp z)
    rw [if_pos ce', ldI_w (q := 16) w1 (by decide) rfl (by show j < 15; omega) (by decide), bd_some, a3 j (by omega)] at s7
    rw [if_pos ce', ldI_w (q := 81) w2 (by decide) rfl (by show j < 15; omega) (by decide), bd_some, b2 j (by omega)] at b1
    exact fin _ s7 b1
theorem op_take (x : Int32) : OpOk (fun h => f_X7_take h (some 0) x) (fun h => f_X8_take h (some 74) x) := by
  intro h w r
  obtain ⟨C, r1, r2, r3, nx, sz, q1, q2, q3, q4, q5, q6⟩ := id r
  obtain ⟨-, -, -, -, -, ⟨l1, l2, l3, -⟩, -⟩ := id r1
  have h100 : C.2.2.2.1 ≤ 100 := by omega
  have t3' : ∀ f, hI (sI h 0 f) 75 5 = nI C.2.2.2.1 := fun f => by rw [sI_ne (by decide)]; exact l3
  rcases ixw_cases x (k := C.2.2.2.1) (by omega) with e | ⟨e, t, ht, rfl⟩
  · exact fin_ok (a := fun h => f_X7_take h (some 0) x) (b := fun h => f_X8_take h (some 74) x) (x := -100001) w r (by show f_X7_take h (some 0) x = _; unfold f_X7_take; rw [O_7 w, bd_some, e7_isTrip w l2 h100, bd2_some, if_neg (fun q => q e), O_7 w, bd_some, bd2_id]) (fun f => by show f_X8_take (sI h 0 f) (some 74) x = _; unfold f_X8_take; rw [O_8 (w0 w f), bd_some, e8_isTrip (w0 w f) (t3' f), bd2_some, if_neg (fun q => q e), O_8 (w0 w f), bd_some, bd2_id])
  have e' : ¬ ixw (nI t) C.2.2.2.1 = 0 := by rw [e]; decide
  obtain ⟨l, n, Pt, p1, p2, p3, p4, p5, p6, p7, p8, p9⟩ := plan_both r1 ht
  obtain ⟨h1, a1, f1, a2, a3⟩ := p7 h ⟨w, fun _ _ => rfl⟩
  have w1 := WF_fr f1 w
  by_cases c : n = 0
  · refine fin_ok2 (a := fun h => f_X7_take h (some 0) (nI t)) (b := fun h => f_X8_take h (some 74) (nI t)) (x := -100006) w r f1 ?_ (fun g wg hg => ?_)
    · show f_X7_take h (some 0) (nI t) = _
      unfold f_X7_take
      rw [O_7 w, bd_some, e7_isTrip w l2 h100, bd2_some, if_pos e', P_15 w, bd_some, P_1 w, bd_some, P_11 w, bd_some, O_15 w, bd_some, a1, bd2_some, if_pos c, if_neg (fun q => q rfl), O_7 w1, bd_some, bd2_id]
    · obtain ⟨g', b1, f2, b2⟩ := p9 g wg hg
      refine ⟨g', f2, ?_⟩
      show f_X8_take g (some 74) (nI t) = _
      unfold f_X8_take
      rw [O_8 wg, bd_some, e8_isTrip wg (k := C.2.2.2.1) (by rw [hg]; exact l3), bd2_some, if_pos e', O_8 wg, bd_some, b1, bd2_some, if_pos c, if_neg (fun q => q rfl), O_8 (WF_fr f2 wg), bd_some, bd2_id]
  rw [if_neg c] at a1
  have n23 : hI h1 23 = hI h 23 := f1.2.2.2.2 23 (by decide)
  obtain ⟨hk, e1, wk, k1, k65, ckk⟩ := ck_rng (a := 35 * t) (m := 35) (r := 13) w1 q1 (by rw [n23]; exact q3) q2 (by rw [n23]; exact q4) (by decide) (by show 35 * t + 35 ≤ 350; omega)
  have kt : f_X7_keepTrips h1 (some 0) (nI t) 1 = some hk := by rw [show (1 : Int32) = nI 1 from rfl, e7_keepTrips w1]; exact e1
  have hk13 : hI hk 13 = hI h 13 := by rw [k1 13 (by omega), f1.2.2.2.2 13 (by decide)]
  obtain ⟨hb, b1, fb, nb⟩ := writeN_sp wk (t := t) (l := l) (n := n) (Pt := Pt) (by omega) p5 ⟨by omega, p4⟩ (by rw [hk13]; exact p2) (by rw [k1 15 (by omega)]; exact a2) (fun j hj => by rw [k1 16 (by omega)]; exact a3 j hj)
  rw [hk13] at nb
  have wb := WF_fr fb wk
  have ck := ckk hb h1 [] (fun k hk => by cases hk) fb (Fr.rf h1 _) (fun k hk => by cases hk) (fun j hj => by rw [nb, f1.2.2.2.2 13 (by decide)]; unfold ly13; rw [if_neg (by omega), if_neg (by omega)])
  have n65 : ∀ k, 65 ≤ k → k < 86 → hI hb k = hI h k := fun k ha hb => by rw [fb.2.2.2.2 k (by simp <;> omega), k65 k ha hb, f1.2.2.2.2 k (by simp <;> omega)]
  obtain ⟨g1, c1, fc, c2⟩ := p9 hb wb (n65 75 (by omega) (by omega))
  rw [if_neg c] at c1
  have wg1 := WF_fr fc wb
  obtain ⟨g2, d1, wg2, fd, mkk⟩ := mk_keep wg1 q2 (by rw [fc.2.2.2.2 74 (by decide), n65 74 (by omega) (by omega)]; exact q5)
  have g75 : hI g2 75 = hI h 75 := by rw [fd.2.2.2.2 75 (by decide), fc.2.2.2.2 75 (by decide), n65 75 (by omega) (by omega)]
  obtain ⟨g3, i1, fi, ni⟩ := lay_sp wg2 (t := t) (l := l) (n := n) (Pt := Pt) (by omega) p5 p4 (by rw [g75]; exact p3) (fun j hj => by rw [fd.2.2.2.2 81 (by decide)]; exact c2 j hj)
  rw [g75] at ni
  obtain ⟨g4, m4, f4⟩ := MK_j fc (mkk g3 fi)
  have e4 : ∀ k, k ≠ 80 → k ≠ 81 → hI g4 k = hI g3 k := fun k z1 z2 => (f4.2.2.2.2 k (by simp [z1, z2])).symm
  have D4 : ∀ k, k < 23 → hI g4 k = hI hb k := fun k hk => m4.1.2.2.2.2 k (by simp <;> omega)
  have z := act w r1 r2 r3 q1 q2 q6 f1 (fun k hk => by simp at hk; omega) (Ag_of (C := C) f1 (by decide)) ck m4 (C2 := C) (by
    refine Rd_ly r1 ht p5 p6 (fun k hk => ?_) (fun j => by rw [D4 13 (by omega), nb]) (fun j => by rw [e4 75 (by omega) (by omega), ni])
    have : k < 23 ∧ k ≠ 13 ∧ k ∉ [15, 16, 17, 18] := by simp at hk ⊢; omega
    rw [D4 k this.1, fb.2.2.2.2 k (by simp [this.2.1]), k1 k this.1, f1.2.2.2.2 k this.2.2]) (leC_rf C)
  obtain ⟨z1, z2, z3, z4⟩ := z
  obtain ⟨y1, y2⟩ := jnk f4 (by decide) z1 z2
  refine ⟨nI (n - 1), hb, g3, ?_, ?_, y1, y2, by rw [f4.2.2.1]; exact z3, by rw [f4.2.2.2.1]; exact z4⟩
  · show f_X7_take h (some 0) (nI t) = _
    have d0 : hI hb 15 0 = nI n := by rw [fb.2.2.2.2 15 (by decide), k1 15 (by omega)]; exact a2
    unfold f_X7_take
    rw [O_7 w, bd_some, e7_isTrip w l2 h100, bd2_some, if_pos e', P_15 w, bd_some, P_1 w, bd_some, P_11 w, bd_some, O_15 w, bd_some, a1, bd2_some, if_pos (by decide), O_7 w1, bd_some, kt, bd_some, P_15 wk, bd_some, P_11 wk, bd_some, O_15 wk, bd_some, b1, bd_some, P_15 wb, bd_some, g15 wb, bd_some, d0, show nI n - 1 = nI (n - 1) from pk_sub (b := 1) (by omega)]
  · show f_X8_take hb (some 74) (nI t) = _
    unfold f_X8_take
    rw [O_8 wb, bd_some, e8_isTrip wb (k := C.2.2.2.1) (by rw [n65 75 (by omega) (by omega)]; exact l3), bd2_some, if_pos e', O_8 wb, bd_some, c1, bd2_some, if_pos (ne1000 p4), O_8 wg1, bd_some, d1, bd_some, O_8 wg2, bd_some, i1, bd_some, show nI n - 1 = nI (n - 1) from pk_sub (b := 1) (by omega)]
end Ops6
