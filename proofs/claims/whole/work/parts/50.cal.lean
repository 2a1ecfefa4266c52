/-! calendar, fill -/
theorem cal17 {set : Int32} : ∀ (m i F : Nat) (g : AH), i + m = 300 → WF g → ∃ g', g_X8_calendar_17 (F + m + 1) g (some 74) set (nI i) = (bd2 (f_X8_calendarOf g' (some 74) set) fun v48 h48 => g_X8_calendar_54 NN h48 (some 74) v48 0) ∧ Fr g g' [82] ∧ ∀ j, hI g' 82 j = if i ≤ j ∧ j < 300 then hI g 75 (244 + j) else hI g 82 j := by
  intro m
  induction m with
  | zero =>
    intro i F g hi w
    refine ⟨g, ?_, Fr.rf _ _, fun j => by rw [if_neg (by omega)]⟩
    rw [show F + 0 + 1 = F + 1 from rfl, g_X8_calendar_17, if_pos (show (300 : Int32) ≤ nI i from nI_le (a := 300) (by omega) (by omega)), O_8 w, bd_some]
  | succ m ih =>
    intro i F g hi w
    have l75 : ldI g (some 75) (244 + nI i) = some (hI g 75 (244 + i)) := by rw [show 244 + nI i = nI (244 + i) from nI_add 244 i]; exact q75 w (by omega)
    have st : stI g (some 82) (nI i) (hI g 75 (244 + i)) = some (sI g 82 (upd (hI g 82) i (hI g 75 (244 + i)))) := stI_w w (by decide) rfl (by show i < 300; omega) (by decide)
    obtain ⟨g', a1, f1, n1⟩ := ih (i + 1) F (sI g 82 (upd (hI g 82) i (hI g 75 (244 + i)))) (by omega) ((WF_sI _ _ _).mpr w)
    refine ⟨g', ?_, (Fr.sI g (by decide)).trans f1, fun j => ?_⟩
    · rw [g_X8_calendar_17, if_neg (show ¬ (300 : Int32) ≤ nI i from nI_ge (b := 300) (by omega) (by omega)), gR_w (q := 74) (ci := 8) (j := 9) w (by decide) rfl rfl, bd_some, show tR 74 9 = some 82 from rfl, M_75 w, bd_some, l75, bd_some, st, bd_some, nI_1]
      exact a1
    · rw [n1 j, sI_ne (by decide), sI_eq]
      unfold upd
      by_cases c1 : j = i
      · rw [if_neg (by omega), if_pos c1, if_pos (by omega), c1]
      · by_cases c2 : i + 1 ≤ j ∧ j < 300
        · rw [if_pos c2, if_pos (by omega)]
        · rw [if_neg c2, if_neg c1, if_neg (by omega)]
theorem cal54 {v : Int32} : ∀ (m i F : Nat) (g : AH), i + m = 300 → WF g → ∃ g', g_X8_calendar_54 (F + m + 1) g (some 74) v (nI i) = some (v, g') ∧ Fr g g' [75] ∧ ∀ j, hI g' 75 j = if 244 + i ≤ j ∧ j < 544 then hI g 82 (j - 244) else hI g 75 j := by
  intro m
  induction m with
  | zero =>
    intro i F g hi w
    refine ⟨g, ?_, Fr.rf _ _, fun j => by rw [if_neg (by omega)]⟩
    rw [show F + 0 + 1 = F + 1 from rfl, g_X8_calendar_54, if_pos (show (300 : Int32) ≤ nI i from nI_le (a := 300) (by omega) (by omega))]
  | succ m ih =>
    intro i F g hi w
    have l82 : ldI g (some 82) (nI i) = some (hI g 82 i) := ldI_w w (by decide) rfl (by show i < 300; omega) (by decide)
    have st : stI g (some 75) (244 + nI i) (hI g 82 i) = some (sI g 75 (upd (hI g 75) (244 + i) (hI g 82 i))) := by rw [show 244 + nI i = nI (244 + i) from nI_add 244 i]; exact stI_w w (by decide) rfl (by show 244 + i < 556; omega) (by decide)
    obtain ⟨g', a1, f1, n1⟩ := ih (i + 1) F (sI g 75 (upd (hI g 75) (244 + i) (hI g 82 i))) (by omega) ((WF_sI _ _ _).mpr w)
    refine ⟨g', ?_, (Fr.sI g (by decide)).trans f1, fun j => ?_⟩
    · rw [g_X8_calendar_54, if_neg (show ¬ (300 : Int32) ≤ nI i from nI_ge (b := 300) (by omega) (by omega)), M_75 w, bd_some, gR_w (q := 74) (ci := 8) (j := 9) w (by decide) rfl rfl, bd_some, show tR 74 9 = some 82 from rfl, l82, bd_some, st, bd_some, nI_1]
      exact a1
    · rw [n1 j, sI_ne (by decide), sI_eq]
      unfold upd
      by_cases c1 : j = 244 + i
      · rw [if_neg (by omega), if_pos c1, if_pos (by omega), show j - 244 = i by omega]
      · by_cases c2 : 244 + (i + 1) ≤ j ∧ j < 544
        · rw [if_pos c2, if_pos (by omega)]
        · rw [if_neg c2, if_neg c1, if_neg (by omega)]
theorem save_sp {h : AH} (w : WF h) : ∃ h1, f_X6_saveRows h (some 11) = some h1 ∧ Fr h h1 [14] ∧ ∀ j, j < 350 → hI h1 14 j = hI h 13 j := by
  have w1 := w.1
  have cp : cpI h (some 13) 0 (some 14) 0 (nI 350) = some (sI h 14 (va_cpy (hI h 13) (hI h 14) 0 0 350)) := by
    simp only [cpI]
    rw [w.2.1 13 (by omega), w.2.1 14 (by omega), if_pos ⟨⟨by omega, rfl⟩, ⟨by omega, rfl⟩, ⟨by decide, by decide, by decide⟩, by decide, by decide⟩]
    rfl
  refine ⟨sI h 14 (va_cpy (hI h 13) (hI h 14) 0 0 350), ?_, Fr.sI h (by decide), fun j hj => ?_⟩
  · unfold f_X6_saveRows
    rw [gR_w (q := 11) (ci := 6) (j := 1) w (by decide) rfl rfl, bd_some, show tR 11 1 = some 13 from rfl, gR_w (q := 11) (ci := 6) (j := 2) w (by decide) rfl rfl, bd_some, show tR 11 2 = some 14 from rfl, bd_some, lenA_w w (by decide) rfl, bd_some, show (shq 13).2 = 350 from rfl, cp, bd_some]
  · rw [sI_eq, pk_cpy_in (by omega) (by omega), Nat.zero_add, Nat.sub_zero]
theorem back_sp {h : AH} (w : WF h) : ∃ h1, f_X6_bringRowsBack h (some 11) = some h1 ∧ Fr h h1 [13] ∧ ∀ j, hI h1 13 j = if j < 350 then hI h 14 j else hI h 13 j := by
  have w1 := w.1
  have cp : cpI h (some 14) 0 (some 13) 0 (nI 350) = some (sI h 13 (va_cpy (hI h 14) (hI h 13) 0 0 350)) := by
    simp only [cpI]
    rw [w.2.1 13 (by omega), w.2.1 14 (by omega), if_pos ⟨⟨by omega, rfl⟩, ⟨by omega, rfl⟩, ⟨by decide, by decide, by decide⟩, by decide, by decide⟩]
    rfl
  refine ⟨sI h 13 (va_cpy (hI h 14) (hI h 13) 0 0 350), ?_, Fr.sI h (by decide), fun j => ?_⟩
  · unfold f_X6_bringRowsBack
    rw [gR_w (q := 11) (ci := 6) (j := 2) w (by decide) rfl rfl, bd_some, show tR 11 2 = some 14 from rfl, gR_w (q := 11) (ci := 6) (j := 1) w (by decide) rfl rfl, bd_some, show tR 11 1 = some 13 from rfl, bd_some, lenA_w w (by decide) rfl, bd_some, show (shq 13).2 = 350 from rfl, cp, bd_some]
  · rw [sI_eq]
    by_cases c : j < 350
    · rw [if_pos c, pk_cpy_in (by omega) (by omega), Nat.zero_add, Nat.sub_zero]
    · rw [if_neg c, pk_cpy_out (by omega)]
theorem op_calendar (x : Int32) : OpOk (fun h => f_X7_calendar h (some 0) x) (fun h => f_X8_calendar h (some 74) x) := by
  intro h w r
  obtain ⟨C, r1, -⟩ := id r
  obtain ⟨-, -, -, -, -, ⟨l1, l2, l3, -⟩, -⟩ := id r1
  have t3' : ∀ f, hI (sI h 0 f) 75 5 = nI C.2.2.2.1 := fun f => by rw [sI_ne (by decide)]; exact l3
  rcases set_cases (n := C.2.2.2.1) (by omega) x with ⟨e1, e2⟩ | ⟨e1, e2, m, hm, rfl⟩
  · exact fin_ok (a := fun h => f_X7_calendar h (some 0) x) (b := fun h => f_X8_calendar h (some 74) x) (x := -100001) w r (by show f_X7_calendar h (some 0) x = _; unfold f_X7_calendar; rw [O_7 w, bd_some, e7_isSet w l2, bd2_some, if_neg e1, if_neg (fun q => q rfl), O_7 w, bd_some, bd2_id]) (fun f => by show f_X8_calendar (sI h 0 f) (some 74) x = _; unfold f_X8_calendar; rw [O_8 (w0 w f), bd_some, e8_isSet (w0 w f) (by omega) (t3' f), bd2_some, if_neg (fun q => q e2), O_8 (w0 w f), bd_some, bd2_id])
  have p2 : 2 ^ C.2.2.2.1 ≤ 2 ^ 10 := Nat.pow_le_pow_right (by omega) (by omega)
  have hbit : ∀ t, t < 10 → (((nI m >>> (nI t &&& 31)) &&& 1) = 1 ↔ bt (nI m) t = true) := fun t ht => refbit (by omega) ht
  obtain ⟨ha, a1, fa, na⟩ := save_sp w
  have wa := WF_fr fa w
  have Ra : Rd (hI ha) (hI h 75) C := Rd_ag r1 (Ag_of fa (by decide))
  obtain ⟨D', N', got, s1, s2, s3, s4, s5, s6⟩ := sched_both hbit Ra
  obtain ⟨hb, b1, fb, b2⟩ := s5 ha ⟨wa, fun _ _ => rfl⟩
  have wb := WF_fr fb wa
  obtain ⟨hc, c1, fc, nc⟩ := back_sp wb
  have wc := WF_fr fc wb
  have e13 : hI hc 13 = hI h 13 := by
    refine funext fun j => ?_
    rw [nc j]
    by_cases c : j < 350
    · rw [if_pos c, fb.2.2.2.2 14 (by decide), na j c]
    · rw [if_neg c, b2.2 13 (by omega), s3 j (by omega), fa.2.2.2.2 13 (by decide)]
  have fA : Fr h hc [14, 15, 16, 17, 18] := by
    have f0 : Fr h hc [13, 14, 15, 16, 17, 18] := (fa.mono (by decide)).trans ((fb.mono (by decide)).trans (fc.mono (by decide)))
    refine ⟨f0.1, f0.2.1, f0.2.2.1, f0.2.2.2.1, fun k hk => ?_⟩
    by_cases e : k = 13
    · subst e; exact e13
    · exact f0.2.2.2.2 k (fun z => by
        rcases List.mem_cons.mp z with q | q
        · exact e q
        · exact hk q)
  obtain ⟨-, rc⟩ := jnk fA (by decide) w r
  have n75 : hI hc 75 = hI h 75 := fA.2.2.2.2 75 (by decide)
  obtain ⟨F, hF⟩ := NN_ge 300 (by omega)
  obtain ⟨g1, d1, fd, nd⟩ := cal17 (set := nI m) 300 0 F hc rfl wc
  have wd := WF_fr fd wc
  obtain ⟨g2, i1, fi, ni⟩ := s6 g1 wd (by rw [fd.2.2.2.2 75 (by decide)]; exact n75)
  have wi := WF_fr fi wd
  obtain ⟨g3, j1, fj, nj⟩ := cal54 (v := nI got) 300 0 F g2 rfl wi
  have wj := WF_fr fj wi
  have e75 : hI g3 75 = hI hc 75 := by
    refine funext fun j => ?_
    rw [nj j]
    by_cases c : 244 + 0 ≤ j ∧ j < 544
    · rw [if_pos c, fi.2.2.2.2 82 (by decide), nd, if_pos (by omega), show 244 + (j - 244) = j by omega]
    · rw [if_neg c, ni, s4 j (by omega), n75]
  have fB : Fr hc g3 [80, 81, 82] := by
    have f0 : Fr hc g3 [75, 80, 81, 82] := (fd.mono (by decide)).trans ((fi.mono (by decide)).trans (fj.mono (by decide)))
    refine ⟨f0.1, f0.2.1, f0.2.2.1, f0.2.2.2.1, fun k hk => ?_⟩
    by_cases e : k = 75
    · subst e; exact e75
    · exact f0.2.2.2.2 k (fun z => by
        rcases List.mem_cons.mp z with q | q
        · exact e q
        · exact hk q)
  obtain ⟨-, rj⟩ := jnk fB (by decide) wc rc
  refine ⟨nI got, hc, g3, ?_, ?_, wj, rj, by rw [fB.2.2.1, fA.2.2.1]; omega, by rw [fB.2.2.2.1, fA.2.2.2.1]; omega⟩
  · show f_X7_calendar h (some 0) (nI m) = _
    unfold f_X7_calendar
    rw [O_7 w, bd_some, e7_isSet w l2, bd2_some, if_pos e1, if_pos (by decide), P_11 w, bd_some, O_11 w, bd_some, a1, bd_some, P_15 wa, bd_some, P_1 wa, bd_some, P_11 wa, bd_some, O_15 wa, bd_some, b1, bd2_some, P_11 wb, bd_some, O_11 wb, bd_some, c1, bd_some]
  · show f_X8_calendar hc (some 74) (nI m) = _
    unfold f_X8_calendar
    rw [O_8 wc, bd_some, e8_isSet wc (n := C.2.2.2.1) (by omega) (by rw [n75]; exact l3), bd2_some, if_pos (by rw [e2]; decide), hF, show (0 : Int32) = nI 0 from rfl, d1, i1, bd2_some, hF, show (0 : Int32) = nI 0 from rfl, j1]
theorem op_fill (x : Int32) : OpOk (fun h => f_X7_fill h (some 0) x) (fun h => f_X8_fill h (some 74) x) := by
  intro h w r
  obtain ⟨C, r1, r2, r3, nx, sz, q1, q2, q3, q4, q5, q6⟩ := id r
  obtain ⟨-, -, -, -, -, ⟨l1, l2, l3, -⟩, -⟩ := id r1
  have t3' : ∀ f, hI (sI h 0 f) 75 5 = nI C.2.2.2.1 := fun f => by rw [sI_ne (by decide)]; exact l3
  rcases set_cases (n := C.2.2.2.1) (by omega) x with ⟨e1, e2⟩ | ⟨e1, e2, m, hm, rfl⟩
  · exact fin_ok (a := fun h => f_X7_fill h (some 0) x) (b := fun h => f_X8_fill h (some 74) x) (x := -100001) w r (by show f_X7_fill h (some 0) x = _; unfold f_X7_fill; rw [O_7 w, bd_some, e7_isSet w l2, bd2_some, if_neg e1, if_neg (fun q => q rfl), O_7 w, bd_some, bd2_id]) (fun f => by show f_X8_fill (sI h 0 f) (some 74) x = _; unfold f_X8_fill; rw [O_8 (w0 w f), bd_some, e8_isSet (w0 w f) (by omega) (t3' f), bd2_some, if_neg (fun q => q e2), O_8 (w0 w f), bd_some, bd2_id])
  have p2 : 2 ^ C.2.2.2.1 ≤ 2 ^ 10 := Nat.pow_le_pow_right (by omega) (by omega)
  have hbit : ∀ t, t < 10 → (((nI m >>> (nI t &&& 31)) &&& 1) = 1 ↔ bt (nI m) t = true) := fun t ht => refbit (by omega) ht
  obtain ⟨hk, k0, wk, k1, k65, ckk⟩ := ck_rng (a := 35 * 0) (m := 35 * C.2.2.2.1) (r := 13) w q1 q3 q2 q4 (by decide) (by show 35 * 0 + 35 * C.2.2.2.1 ≤ 350; omega)
  have kt : f_X7_keepTrips h (some 0) 0 (nI C.2.2.2.1) = some hk := by rw [show (0 : Int32) = nI 0 from rfl, e7_keepTrips w]; exact k0
  obtain ⟨D', N', got, s1, s2, s3, s4, s5, s6⟩ := sched_both hbit r1
  obtain ⟨hb, b1, fb, b2⟩ := s5 hk ⟨wk, fun q hq => k1 q (by omega)⟩
  have wb := WF_fr fb wk
  have fg : Fr h (hn h, hs h, hS h, (fun k => if k ∈ [15, 16, 17, 18] then hI hb k else hI h k), hR h) [15, 16, 17, 18] := ⟨rfl, rfl, rfl, rfl, fun k hk => by
    show (if k ∈ [15, 16, 17, 18] then hI hb k else hI h k) = hI h k
    rw [if_neg hk]⟩
  have ck := ckk hb _ [15, 16, 17, 18] (by decide) fb fg (fun k hk => by
    show hI hb k = (if k ∈ [15, 16, 17, 18] then hI hb k else hI h k)
    rw [if_pos hk]) (fun j hj => by rw [b2.2 13 (by omega), s3 j (by omega)])
  have n65 : ∀ k, 65 ≤ k → k < 86 → hI hb k = hI h k := fun k ha hb => by rw [fb.2.2.2.2 k (by simp <;> omega), k65 k ha hb]
  obtain ⟨g2, d1, wg2, fd, mkk⟩ := mk_keep wb q2 (by rw [n65 74 (by omega) (by omega)]; exact q5)
  have g75 : hI g2 75 = hI h 75 := by rw [fd.2.2.2.2 75 (by decide), n65 75 (by omega) (by omega)]
  obtain ⟨g3, i1, fi, ni⟩ := s6 g2 wg2 g75
  obtain ⟨c, c1, c2⟩ := split_fr (S1 := [75]) (S2 := [80, 81]) fi
  have D4 : ∀ k, k < 23 → hI c k = hI hb k := fun k hk => by rw [c1.2.2.2.2 k (by simp <;> omega), fd.2.2.2.2 k (by simp <;> omega)]
  have DD : ∀ k, k ∈ [2, 3, 4, 5, 6, 7, 8, 9, 10, 12, 13, 20, 21] → hI c k = D' k := fun k hk => by
    have h23 : k < 23 := by simp at hk; omega
    rw [D4 k h23]
    by_cases e : k < 15
    · exact b2.2 k e
    · have e2 : k = 20 ∨ k = 21 := by simp at hk; omega
      rw [s2 k (by omega), fb.2.2.2.2 k (by simp; omega), k1 k h23]
  have z := act w r1 r2 r3 q1 q2 q6 fg (fun k hk => by simp at hk; omega) (Ag_of (C := C) fg (by decide)) ck (mkk c c1) (C2 := C) (by
    refine Rd_n (Rd_ag s1 ?_) (fun j _ => by rw [← c2.2.2.2.2 75 (by decide), ni])
    refine ⟨fun j => ?_, fun j => ?_, fun j => ?_, fun j => ?_, fun j => ?_, fun c _ => ⟨?_, ?_⟩, fun c _ => ⟨?_, ?_, ?_⟩, fun c _ => ?_, fun t j _ _ => ?_, fun a _ => ?_⟩ <;> rw [DD _ (by decide)]) (leC_rf C)
  obtain ⟨z1, z2, z3, z4⟩ := z
  obtain ⟨y1, y2⟩ := jnk c2 (by decide) z1 z2
  refine ⟨nI got, hb, g3, ?_, ?_, y1, y2, by rw [c2.2.2.1]; exact z3, by rw [c2.2.2.2.1]; exact z4⟩
  · show f_X7_fill h (some 0) (nI m) = _
    unfold f_X7_fill
    rw [O_7 w, bd_some, e7_isSet w l2, bd2_some, if_pos e1, if_pos (by decide), P_11 w, bd_some, O_11 w, bd_some, e7_size w, bd2_some, l2, O_7 w, bd_some, kt, bd_some, P_15 wk, bd_some, P_1 wk, bd_some, P_11 wk, bd_some, O_15 wk, bd_some, b1, bd2_some]
  · show f_X8_fill hb (some 74) (nI m) = _
    unfold f_X8_fill
    rw [O_8 wb, bd_some, e8_isSet wb (n := C.2.2.2.1) (by omega) (by rw [n65 75 (by omega) (by omega)]; exact l3), bd2_some, if_pos (by rw [e2]; decide), O_8 wb, bd_some, d1, bd_some, O_8 wg2, bd_some, i1, bd2_some]
