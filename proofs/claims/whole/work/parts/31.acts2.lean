/-! trip, launch, night -/
theorem wr_ex {h : AH} (w : WF h) {t j : Nat} {jj v : Int32} (hj : 35 * t + j < 350) (e : jj = nI j) : ∃ h1, f_X6_write h (some 11) (nI t) jj v = some h1 ∧ WF h1 ∧ Fr h h1 [13] ∧ ∀ i, hI h1 13 i = if i = 35 * t + j then v else hI h 13 i := by
  subst e
  exact ⟨_, e6_write w hj, (WF_sI _ _ _).mpr w, Fr.sI h (by decide), fun i => by rw [sI_eq]; rfl⟩
theorem st_ex {h : AH} (w : WF h) {i : Nat} {ii v : Int32} (hi : i < 556) (e : ii = nI i) : ∃ h1, stI h (some 75) ii v = some h1 ∧ WF h1 ∧ Fr h h1 [75] ∧ ∀ j, hI h1 75 j = if j = i then v else hI h 75 j := by
  subst e
  exact ⟨_, stI_w w (by decide) rfl hi (by decide), (WF_sI _ _ _).mpr w, Fr.sI h (by decide), fun i => by rw [sI_eq]; rfl⟩
theorem mk_keep {h2 : AH} (w2 : WF h2) {sz : Nat} (q2 : sz ≤ 20) (q5 : hI h2 74 2 = nI sz) : ∃ h3, f_X8_keep h2 (some 74) = some h3 ∧ WF h3 ∧ Fr h2 h3 [74, 76] ∧ ∀ h4, Fr h3 h4 [75] → MK h2 h4 sz := by
  obtain ⟨h3, e3, f3, a3, s1, s2, s3⟩ := e8_keep w2 q2 q5
  refine ⟨h3, e3, WF_fr f3 w2, f3, fun h4 f4 => ?_⟩
  have sn : snf h4 = snf h3 := by unfold snf; rw [f4.2.2.2.2 76 (by decide)]
  exact ⟨(f3.mono (by decide)).trans (f4.mono (by decide)), fun j => by rw [f4.2.2.2.2 74 (by decide)]; exact a3 j, by rw [sn]; exact s1, by rw [sn]; exact s2, by rw [sn]; exact s3⟩
theorem Rd_k {D D2 : RW} {n : Nat → Int32} {C : CT} (h : Rd D n C) (e : ∀ k, k < 23 → D2 k = D k) : Rd D2 n C := Rd_ag h (Ag_rows (fun k j hk => by rw [e k hk]))
/-- an act where the reference's search has used its rows as well -/
theorem act2 {h hg h1 h2 h3 : AH} {C C2 : CT} {nx sz : Nat} {S : List Nat} (w : WF h) (r1 : Rd (hI h) (hI h 75) C) (r2 : Sh h) (r3 : hI h 0 6 = hI h 74 6) (q1 : nx < 20) (q2 : sz ≤ 20) (q6 : Hist (PVf h) (snf h) sz (hI h) C nx)
    (fg : Fr h hg S) (hS1 : ∀ k, k ∈ S → 0 < k ∧ k < 23) (ag : Ag (hI h) (hI hg) C) (ck : CK hg h1 nx sz) (mk : MK h1 h2 sz) (f3 : Fr h2 h3 [80, 81]) (new : Rd (hI h3) (hI h3 75) C2) (le : leC C C2) : WF h3 ∧ Rel h3 ∧ hn h3 ≤ hn h + 1 ∧ hs h3 ≤ hs h + 350 := by
  have ek : ∀ k, k ≠ 80 → k ≠ 81 → hI h3 k = hI h2 k := fun k a b => f3.2.2.2.2 k (by simp [a, b])
  obtain ⟨z1, z2, z3, z4⟩ := act (C2 := C2) w r1 r2 r3 q1 q2 q6 fg hS1 ag ck mk (by rw [← ek 75 (by omega) (by omega)]; exact Rd_k new (fun k hk => (ek k (by omega) (by omega)).symm)) le
  have sh2 : Sh h2 := by obtain ⟨C', -, s, -⟩ := z2; exact s
  have ff2 : hI h2 0 6 = hI h2 74 6 := by obtain ⟨C', -, -, s, -⟩ := z2; exact s
  refine ⟨WF_fr f3 z1, Rel_of z1 z2 (fun k hk => ek k (by intro e; subst e; exact absurd hk (by decide)) (by intro e; subst e; exact absurd hk (by decide))) f3.1 f3.2.1 (Sh_of sh2 (fun k hk => ek k (by omega) (by omega))) (by rw [ek 0 (by omega) (by omega), ek 74 (by omega) (by omega)]; exact ff2) (by rw [ek 74 (by omega) (by omega)]), by rw [f3.2.2.1]; exact z3, by rw [f3.2.2.2.1]; exact z4⟩
theorem i194 {t j : Nat} : 194 + 5 * nI t + nI j = nI (194 + 5 * t + j) := by rw [show (5 : Int32) = nI 5 from rfl, show (194 : Int32) = nI 194 from rfl, pk_mul, nI_add, nI_add]
theorem op_trip (x y z u v : Int32) : OpOk (fun h => f_X7_trip h (some 0) x y z u v) (fun h => f_X8_trip h (some 74) x y z u v) := by
  intro h w r
  obtain ⟨C0, r10, -⟩ := id r
  obtain ⟨-, -, -, -, -, ⟨l1, l2, l3, -⟩, -⟩ := r10
  have l3' : ∀ f, ldI (sI h 0 f) (some 75) 5 = some (nI C0.2.2.2.1) := fun f => by rw [← l3, show ldI (sI h 0 f) (some 75) 5 = _ from q75 (w0 w f) (i := 5) (by omega), sI_ne (by decide)]
  rcases win_nI (x := x) (a := 0) (b := 3) (by omega) (by omega) with e1 | ⟨e1, k1, d1, d1', rfl⟩
  · have e1' : win x 0 3 = 0 := e1
    exact fin_ok (a := fun h => f_X7_trip h (some 0) x y z u v) (b := fun h => f_X8_trip h (some 74) x y z u v) (x := -100001) w r (by show f_X7_trip h (some 0) x y z u v = _; unfold f_X7_trip; rw [e7_isKind, bd2_some, if_pos e1', isO_w (q := 0) (ci := 7) w (by decide) rfl, bd_some, bd2_id]) (fun f => by show f_X8_trip (sI h 0 f) (some 74) x y z u v = _; unfold f_X8_trip; rw [e8_isIn, bd2_some, if_pos e1', isO_w (q := 74) (ci := 8) (w0 w f) (by decide) rfl, bd_some, bd2_id])
  have e1' : win (nI k1) 0 3 = 1 := e1
  have z1 : ¬ win (nI k1) 0 3 = 0 := by rw [e1']; decide
  rcases win_nI (x := y) (a := 0) (b := 29) (by omega) (by omega) with e2 | ⟨e2, k2, d2, d2', rfl⟩
  · have e2' : win y 0 29 = 0 := e2
    exact fin_ok (a := fun h => f_X7_trip h (some 0) (nI k1) y z u v) (b := fun h => f_X8_trip h (some 74) (nI k1) y z u v) (x := -100001) w r (by show f_X7_trip h (some 0) (nI k1) y z u v = _; unfold f_X7_trip; rw [e7_isKind, bd2_some, if_neg z1, e7_isDay, bd2_some, if_pos e2', isO_w (q := 0) (ci := 7) w (by decide) rfl, bd_some, bd2_id]) (fun f => by show f_X8_trip (sI h 0 f) (some 74) (nI k1) y z u v = _; unfold f_X8_trip; rw [e8_isIn, bd2_some, if_neg z1, e8_isDay, bd2_some, if_pos e2', isO_w (q := 74) (ci := 8) (w0 w f) (by decide) rfl, bd_some, bd2_id])
  have e2' : win (nI k2) 0 29 = 1 := e2
  have z2 : ¬ win (nI k2) 0 29 = 0 := by rw [e2']; decide
  rcases win_nI (x := z) (a := 1) (b := 60) (by omega) (by omega) with e3 | ⟨e3, k3, d3, d3', rfl⟩
  · have e3' : win z 1 60 = 0 := e3
    exact fin_ok (a := fun h => f_X7_trip h (some 0) (nI k1) (nI k2) z u v) (b := fun h => f_X8_trip h (some 74) (nI k1) (nI k2) z u v) (x := -100001) w r (by show f_X7_trip h (some 0) (nI k1) (nI k2) z u v = _; unfold f_X7_trip; rw [e7_isKind, bd2_some, if_neg z1, e7_isDay, bd2_some, if_neg z2, e7_within, bd2_some, if_pos e3', isO_w (q := 0) (ci := 7) w (by decide) rfl, bd_some, bd2_id]) (fun f => by show f_X8_trip (sI h 0 f) (some 74) (nI k1) (nI k2) z u v = _; unfold f_X8_trip; rw [e8_isIn, bd2_some, if_neg z1, e8_isDay, bd2_some, if_neg z2, e8_isIn, bd2_some, if_pos e3', isO_w (q := 74) (ci := 8) (w0 w f) (by decide) rfl, bd_some, bd2_id])
  have e3' : win (nI k3) 1 60 = 1 := e3
  have z3 : ¬ win (nI k3) 1 60 = 0 := by rw [e3']; decide
  rcases win_nI (x := u) (a := 1) (b := 15) (by omega) (by omega) with e4 | ⟨e4, k4, d4, d4', rfl⟩
  · have e4' : win u 1 15 = 0 := e4
    exact fin_ok (a := fun h => f_X7_trip h (some 0) (nI k1) (nI k2) (nI k3) u v) (b := fun h => f_X8_trip h (some 74) (nI k1) (nI k2) (nI k3) u v) (x := -100001) w r (by show f_X7_trip h (some 0) (nI k1) (nI k2) (nI k3) u v = _; unfold f_X7_trip; rw [e7_isKind, bd2_some, if_neg z1, e7_isDay, bd2_some, if_neg z2, e7_within, bd2_some, if_neg z3, e7_within, bd2_some, if_pos e4', isO_w (q := 0) (ci := 7) w (by decide) rfl, bd_some, bd2_id]) (fun f => by show f_X8_trip (sI h 0 f) (some 74) (nI k1) (nI k2) (nI k3) u v = _; unfold f_X8_trip; rw [e8_isIn, bd2_some, if_neg z1, e8_isDay, bd2_some, if_neg z2, e8_isIn, bd2_some, if_neg z3, e8_isIn, bd2_some, if_pos e4', isO_w (q := 74) (ci := 8) (w0 w f) (by decide) rfl, bd_some, bd2_id])
  have e4' : win (nI k4) 1 15 = 1 := e4
  have z4 : ¬ win (nI k4) 1 15 = 0 := by rw [e4']; decide
  rcases win_nI (x := v) (a := 0) (b := 2) (by omega) (by omega) with e5 | ⟨e5, k5, d5, d5', rfl⟩
  · have e5' : win v 0 2 = 0 := e5
    exact fin_ok (a := fun h => f_X7_trip h (some 0) (nI k1) (nI k2) (nI k3) (nI k4) v) (b := fun h => f_X8_trip h (some 74) (nI k1) (nI k2) (nI k3) (nI k4) v) (x := -100001) w r (by show f_X7_trip h (some 0) (nI k1) (nI k2) (nI k3) (nI k4) v = _; unfold f_X7_trip; rw [e7_isKind, bd2_some, if_neg z1, e7_isDay, bd2_some, if_neg z2, e7_within, bd2_some, if_neg z3, e7_within, bd2_some, if_neg z4, e7_within, bd2_some, if_neg (fun z => z e5'), isO_w (q := 0) (ci := 7) w (by decide) rfl, bd_some, bd2_id]) (fun f => by show f_X8_trip (sI h 0 f) (some 74) (nI k1) (nI k2) (nI k3) (nI k4) v = _; unfold f_X8_trip; rw [e8_isIn, bd2_some, if_neg z1, e8_isDay, bd2_some, if_neg z2, e8_isIn, bd2_some, if_neg z3, e8_isIn, bd2_some, if_neg z4, e8_isIn, bd2_some, if_neg (fun z => z e5'), isO_w (q := 74) (ci := 8) (w0 w f) (by decide) rfl, bd_some, bd2_id])
  have e5' : win (nI k5) 0 2 = 1 := e5
  have z5 : ¬ win (nI k5) 0 2 = 0 := by rw [e5']; decide
  by_cases e6 : C0.2.2.2.1 = 10
  · have c1 : ¬ nI 10 < (10 : Int32) := by decide
    rw [e6] at l2 l3'
    exact fin_ok (a := fun h => f_X7_trip h (some 0) (nI k1) (nI k2) (nI k3) (nI k4) (nI k5)) (b := fun h => f_X8_trip h (some 74) (nI k1) (nI k2) (nI k3) (nI k4) (nI k5)) (x := -100005) w r (by show f_X7_trip h (some 0) (nI k1) (nI k2) (nI k3) (nI k4) (nI k5) = _; unfold f_X7_trip; rw [e7_isKind, bd2_some, if_neg z1, e7_isDay, bd2_some, if_neg z2, e7_within, bd2_some, if_neg z3, e7_within, bd2_some, if_neg z4, e7_within, bd2_some, if_pos z5, gR_w (q := 0) (ci := 7) (j := 1) w (by decide) rfl rfl, bd_some, show tR 0 1 = some 11 from rfl, isO_w (q := 11) (ci := 6) w (by decide) rfl, bd_some, e7_size w, bd2_some, l2, if_neg c1, isO_w (q := 0) (ci := 7) w (by decide) rfl, bd_some, bd2_id]) (fun f => by show f_X8_trip (sI h 0 f) (some 74) (nI k1) (nI k2) (nI k3) (nI k4) (nI k5) = _; unfold f_X8_trip; rw [e8_isIn, bd2_some, if_neg z1, e8_isDay, bd2_some, if_neg z2, e8_isIn, bd2_some, if_neg z3, e8_isIn, bd2_some, if_neg z4, e8_isIn, bd2_some, if_pos z5, gR_w (q := 74) (ci := 8) (j := 0) (w0 w f) (by decide) rfl rfl, bd_some, show tR 74 0 = some 75 from rfl, l3' f, bd_some, if_neg (fun z => z rfl), isO_w (q := 74) (ci := 8) (w0 w f) (by decide) rfl, bd_some, bd2_id])
  obtain ⟨C, r1, r2, r3, nx, sz, q1, q2, q3, q4, q5, q6⟩ := r
  obtain ⟨rb, rc, rp, rl, rwt, rt, ra⟩ := id r1
  obtain ⟨b1, b2, b3, b4⟩ := id rt
  have ec : C.2.2.2.1 = C0.2.2.2.1 := (nI_eq (by omega) (by omega)).mp (b2.symm.trans l2)
  rw [← ec] at e6 l2 l3
  generalize hkk : C.2.2.2.1 = k at *
  have c1 : nI k < (10 : Int32) := (lt_nI (c := 10) (by omega) (by omega)).mpr (by omega)
  have c2 : ¬ nI k = (10 : Int32) := fun z => e6 ((nI_eq (b := 10) (by omega) (by omega)).mp z)
  obtain ⟨g1, a1, w1, f1, n1⟩ := wr_ex w (t := k) (j := 0) (jj := 0) (v := nI k1) (by omega) rfl
  obtain ⟨g2, a2, w2, f2, n2⟩ := wr_ex w1 (t := k) (j := 1) (jj := 1) (v := nI k2) (by omega) rfl
  obtain ⟨g3, a3, w3, f3, n3⟩ := wr_ex w2 (t := k) (j := 2) (jj := 2) (v := nI k3) (by omega) rfl
  obtain ⟨g4, a4, w4, f4, n4⟩ := wr_ex w3 (t := k) (j := 3) (jj := 3) (v := nI k4) (by omega) rfl
  obtain ⟨g5, a5, w5, f5, n5⟩ := wr_ex w4 (t := k) (j := 4) (jj := 4) (v := nI k5) (by omega) rfl
  obtain ⟨hg, a6, f6, n6⟩ := e6_clear w5 (t := k) (by omega)
  have wg : WF hg := WF_fr f6 w5
  have fg : Fr h hg [13] := ((((f1.trans f2).trans f3).trans f4).trans f5).trans f6
  have G : ∀ i, hI hg 13 i = if 35 * k + 5 ≤ i ∧ i < 35 * k + 35 then -1 else if i = 35 * k + 4 then nI k5 else if i = 35 * k + 3 then nI k4 else if i = 35 * k + 2 then nI k3 else if i = 35 * k + 1 then nI k2 else if i = 35 * k + 0 then nI k1 else hI h 13 i := fun i => by rw [n6 i, n5 i, n4 i, n3 i, n2 i, n1 i]
  have gg : ∀ j, j ≠ 13 → hI hg j = hI h j := fun j h1 => fg.2.2.2.2 j (by simp [h1])
  obtain ⟨h1, h2, c1', c2', c3, c4, c5, c6, c7, c8⟩ := chg_ok (hg := hg) (r := 12) (i := 0) (k := 5) (v := nI (k + 1)) (v2 := nI (k + 1)) (C2 := (C.1, C.2.1, C.2.2.1, k + 1, C.2.2.2.2)) w r1 r2 r3 q1 q2 q3 q4 q5 q6 fg (by decide) ⟨fun j => by rw [gg 2 (by omega)], fun j => by rw [gg 3 (by omega)], fun j => by rw [gg 4 (by omega)], fun j => by rw [gg 12 (by omega)], fun j => by rw [gg 20 (by omega)], fun c hc => ⟨by rw [gg 5 (by omega)], by rw [gg 6 (by omega)]⟩, fun c hc => ⟨by rw [gg 7 (by omega)], by rw [gg 8 (by omega)], by rw [gg 9 (by omega)]⟩, fun c _ => by rw [gg 10 (by omega)], fun t j ht hj => by rw [G, if_neg (by omega), if_neg (by omega), if_neg (by omega), if_neg (by omega), if_neg (by omega), if_neg (by omega)], fun c _ => by rw [gg 21 (by omega)]⟩ (by decide) (by decide) (by omega) (by rw [gg 12 (by omega), b2, b3]) ⟨Nat.le_refl _, Nat.le_refl _, Nat.le_refl _, by show C.2.2.2.1 ≤ k + 1; omega, Nat.le_refl _⟩
  rw [gg 12 (by omega), b2] at c1' c4
  obtain ⟨p1, s1, y1, x1, m1⟩ := st_ex c5 (i := 194 + 5 * k + 0) (ii := 194 + 5 * nI k + 0) (v := nI k1) (by omega) i194
  obtain ⟨p2, s2, y2, x2, m2⟩ := st_ex y1 (i := 194 + 5 * k + 1) (ii := 194 + 5 * nI k + 1) (v := nI k2) (by omega) i194
  obtain ⟨p3, s3, y3, x3, m3⟩ := st_ex y2 (i := 194 + 5 * k + 2) (ii := 194 + 5 * nI k + 2) (v := nI k3) (by omega) i194
  obtain ⟨p4, s4, y4, x4, m4⟩ := st_ex y3 (i := 194 + 5 * k + 3) (ii := 194 + 5 * nI k + 3) (v := nI k4) (by omega) i194
  obtain ⟨p5, s5, y5, x5, m5⟩ := st_ex y4 (i := 194 + 5 * k + 4) (ii := 194 + 5 * nI k + 4) (v := nI k5) (by omega) i194
  obtain ⟨h3, s6, x6, m6⟩ := e8_clear y5 (t := k) (by omega)
  have fN : Fr h2 h3 [75] := ((((x1.trans x2).trans x3).trans x4).trans x5).trans x6
  have N : ∀ j, hI h3 75 j = if 244 + 30 * k ≤ j ∧ j < 244 + 30 * k + 30 then -1 else if j = 194 + 5 * k + 4 then nI k5 else if j = 194 + 5 * k + 3 then nI k4 else if j = 194 + 5 * k + 2 then nI k3 else if j = 194 + 5 * k + 1 then nI k2 else if j = 194 + 5 * k + 0 then nI k1 else if j = 5 then nI (k + 1) else hI h 75 j := fun j => by rw [m6 j, m5 j, m4 j, m3 j, m2 j, m1 j, c7 j]
  have kk : ∀ j, j < 23 → j ≠ 12 → j ≠ 13 → hI h3 j = hI h j := fun j h1 h2 h3 => by rw [fN.2.2.2.2 j (by simp; omega), c6 j h1, if_neg h2]; exact gg j h3
  have k12 : hI h3 12 0 = nI (k + 1) := by rw [fN.2.2.2.2 12 (by decide), c6 12 (by omega), if_pos rfl]; simp [upd]
  have k13 : hI h3 13 = hI hg 13 := by rw [fN.2.2.2.2 13 (by decide), c6 13 (by omega), if_neg (by decide)]
  have nn : ∀ j, j ≠ 5 → (j < 194 ∨ (194 + 5 * k + 4 < j ∧ j < 244 + 30 * k) ∨ 544 ≤ j) → hI h3 75 j = hI h 75 j := fun j h1 h2 => by rw [N, if_neg (by omega), if_neg (by omega), if_neg (by omega), if_neg (by omega), if_neg (by omega), if_neg (by omega), if_neg h1]
  refine ⟨nI k, h1, h3, ?_, ?_, c8 _ fN ⟨?_, ?_, ?_, ?_, ?_, ⟨by show k + 1 ≤ 10; omega, k12, ?_, fun t ht => ⟨?_, fun j hj => ?_, fun d hd => ?_⟩⟩, ?_⟩⟩
  · show f_X7_trip h (some 0) (nI k1) (nI k2) (nI k3) (nI k4) (nI k5) = _
    unfold f_X7_trip
    rw [e7_isKind, bd2_some, if_neg z1, e7_isDay, bd2_some, if_neg z2, e7_within, bd2_some, if_neg z3, e7_within, bd2_some, if_neg z4, e7_within, bd2_some, if_pos z5, gR_w (q := 0) (ci := 7) (j := 1) w (by decide) rfl rfl, bd_some, show tR 0 1 = some 11 from rfl, isO_w (q := 11) (ci := 6) w (by decide) rfl, bd_some, e7_size w, bd2_some, l2, if_pos c1, gR_w (q := 0) (ci := 7) (j := 1) w (by decide) rfl rfl, bd_some, show tR 0 1 = some 11 from rfl, isO_w (q := 11) (ci := 6) w (by decide) rfl, bd_some, a1, bd_some, gR_w (q := 0) (ci := 7) (j := 1) w1 (by decide) rfl rfl, bd_some, show tR 0 1 = some 11 from rfl, isO_w (q := 11) (ci := 6) w1 (by decide) rfl, bd_some, a2, bd_some, gR_w (q := 0) (ci := 7) (j := 1) w2 (by decide) rfl rfl, bd_some, show tR 0 1 = some 11 from rfl, isO_w (q := 11) (ci := 6) w2 (by decide) rfl, bd_some, a3, bd_some, gR_w (q := 0) (ci := 7) (j := 1) w3 (by decide) rfl rfl, bd_some, show tR 0 1 = some 11 from rfl, isO_w (q := 11) (ci := 6) w3 (by decide) rfl, bd_some, a4, bd_some, gR_w (q := 0) (ci := 7) (j := 1) w4 (by decide) rfl rfl, bd_some, show tR 0 1 = some 11 from rfl, isO_w (q := 11) (ci := 6) w4 (by decide) rfl, bd_some, a5, bd_some, gR_w (q := 0) (ci := 7) (j := 1) w5 (by decide) rfl rfl, bd_some, show tR 0 1 = some 11 from rfl, isO_w (q := 11) (ci := 6) w5 (by decide) rfl, bd_some, a6, bd_some, gR_w (q := 0) (ci := 7) (j := 1) wg (by decide) rfl rfl, bd_some, show tR 0 1 = some 11 from rfl, gR_w (q := 11) (ci := 6) (j := 0) wg (by decide) rfl rfl, bd_some, show tR 11 0 = some 12 from rfl, isO_w (q := 0) (ci := 7) wg (by decide) rfl, bd_some, bd2_id, nI_1]
    exact c1'
  · show f_X8_trip h1 (some 74) (nI k1) (nI k2) (nI k3) (nI k4) (nI k5) = _
    have lm : ldI h1 (some 75) 5 = some (nI k) := by rw [← b3, ← c3 75 (by omega) (by omega)]; exact q75 c2' (i := 5) (by omega)
    have c4' : f_X8_becomes h1 (some 74) 5 (nI (k + 1)) = some (nI k, h2) := c4
    unfold f_X8_trip
    rw [e8_isIn, bd2_some, if_neg z1, e8_isDay, bd2_some, if_neg z2, e8_isIn, bd2_some, if_neg z3, e8_isIn, bd2_some, if_neg z4, e8_isIn, bd2_some, if_pos z5, gR_w (q := 74) (ci := 8) (j := 0) c2' (by decide) rfl rfl, bd_some, show tR 74 0 = some 75 from rfl, lm, bd_some, if_pos c2, bd_some, lm, bd_some, isO_w (q := 74) (ci := 8) c2' (by decide) rfl, bd_some, nI_1, c4', bd2_some, gR_w (q := 74) (ci := 8) (j := 0) c5 (by decide) rfl rfl, bd_some, show tR 74 0 = some 75 from rfl, s1, bd_some, gR_w (q := 74) (ci := 8) (j := 0) y1 (by decide) rfl rfl, bd_some, show tR 74 0 = some 75 from rfl, s2, bd_some, gR_w (q := 74) (ci := 8) (j := 0) y2 (by decide) rfl rfl, bd_some, show tR 74 0 = some 75 from rfl, s3, bd_some, gR_w (q := 74) (ci := 8) (j := 0) y3 (by decide) rfl rfl, bd_some, show tR 74 0 = some 75 from rfl, s4, bd_some, gR_w (q := 74) (ci := 8) (j := 0) y4 (by decide) rfl rfl, bd_some, show tR 74 0 = some 75 from rfl, s5, bd_some, isO_w (q := 74) (ci := 8) y5 (by decide) rfl, bd_some, s6, bd_some]
  · exact rB_c rb (kk 2 (by omega) (by omega) (by omega)) (nn 0 (by omega) (by omega)) (nn 1 (by omega) (by omega))
  · exact rC_c rc (by rw [kk 3 (by omega) (by omega) (by omega)]) (kk 5 (by omega) (by omega) (by omega)) (kk 6 (by omega) (by omega) (by omega)) (nn 2 (by omega) (by omega)) (fun j _ _ => nn j (by omega) (by omega))
  · exact rP_c rp (by rw [kk 3 (by omega) (by omega) (by omega)]) (kk 7 (by omega) (by omega) (by omega)) (kk 8 (by omega) (by omega) (by omega)) (kk 9 (by omega) (by omega) (by omega)) (nn 3 (by omega) (by omega)) (fun j _ _ => nn j (by omega) (by omega))
  · exact rL_c rl (by rw [kk 3 (by omega) (by omega) (by omega)]) (kk 10 (by omega) (by omega) (by omega)) (nn 4 (by omega) (by omega)) (fun j _ _ => nn j (by omega) (by omega))
  · exact rW_c rwt (kk 4 (by omega) (by omega) (by omega)) (fun j _ _ => nn j (by omega) (by omega))
  · rw [N, if_neg (by omega), if_neg (by omega), if_neg (by omega), if_neg (by omega), if_neg (by omega), if_neg (by omega), if_pos rfl]
  · have ht' : t < k + 1 := ht
    by_cases et : t = k
    · subst et
      refine ⟨k1, k2, k3, k4, k5, d1', d2', ⟨d3, d3'⟩, ⟨d4, d4'⟩, d5', ?_, ?_, ?_, ?_, ?_, fun u hu d hd _ => ?_⟩
      · rw [k13, G, if_neg (by omega), if_neg (by omega), if_neg (by omega), if_neg (by omega), if_neg (by omega), if_pos rfl]
      · rw [k13, G, if_neg (by omega), if_neg (by omega), if_neg (by omega), if_neg (by omega), if_pos rfl]
      · rw [k13, G, if_neg (by omega), if_neg (by omega), if_neg (by omega), if_pos rfl]
      · rw [k13, G, if_neg (by omega), if_neg (by omega), if_pos rfl]
      · rw [k13, G, if_neg (by omega), if_pos rfl]
      · rw [k13, G, if_pos (by omega)]
    · obtain ⟨⟨x, l, p, f, o, v1, v2, v3, v4, v5, v6, v7, v8, v9, v10, hu⟩, -⟩ := b4 t (by omega)
      have go : ∀ i, i < 35 * k → hI h3 13 i = hI h 13 i := fun i hi => by rw [k13, G, if_neg (by omega), if_neg (by omega), if_neg (by omega), if_neg (by omega), if_neg (by omega), if_neg (by omega)]
      exact ⟨x, l, p, f, o, v1, v2, v3, v4, v5, by rw [go _ (by omega)]; exact v6, by rw [go _ (by omega)]; exact v7, by rw [go _ (by omega)]; exact v8, by rw [go _ (by omega)]; exact v9, by rw [go _ (by omega)]; exact v10, fun u hut d hd => by rw [go _ (by omega), go _ (by omega)]; exact hu u hut d hd⟩
  · have ht' : t < k + 1 := ht
    by_cases et : t = k
    · subst et
      rw [k13]
      match j, hj with
      | 0, _ => rw [N, if_neg (by omega), if_neg (by omega), if_neg (by omega), if_neg (by omega), if_neg (by omega), if_pos rfl, G, if_neg (by omega), if_neg (by omega), if_neg (by omega), if_neg (by omega), if_neg (by omega), if_pos rfl]
      | 1, _ => rw [N, if_neg (by omega), if_neg (by omega), if_neg (by omega), if_neg (by omega), if_pos rfl, G, if_neg (by omega), if_neg (by omega), if_neg (by omega), if_neg (by omega), if_pos rfl]
      | 2, _ => rw [N, if_neg (by omega), if_neg (by omega), if_neg (by omega), if_pos rfl, G, if_neg (by omega), if_neg (by omega), if_neg (by omega), if_pos rfl]
      | 3, _ => rw [N, if_neg (by omega), if_neg (by omega), if_pos rfl, G, if_neg (by omega), if_neg (by omega), if_pos rfl]
      | 4, _ => rw [N, if_neg (by omega), if_pos rfl, G, if_neg (by omega), if_pos rfl]
      | j + 5, hj => omega
    · obtain ⟨-, v2, -⟩ := b4 t (by omega)
      rw [k13, G, if_neg (by omega), if_neg (by omega), if_neg (by omega), if_neg (by omega), if_neg (by omega), if_neg (by omega), N, if_neg (by omega), if_neg (by omega), if_neg (by omega), if_neg (by omega), if_neg (by omega), if_neg (by omega), if_neg (by omega)]
      exact v2 j hj
  · have ht' : t < k + 1 := ht
    rw [k13]
    by_cases et : t = k
    · subst et
      rw [N, if_pos (by omega), G, if_pos (by omega)]
      exact ⟨rfl, Or.inl rfl⟩
    · obtain ⟨-, -, v2⟩ := b4 t (by omega)
      rw [G, if_neg (by omega), if_neg (by omega), if_neg (by omega), if_neg (by omega), if_neg (by omega), if_neg (by omega), N, if_neg (by omega), if_neg (by omega), if_neg (by omega), if_neg (by omega), if_neg (by omega), if_neg (by omega), if_neg (by omega)]
      exact v2 d hd
  · exact rA_c ra (by rw [kk 20 (by omega) (by omega) (by omega)]) (kk 21 (by omega) (by omega) (by omega)) (nn 6 (by omega) (by omega)) (fun j _ _ => nn j (by omega) (by omega))
