/-! launch, night -/
theorem mk_bec {h2 : AH} (w2 : WF h2) {sz i : Nat} {v : Int32} (q2 : sz ≤ 20) (q5 : hI h2 74 2 = nI sz) (hi : i < 556) : ∃ h3, f_X8_becomes h2 (some 74) (nI i) v = some (hI h2 75 i, h3) ∧ WF h3 ∧ Fr h2 h3 [74, 75, 76] ∧ (∀ j, hI h3 75 j = if j = i then v else hI h2 75 j) ∧ ∀ h4, Fr h3 h4 [75] → MK h2 h4 sz := by
  obtain ⟨h3, e3, f3, a3, b3, s1, s2, s3⟩ := e8_becomes (v := v) w2 q2 q5 hi
  refine ⟨h3, e3, WF_fr f3 w2, f3, b3, fun h4 f4 => ?_⟩
  have sn : snf h4 = snf h3 := by unfold snf; rw [f4.2.2.2.2 76 (by decide)]
  exact ⟨f3.trans (f4.mono (by decide)), fun j => by rw [f4.2.2.2.2 74 (by decide)]; exact a3 j, by rw [sn]; exact s1, by rw [sn]; exact s2, by rw [sn]; exact s3⟩
theorem e7_keepTrips {h : AH} (w : WF h) {t n : Nat} : f_X7_keepTrips h (some 0) (nI t) (nI n) = f_X1_keep h (some 23) (some 13) (nI (35 * t)) (nI (35 * n)) := by
  unfold f_X7_keepTrips
  have x1 : nI t * 35 + 0 = nI (35 * t) := by rw [show (35 : Int32) = nI 35 from rfl, pk_mul, Int32.add_zero, Nat.mul_comm]
  have x2 : nI n * 35 = nI (35 * n) := by rw [show (35 : Int32) = nI 35 from rfl, pk_mul, Nat.mul_comm]
  rw [gR_w (q := 0) (ci := 7) (j := 4) w (by decide) rfl rfl, bd_some, show tR 0 4 = some 23 from rfl, gR_w (q := 0) (ci := 7) (j := 1) w (by decide) rfl rfl, bd_some, show tR 0 1 = some 11 from rfl, gR_w (q := 11) (ci := 6) (j := 1) w (by decide) rfl rfl, bd_some, show tR 11 1 = some 13 from rfl, bd_some, isO_w (q := 11) (ci := 6) w (by decide) rfl, bd_some]
  unfold f_X6_index
  rw [bd2_some, isO_w (q := 23) (ci := 1) w (by decide) rfl, bd_some, x1, x2]
  cases f_X1_keep h (some 23) (some 13) (nI (35 * t)) (nI (35 * n)) <;> rfl
/-- one trip's numbers and nights change -/
theorem Rd_up {D D2 : RW} {n n2 : Nat → Int32} {C : CT} {t : Nat} (R : Rd D n C) (ht : t < C.2.2.2.1) (kk : ∀ k, k ∈ [2, 3, 4, 5, 6, 7, 8, 9, 10, 12, 20, 21] → D2 k = D k)
    (nn : ∀ j, j < 556 → (j < 194 + 5 * t ∨ 194 + 5 * t + 5 ≤ j) → (j < 244 + 30 * t ∨ 244 + 30 * t + 30 ≤ j) → n2 j = n j) (dd : ∀ i, (i < 35 * t ∨ 35 * t + 35 ≤ i) → D2 13 i = D 13 i)
    (num : ∃ k l p f o : Nat, k ≤ 3 ∧ l ≤ 29 ∧ (1 ≤ p ∧ p ≤ 60) ∧ (1 ≤ f ∧ f ≤ 15) ∧ o ≤ 2 ∧ D2 13 (35 * t + 0) = nI k ∧ D2 13 (35 * t + 1) = nI l ∧ D2 13 (35 * t + 2) = nI p ∧ D2 13 (35 * t + 3) = nI f ∧ D2 13 (35 * t + 4) = nI o)
    (same : ∀ j, j < 5 → n2 (194 + 5 * t + j) = D2 13 (35 * t + j))
    (nts : ∀ d, d < 30 → n2 (244 + 30 * t + d) = D2 13 (35 * t + (5 + d)) ∧ (D2 13 (35 * t + (5 + d)) = -1 ∨ ∃ c, c < C.1 ∧ D2 13 (35 * t + (5 + d)) = nI c ∧ ∀ u, u < C.2.2.2.1 → u ≠ t → D 13 (35 * u + (5 + d)) ≠ nI c)) : Rd D2 n2 C := by
  obtain ⟨rb, rc, rp, rl, rwt, ⟨t1, t2, t3, t4⟩, ra⟩ := R
  refine ⟨rB_c rb (kk 2 (by decide)) (nn 0 (by omega) (by omega) (by omega)) (nn 1 (by omega) (by omega) (by omega)), rC_c rc (by rw [kk 3 (by decide)]) (kk 5 (by decide)) (kk 6 (by decide)) (nn 2 (by omega) (by omega) (by omega)) (fun j _ _ => nn j (by omega) (by omega) (by omega)), rP_c rp (by rw [kk 3 (by decide)]) (kk 7 (by decide)) (kk 8 (by decide)) (kk 9 (by decide)) (nn 3 (by omega) (by omega) (by omega)) (fun j _ _ => nn j (by omega) (by omega) (by omega)), rL_c rl (by rw [kk 3 (by decide)]) (kk 10 (by decide)) (nn 4 (by omega) (by omega) (by omega)) (fun j _ _ => nn j (by omega) (by omega) (by omega)), rW_c rwt (kk 4 (by decide)) (fun j _ _ => nn j (by omega) (by omega) (by omega)), ⟨t1, by rw [kk 12 (by decide)]; exact t2, by rw [nn 5 (by omega) (by omega) (by omega)]; exact t3, fun x hx => ?_⟩, rA_c ra (by rw [kk 20 (by decide)]) (kk 21 (by decide)) (nn 6 (by omega) (by omega) (by omega)) (fun j _ _ => nn j (by omega) (by omega) (by omega))⟩
  by_cases e : x = t
  · subst e
    obtain ⟨k, l, p, f, o, h1, h2, h3, h4, h5, h6, h7, h8, h9, h10⟩ := num
    refine ⟨⟨k, l, p, f, o, h1, h2, h3, h4, h5, h6, h7, h8, h9, h10, fun u hu d hd q => ?_⟩, same, fun d hd => ⟨(nts d hd).1, (nts d hd).2.imp id (fun ⟨c, hc, e, _⟩ => ⟨c, hc, e⟩)⟩⟩
    rcases (nts d hd).2 with z | ⟨c, hc, z, zu⟩
    · exact z
    · exact absurd (by rw [← dd _ (by omega), q, z]) (zu u (by omega) (by omega))
  · obtain ⟨⟨k, l, p, f, o, h1, h2, h3, h4, h5, h6, h7, h8, h9, h10, hu⟩, g2, g3⟩ := t4 x hx
    refine ⟨⟨k, l, p, f, o, h1, h2, h3, h4, h5, by rw [dd _ (by omega)]; exact h6, by rw [dd _ (by omega)]; exact h7, by rw [dd _ (by omega)]; exact h8, by rw [dd _ (by omega)]; exact h9, by rw [dd _ (by omega)]; exact h10, fun u hut d hd q => ?_⟩, fun j hj => by rw [dd _ (by omega), nn _ (by omega) (by omega) (by omega)]; exact g2 j hj, fun d hd => by rw [dd _ (by omega), nn _ (by omega) (by omega) (by omega)]; exact g3 d hd⟩
    by_cases e2 : u = t
    · subst e2
      rcases (nts d hd).2 with z | ⟨c, hc, z, zu⟩
      · rw [← q]; exact z
      · exact absurd (by rw [← dd _ (by omega), ← q, z]) (zu x hx e)
    · rw [dd _ (by omega), dd _ (by omega)] at q
      rw [dd _ (by omega)]
      exact hu u hut d hd q
theorem op_launch (x y : Int32) : OpOk (fun h => f_X7_launch h (some 0) x y) (fun h => f_X8_launch h (some 74) x y) := by
  intro h w r
  obtain ⟨C0, r10, -⟩ := id r
  obtain ⟨-, -, -, -, -, ⟨l1, l2, l3, -⟩, -⟩ := r10
  have h100 : C0.2.2.2.1 ≤ 100 := by omega
  have t3' : ∀ f, hI (sI h 0 f) 75 5 = nI C0.2.2.2.1 := fun f => by rw [sI_ne (by decide)]; exact l3
  rcases ixw_cases x (k := C0.2.2.2.1) (by omega) with e | ⟨e, t, ht, rfl⟩
  · exact fin_ok (a := fun h => f_X7_launch h (some 0) x y) (b := fun h => f_X8_launch h (some 74) x y) (x := -100001) w r (by show f_X7_launch h (some 0) x y = _; simp (disch := first | (simp only [WF_sI]; exact w) | exact (w) | decide | (simp only [shq]; omega)) only [bd_some, bd2_some, bd2_id, i10, i00, not_true_eq_false, not_false_eq_true, if_true, if_false, ↓reduceIte, gR_w, gI_w, pI_w, isO_w, ldI_w, stI_w, ldZ_w, stZ_w, lenA_w, tR, f_X7_launch, e7_isTrip w l2 h100, e]) (fun f => by show f_X8_launch (sI h 0 f) (some 74) x y = _; simp (disch := first | (simp only [WF_sI]; exact w0 w f) | exact (w0 w f) | decide | (simp only [shq]; omega)) only [bd_some, bd2_some, bd2_id, i10, i00, not_true_eq_false, not_false_eq_true, if_true, if_false, ↓reduceIte, gR_w, gI_w, pI_w, isO_w, ldI_w, stI_w, ldZ_w, stZ_w, lenA_w, tR, f_X8_launch, e8_isTrip (w0 w f) (t3' f), e])
  rcases win_nI (x := y) (a := 0) (b := 29) (by omega) (by omega) with e2 | ⟨e2, d, d1, d2, rfl⟩
  · have e2' : win y 0 29 = 0 := e2
    exact fin_ok (a := fun h => f_X7_launch h (some 0) (nI t) y) (b := fun h => f_X8_launch h (some 74) (nI t) y) (x := -100001) w r (by show f_X7_launch h (some 0) (nI t) y = _; simp (disch := first | (simp only [WF_sI]; exact w) | exact (w) | decide | (simp only [shq]; omega)) only [bd_some, bd2_some, bd2_id, i10, i00, not_true_eq_false, not_false_eq_true, if_true, if_false, ↓reduceIte, gR_w, gI_w, pI_w, isO_w, ldI_w, stI_w, ldZ_w, stZ_w, lenA_w, tR, f_X7_launch, e7_isTrip w l2 h100, e, e7_isDay, e2']) (fun f => by show f_X8_launch (sI h 0 f) (some 74) (nI t) y = _; simp (disch := first | (simp only [WF_sI]; exact w0 w f) | exact (w0 w f) | decide | (simp only [shq]; omega)) only [bd_some, bd2_some, bd2_id, i10, i00, not_true_eq_false, not_false_eq_true, if_true, if_false, ↓reduceIte, gR_w, gI_w, pI_w, isO_w, ldI_w, stI_w, ldZ_w, stZ_w, lenA_w, tR, f_X8_launch, e8_isTrip (w0 w f) (t3' f), e, e8_isDay, e2'])
  have e2' : ¬ win (nI d) 0 29 = 0 := by rw [show win (nI d) 0 29 = 1 from e2]; decide
  have e' : ¬ ixw (nI t) C0.2.2.2.1 = 0 := by rw [e]; decide
  obtain ⟨C, r1, r2, r3, nx, sz, q1, q2, q3, q4, q5, q6⟩ := r
  obtain ⟨rb, rc, rp, rl, rwt, rt, ra⟩ := id r1
  obtain ⟨b1, b2, b3, b4⟩ := id rt
  have ec : C.2.2.2.1 = C0.2.2.2.1 := (nI_eq (by omega) (by omega)).mp (b2.symm.trans l2)
  obtain ⟨⟨k, l, p, f, o, v1, v2, v3, v4, v5, v6, v7, v8, v9, v10, hu⟩, g2, g3⟩ := b4 t (by omega)
  obtain ⟨h1, e1, w1, k1, k65, ckk⟩ := ck_rng (a := 35 * t) (m := 35) (r := 13) w q1 q3 q2 q4 (by decide) (by show 35 * t + 35 ≤ 350; omega)
  have kt : f_X7_keepTrips h (some 0) (nI t) 1 = some h1 := by rw [show (1 : Int32) = nI 1 from rfl, e7_keepTrips w]; exact e1
  obtain ⟨ha, a1, wa, fa, na⟩ := wr_ex w1 (t := t) (j := 1) (jj := 1) (v := nI d) (by omega) rfl
  obtain ⟨hb, a2, fb, nb⟩ := e6_clear wa (t := t) (by omega)
  have rd : f_X6_read h1 (some 11) (nI t) 1 = some (nI l, h1) := by rw [← v7, ← k1 13 (by omega)]; exact e6_read (j := 1) w1 (by omega)
  have fab : Fr h1 hb [13] := fa.trans fb
  have G : ∀ i, hI hb 13 i = if 35 * t + 5 ≤ i ∧ i < 35 * t + 35 then -1 else if i = 35 * t + 1 then nI d else hI h 13 i := fun i => by rw [nb i, na i, k1 13 (by omega)]
  have ck := ckk hb h [] (fun k hk => by cases hk) fab (Fr.rf h _) (fun k hk => by cases hk) (fun j hj => by rw [G, if_neg (by omega), if_neg (by omega)])
  have n74 : hI hb 74 2 = nI sz := by rw [fab.2.2.2.2 74 (by decide), k65 74 (by omega) (by omega)]; exact q5
  have n75 : hI hb 75 = hI h 75 := by rw [fab.2.2.2.2 75 (by decide), k65 75 (by omega) (by omega)]
  obtain ⟨h2, e3, w2, f2, m2, mkk⟩ := mk_bec ck.1 (i := 194 + 5 * t + 1) (v := nI d) q2 n74 (by omega)
  obtain ⟨h3, e4, f3, m3⟩ := e8_clear w2 (t := t) (by omega)
  have N : ∀ j, hI h3 75 j = if 244 + 30 * t ≤ j ∧ j < 244 + 30 * t + 30 then -1 else if j = 194 + 5 * t + 1 then nI d else hI h 75 j := fun j => by rw [m3 j, m2 j, n75]
  have D3 : ∀ k, k < 23 → hI h3 k = hI hb k := fun k hk => by rw [f3.2.2.2.2 k (by simp; omega), f2.2.2.2.2 k (by simp; omega)]
  have z := act w r1 r2 r3 q1 q2 q6 (Fr.rf h []) (fun _ z => by cases z) (Ag_rows (fun _ _ _ => rfl)) ck (mkk h3 f3) (C2 := C) (by
    refine Rd_up (t := t) r1 (by omega) (fun k hk => ?_) (fun j _ c1 c2 => by rw [N, if_neg (by omega), if_neg (by omega)]) (fun i hi => by rw [D3 13 (by omega), G, if_neg (by omega), if_neg (by omega)]) ⟨k, d, p, f, o, v1, d2, v3, v4, v5, ?_, ?_, ?_, ?_, ?_⟩ (fun j hj => ?_) (fun j hj => ?_)
    · have : k < 23 ∧ k ≠ 13 := by simp at hk; omega
      rw [D3 k this.1, fab.2.2.2.2 k (by simp [this.2]), k1 k this.1]
    · rw [D3 13 (by omega), G, if_neg (by omega), if_neg (by omega)]; exact v6
    · rw [D3 13 (by omega), G, if_neg (by omega), if_pos rfl]
    · rw [D3 13 (by omega), G, if_neg (by omega), if_neg (by omega)]; exact v8
    · rw [D3 13 (by omega), G, if_neg (by omega), if_neg (by omega)]; exact v9
    · rw [D3 13 (by omega), G, if_neg (by omega), if_neg (by omega)]; exact v10
    · rw [D3 13 (by omega), G, if_neg (by omega), N, if_neg (by omega)]
      by_cases c : j = 1
      · subst c; rw [if_pos rfl, if_pos rfl]
      · rw [if_neg (by omega), if_neg (by omega)]; exact g2 j hj
    · rw [D3 13 (by omega), G, if_pos (by omega), N, if_pos (by omega)]
      exact ⟨rfl, Or.inl rfl⟩) (leC_rf C)
  refine ⟨nI l, hb, h3, ?_, ?_, z⟩
  · show f_X7_launch h (some 0) (nI t) (nI d) = _
    unfold f_X7_launch
    rw [isO_w (q := 0) (ci := 7) w (by decide) rfl, bd_some, e7_isTrip w l2 h100, bd2_some, if_neg e', e7_isDay, bd2_some, if_pos e2', isO_w (q := 0) (ci := 7) w (by decide) rfl, bd_some, kt, bd_some, gR_w (q := 0) (ci := 7) (j := 1) w1 (by decide) rfl rfl, bd_some, show tR 0 1 = some 11 from rfl, isO_w (q := 11) (ci := 6) w1 (by decide) rfl, bd_some, rd, bd2_some, gR_w (q := 0) (ci := 7) (j := 1) w1 (by decide) rfl rfl, bd_some, show tR 0 1 = some 11 from rfl, isO_w (q := 11) (ci := 6) w1 (by decide) rfl, bd_some, a1, bd_some, gR_w (q := 0) (ci := 7) (j := 1) wa (by decide) rfl rfl, bd_some, show tR 0 1 = some 11 from rfl, isO_w (q := 11) (ci := 6) wa (by decide) rfl, bd_some, a2, bd_some]
  · show f_X8_launch hb (some 74) (nI t) (nI d) = _
    have x1 : 194 + 5 * nI t + 1 = nI (194 + 5 * t + 1) := i194 (j := 1)
    unfold f_X8_launch
    rw [isO_w (q := 74) (ci := 8) ck.1 (by decide) rfl, bd_some, e8_isTrip ck.1 (k := C0.2.2.2.1) (by rw [n75]; exact l3), bd2_some, if_neg e', e8_isDay, bd2_some, if_pos e2', isO_w (q := 74) (ci := 8) ck.1 (by decide) rfl, bd_some, x1, e3, bd2_some, isO_w (q := 74) (ci := 8) w2 (by decide) rfl, bd_some, e4, bd_some, n75, g2 1 (by omega), v7]
/-- who is in a camp -/
theorem guest_sp {h : AH} (w : WF h) {nt c d : Nat} (hn : nt ≤ 10) (t2 : hI h 12 0 = nI nt) (hd : d < 30) :
    ∀ (k i F : Nat), i + k = nt → ∃ v, g_X6_guest_2 (F + k + 1) h (some 11) (nI c) (nI d) (nI i) = some (v, h) ∧ ((v = -1 ∧ ∀ u, i ≤ u → u < nt → hI h 13 (35 * u + (5 + d)) ≠ nI c) ∨ ∃ u, i ≤ u ∧ u < nt ∧ v = nI u ∧ hI h 13 (35 * u + (5 + d)) = nI c) := by
  intro k
  induction k with
  | zero =>
    intro i F hi
    have c1 : nI nt ≤ nI i := nI_le (by omega) (by omega)
    refine ⟨-1, ?_, Or.inl ⟨rfl, fun u h1 h2 => by omega⟩⟩
    rw [show F + 0 + 1 = F + 1 from rfl, g_X6_guest_2, isO_w (q := 11) (ci := 6) w (by decide) rfl, bd_some, e7_size w, bd2_some, t2, if_pos c1]
  | succ k ih =>
    intro i F hi
    have c1 : ¬ nI nt ≤ nI i := nI_ge (by omega) (by omega)
    have rd : f_X6_read h (some 11) (nI i) (5 + nI d) = some (hI h 13 (35 * i + (5 + d)), h) := by
      rw [show 5 + nI d = nI (5 + d) from nI_add 5 d]; exact e6_read w (by omega)
    rw [g_X6_guest_2, isO_w (q := 11) (ci := 6) w (by decide) rfl, bd_some, e7_size w, bd2_some, t2, if_neg c1, isO_w (q := 11) (ci := 6) w (by decide) rfl, bd_some, rd, bd2_some, nI_1]
    by_cases cw : ¬ hI h 13 (35 * i + (5 + d)) = nI c
    · rw [if_pos cw]
      obtain ⟨v, v1, v2⟩ := ih (i + 1) F (by omega)
      refine ⟨v, v1, ?_⟩
      rcases v2 with ⟨a, b⟩ | ⟨u, a, b, e1, e2⟩
      · refine Or.inl ⟨a, fun u h1 h2 => ?_⟩
        by_cases e : u = i
        · rw [e]; exact cw
        · exact b u (by omega) h2
      · exact Or.inr ⟨u, by omega, b, e1, e2⟩
    · rw [if_neg cw]
      exact ⟨nI i, rfl, Or.inr ⟨i, Nat.le_refl _, by omega, rfl, Decidable.not_not.mp cw⟩⟩
theorem other_sp {g : AH} (w : WF g) {nt c d t : Nat} (hn : nt ≤ 10) (t3 : hI g 75 5 = nI nt) (hd : d < 30) (ht : t < 100) :
    ∀ (k i F : Nat), i + k = nt → ∃ v, g_X8_other_3 (F + k + 1) g (some 74) (nI c) (nI d) (nI t) (nI i) = some (v, g) ∧ ((v = -1 ∧ ∀ u, i ≤ u → u < nt → u ≠ t → hI g 75 (244 + 30 * u + d) ≠ nI c) ∨ ∃ u, u < nt ∧ v = nI u ∧ u ≠ t ∧ hI g 75 (244 + 30 * u + d) = nI c) := by
  have m5 : ldI g (some 75) 5 = some (nI nt) := by rw [← t3]; exact q75 w (i := 5) (by omega)
  intro k
  induction k with
  | zero =>
    intro i F hi
    have c1 : nI nt ≤ nI i := nI_le (by omega) (by omega)
    refine ⟨-1, ?_, Or.inl ⟨rfl, fun u h1 h2 => by omega⟩⟩
    rw [show F + 0 + 1 = F + 1 from rfl, g_X8_other_3, gR_w (q := 74) (ci := 8) (j := 0) w (by decide) rfl rfl, bd_some, show tR 74 0 = some 75 from rfl, m5, bd_some, if_pos c1]
  | succ k ih =>
    intro i F hi
    have c1 : ¬ nI nt ≤ nI i := nI_ge (by omega) (by omega)
    have md : ldI g (some 75) (nI (244 + 30 * i + d)) = some (hI g 75 (244 + 30 * i + d)) := q75 w (by omega)
    rw [g_X8_other_3, gR_w (q := 74) (ci := 8) (j := 0) w (by decide) rfl rfl, bd_some, show tR 74 0 = some 75 from rfl, m5, bd_some, if_neg c1, nI_1, bd_some, ix244, md, bd_some]
    obtain ⟨v, v1, v2⟩ := ih (i + 1) F (by omega)
    by_cases ct : i = t
    · subst ct
      rw [if_pos rfl]
      refine ⟨v, v1, v2.imp (fun ⟨a, b⟩ => ⟨a, fun u h1 h2 h3 => b u (by omega) h2 h3⟩) id⟩
    · rw [if_neg (fun z => ct ((nI_eq (by omega) (by omega)).mp z))]
      by_cases cw : ¬ hI g 75 (244 + 30 * i + d) = nI c
      · rw [if_pos cw]
        refine ⟨v, v1, v2.imp (fun ⟨a, b⟩ => ⟨a, fun u h1 h2 h3 => ?_⟩) id⟩
        by_cases e : u = i
        · rw [e]; exact cw
        · exact b u (by omega) h2 h3
      · rw [if_neg cw]
        exact ⟨nI i, rfl, Or.inr ⟨i, by omega, rfl, ct, Decidable.not_not.mp cw⟩⟩
theorem e8_mayCamp {g : AH} (w : WF g) {t c k b : Nat} (ht : t < 10) (hc : c < 14) (hk : k ≤ 3) (hb : b ≤ 1) (e1 : hI g 75 (194 + 5 * t + 0) = nI k) (e2 : hI g 75 (8 + 2 * c + 1) = nI b) : f_X8_mayCamp g (some 74) (nI t) (nI c) = some (if k = 2 ∧ b = 1 then 0 else 1, g) := by
  unfold f_X8_mayCamp
  have x1 : 8 + 2 * nI c + 1 = nI (8 + 2 * c + 1) := by rw [show (2 : Int32) = nI 2 from rfl, show (8 : Int32) = nI 8 from rfl, pk_mul, nI_add, nI_1]
  rw [isO_w (q := 74) (ci := 8) w (by decide) rfl, bd_some, show (0 : Int32) = nI 0 from rfl, e8_told w (by omega), bd2_some, e1, gR_w (q := 74) (ci := 8) (j := 0) w (by decide) rfl rfl, bd_some, show tR 74 0 = some 75 from rfl, x1, q75 w (by omega), bd_some, e2]
  by_cases c1 : k = 2
  · subst c1
    rw [if_neg (fun z => z rfl)]
    by_cases c2 : b = 1
    · subst c2; rfl
    · have : b = 0 := by omega
      subst this; rfl
  · have c1' : ¬ nI k = 2 := fun z => c1 ((nI_eq (b := 2) (by omega) (by omega)).mp z)
    rw [if_pos c1', if_neg (by omega)]
theorem op_night (x y z : Int32) : OpOk (fun h => f_X7_night h (some 0) x y z) (fun h => f_X8_night h (some 74) x y z) := by
  intro h w r
  obtain ⟨C0, r10, -⟩ := id r
  obtain ⟨-, ⟨cc1, cc2, cc3, cc4⟩, -, -, -, ⟨l1, l2, l3, l4⟩, -⟩ := r10
  have h100 : C0.2.2.2.1 ≤ 100 := by omega
  have h101 : C0.1 ≤ 100 := by omega
  have t3' : ∀ f, hI (sI h 0 f) 75 5 = nI C0.2.2.2.1 := fun f => by rw [sI_ne (by decide)]; exact l3
  have c3' : ∀ f, hI (sI h 0 f) 75 2 = nI C0.1 := fun f => by rw [sI_ne (by decide)]; exact cc3
  rcases ixw_cases x (k := C0.2.2.2.1) (by omega) with e | ⟨e, t, ht, rfl⟩
  · exact fin_ok (a := fun h => f_X7_night h (some 0) x y z) (b := fun h => f_X8_night h (some 74) x y z) (x := -100001) w r (by show f_X7_night h (some 0) x y z = _; simp (disch := first | (simp only [WF_sI]; exact w) | exact (w) | decide | (simp only [shq]; omega)) only [bd_some, bd2_some, bd2_id, i10, i00, not_true_eq_false, not_false_eq_true, if_true, if_false, ↓reduceIte, gR_w, gI_w, pI_w, isO_w, ldI_w, stI_w, ldZ_w, stZ_w, lenA_w, tR, f_X7_night, e7_isTrip w l2 h100, e]) (fun f => by show f_X8_night (sI h 0 f) (some 74) x y z = _; simp (disch := first | (simp only [WF_sI]; exact w0 w f) | exact (w0 w f) | decide | (simp only [shq]; omega)) only [bd_some, bd2_some, bd2_id, i10, i00, not_true_eq_false, not_false_eq_true, if_true, if_false, ↓reduceIte, gR_w, gI_w, pI_w, isO_w, ldI_w, stI_w, ldZ_w, stZ_w, lenA_w, tR, f_X8_night, e8_isTrip (w0 w f) (t3' f), e])
  have e' : ¬ ixw (nI t) C0.2.2.2.1 = 0 := by rw [e]; decide
  rcases win_nI (x := y) (a := 0) (b := 29) (by omega) (by omega) with e2 | ⟨e2, d, d1, d2, rfl⟩
  · have e2' : win y 0 29 = 0 := e2
    exact fin_ok (a := fun h => f_X7_night h (some 0) (nI t) y z) (b := fun h => f_X8_night h (some 74) (nI t) y z) (x := -100001) w r (by show f_X7_night h (some 0) (nI t) y z = _; simp (disch := first | (simp only [WF_sI]; exact w) | exact (w) | decide | (simp only [shq]; omega)) only [bd_some, bd2_some, bd2_id, i10, i00, not_true_eq_false, not_false_eq_true, if_true, if_false, ↓reduceIte, gR_w, gI_w, pI_w, isO_w, ldI_w, stI_w, ldZ_w, stZ_w, lenA_w, tR, f_X7_night, e7_isTrip w l2 h100, e, e7_isDay, e2']) (fun f => by show f_X8_night (sI h 0 f) (some 74) (nI t) y z = _; simp (disch := first | (simp only [WF_sI]; exact w0 w f) | exact (w0 w f) | decide | (simp only [shq]; omega)) only [bd_some, bd2_some, bd2_id, i10, i00, not_true_eq_false, not_false_eq_true, if_true, if_false, ↓reduceIte, gR_w, gI_w, pI_w, isO_w, ldI_w, stI_w, ldZ_w, stZ_w, lenA_w, tR, f_X8_night, e8_isTrip (w0 w f) (t3' f), e, e8_isDay, e2'])
  have e2' : ¬ win (nI d) 0 29 = 0 := by rw [show win (nI d) 0 29 = 1 from e2]; decide
  obtain ⟨⟨k, l, p, f, o, v1, v2, v3, v4, v5, v6, v7, v8, v9, v10, hu⟩, g2, g3⟩ := l4 t ht
  have O7 : isO h (some 0) 7 = some () := isO_w w (by decide) rfl
  have O8 : ∀ g, WF g → isO g (some 74) 8 = some () := fun g wg => isO_w wg (by decide) rfl
  have T8 : ∀ g, WF g → hI g 75 = hI h 75 → f_X8_isTrip g (some 74) (nI t) = some (ixw (nI t) C0.2.2.2.1, g) := fun g wg hg => e8_isTrip wg (by rw [hg]; exact l3) _
  have C8 : ∀ g x, WF g → hI g 75 = hI h 75 → f_X8_isCamp g (some 74) x = some (ixw x C0.1, g) := fun g x wg hg => e8_isCamp wg (by rw [hg]; exact cc3) _
  -- both write the night
  have fin : ∀ v : Int32, (v = -1 ∨ ∃ c, c < C0.1 ∧ v = nI c ∧ ∀ u, u < C0.2.2.2.1 → u ≠ t → hI h 13 (35 * u + (5 + d)) ≠ nI c) → (f_X7_night h (some 0) (nI t) (nI d) v = j_X7_night_102 h (some 0) (nI t) (nI d) v) → (∀ g, WF g → hI g 75 = hI h 75 → f_X8_night g (some 74) (nI t) (nI d) v = j_X8_night_76 g (some 74) (nI t) (nI d) v) → Ok2 h (fun h => f_X7_night h (some 0) (nI t) (nI d) v) (fun h => f_X8_night h (some 74) (nI t) (nI d) v) := by
    intro v hv r7 r8
    obtain ⟨C, r1, r2, r3, nx, sz, q1, q2, q3, q4, q5, q6⟩ := r
    obtain ⟨rb, rc, rp, rl, rwt, rt, ra⟩ := id r1
    have ec : C.2.2.2.1 = C0.2.2.2.1 := (nI_eq (by have := rt.1; omega) (by omega)).mp (rt.2.1.symm.trans l2)
    have ec2 : C.1 = C0.1 := (nI_eq (by have := rc.1; omega) (by omega)).mp (rc.2.1.symm.trans cc2)
    obtain ⟨h1, h2, c1, c2, c3, c4, c5, c6, c7, c8⟩ := chg_ok (hg := h) (r := 13) (i := 35 * t + (5 + d)) (k := 244 + 30 * t + d) (v := v) (v2 := v) (C2 := C) w r1 r2 r3 q1 q2 q3 q4 q5 q6 (Fr.rf h []) (fun _ z => by cases z) (Ag_rows (fun _ _ _ => rfl)) (by decide) (by show _ < 350; omega) (by omega) (g3 d (by omega)).1.symm (leC_rf C)
    have D3 : ∀ i, hI h2 13 i = if i = 35 * t + (5 + d) then v else hI h 13 i := fun i => by rw [c6 13 (by omega), if_pos rfl]; rfl
    refine ⟨hI h 13 (35 * t + (5 + d)), h1, h2, ?_, ?_, c8 h2 (Fr.rf h2 _) ?_⟩
    · show f_X7_night h (some 0) (nI t) (nI d) v = _
      rw [r7]
      unfold j_X7_night_102 f_X6_index
      have x1 : nI t * 35 + (5 + nI d) = nI (35 * t + (5 + d)) := by rw [show (35 : Int32) = nI 35 from rfl, show (5 : Int32) = nI 5 from rfl, pk_mul, nI_add, nI_add, Nat.mul_comm]
      rw [gR_w (q := 0) (ci := 7) (j := 1) w (by decide) rfl rfl, bd_some, show tR 0 1 = some 11 from rfl, gR_w (q := 11) (ci := 6) (j := 1) w (by decide) rfl rfl, bd_some, show tR 11 1 = some 13 from rfl, bd_some, isO_w (q := 11) (ci := 6) w (by decide) rfl, bd_some, bd2_some, O7, bd_some, x1, bd2_id]
      exact c1
    · show f_X8_night h1 (some 74) (nI t) (nI d) v = _
      rw [r8 h1 c2 (c3 75 (by omega) (by omega))]
      unfold j_X8_night_76
      rw [O8 h1 c2, bd_some, ix244, bd2_id]
      exact c4
    · refine Rd_up (t := t) r1 (by omega) (fun k hk => ?_) (fun j _ y1 y2 => by rw [c7, if_neg (by omega)]) (fun i hi => by rw [D3, if_neg (by omega)]) ⟨k, l, p, f, o, v1, v2, v3, v4, v5, ?_, ?_, ?_, ?_, ?_⟩ (fun j hj => ?_) (fun j hj => ?_)
      · have : k < 23 ∧ k ≠ 13 := by simp at hk; omega
        rw [c6 k this.1, if_neg this.2]
      · rw [D3, if_neg (by omega)]; exact v6
      · rw [D3, if_neg (by omega)]; exact v7
      · rw [D3, if_neg (by omega)]; exact v8
      · rw [D3, if_neg (by omega)]; exact v9
      · rw [D3, if_neg (by omega)]; exact v10
      · rw [D3, if_neg (by omega), c7, if_neg (by omega)]; exact g2 j hj
      · by_cases ej : j = d
        · rw [D3, if_pos (by omega), c7, if_pos (by omega), ej, ec2, ec]
          exact ⟨rfl, hv⟩
        · rw [D3, if_neg (by omega), c7, if_neg (by omega), ec2, ec]
          refine ⟨(g3 j hj).1, (g3 j hj).2.imp id (fun ⟨c, hc, e⟩ => ⟨c, hc, e, fun u hu1 hu2 q => ?_⟩)⟩
          by_cases lt : u < t
          · have := hu u lt j hj (by rw [q, e]); rw [this] at e; exact ne_m1 (by omega) e.symm
          · obtain ⟨⟨_, _, _, _, _, _, _, _, _, _, _, _, _, _, _, hu'⟩, -⟩ := l4 u hu1
            have := hu' t (by omega) j hj (by rw [q, e]); rw [this] at q; exact ne_m1 (by omega) q.symm
  by_cases cz : z = -1
  · subst cz
    refine fin (-1) (Or.inl rfl) ?_ (fun g wg hg => ?_)
    · unfold f_X7_night j_X7_night_35
      rw [O7, bd_some, e7_isTrip w l2 h100, bd2_some, if_neg e', e7_isDay, bd2_some, if_neg e2', if_pos rfl, if_pos rfl]
    · unfold f_X8_night j_X8_night_35 j_X8_night_56
      rw [O8 g wg, bd_some, T8 g wg hg, bd2_some, if_neg e', e8_isDay, bd2_some, if_neg e2', if_pos rfl, if_pos (by decide), if_pos (by decide)]
  rcases ixw_cases z (k := C0.1) (by omega) with e3 | ⟨e3, c, hc, rfl⟩
  · exact fin_ok (a := fun h => f_X7_night h (some 0) (nI t) (nI d) z) (b := fun h => f_X8_night h (some 74) (nI t) (nI d) z) (x := -100001) w r (by show f_X7_night h (some 0) (nI t) (nI d) z = _; unfold f_X7_night; rw [O7, bd_some, e7_isTrip w l2 h100, bd2_some, if_neg e', e7_isDay, bd2_some, if_neg e2', if_neg cz, O7, bd_some, e7_isCamp w cc2 h101, bd2_some, if_neg (fun q => q e3), O7, bd_some, bd2_id]) (fun f => by show f_X8_night (sI h 0 f) (some 74) (nI t) (nI d) z = _; unfold f_X8_night; rw [O8 _ (w0 w f), bd_some, T8 _ (w0 w f) (sI_ne (by decide)), bd2_some, if_neg e', e8_isDay, bd2_some, if_neg e2', if_neg cz, O8 _ (w0 w f), bd_some, C8 _ z (w0 w f) (sI_ne (by decide)), bd2_some, if_neg (fun q => q e3), O8 _ (w0 w f), bd_some, bd2_id])
  have e3' : ¬ ixw (nI c) C0.1 = 0 := by rw [e3]; decide
  have c0 : ¬ nI c < 0 := nI_pos (by omega)
  obtain ⟨F, hF⟩ := NN_ge C0.2.2.2.1 (by omega)
  obtain ⟨v, y1, y2⟩ := guest_sp w (c := c) (d := d) l1 l2 (by omega) C0.2.2.2.1 0 F (by omega)
  rw [← hF] at y1
  have g7 : f_X6_guest h (some 11) (nI c) (nI d) = some (v, h) := y1
  have g8 : ∀ g, WF g → hI g 75 = hI h 75 → ∃ v, f_X8_other g (some 74) (nI c) (nI d) (nI t) = some (v, g) ∧ ((v = -1 ∧ ∀ u, u < C0.2.2.2.1 → u ≠ t → hI h 13 (35 * u + (5 + d)) ≠ nI c) ∨ ∃ u, u < C0.2.2.2.1 ∧ v = nI u ∧ u ≠ t ∧ hI h 13 (35 * u + (5 + d)) = nI c) := by
    intro g wg hg
    obtain ⟨v, y1, y2⟩ := other_sp wg (c := c) (d := d) (t := t) l1 (by rw [hg]; exact l3) (by omega) (by omega) C0.2.2.2.1 0 F (by omega)
    rw [← hF] at y1
    refine ⟨v, y1, ?_⟩
    rcases y2 with ⟨a, b⟩ | ⟨u, a, b, e1, e2⟩
    · exact Or.inl ⟨a, fun u h1 h2 => by rw [← ((l4 u h1).2.2 d (by omega)).1, ← hg]; exact b u (by omega) h1 h2⟩
    · exact Or.inr ⟨u, a, b, e1, by rw [← ((l4 u a).2.2 d (by omega)).1, ← hg]; exact e2⟩
  have s7 : f_X7_night h (some 0) (nI t) (nI d) (nI c) = if v = -1 then j_X7_night_70 h (some 0) (nI t) (nI d) (nI c) else if v = nI t then j_X7_night_70 h (some 0) (nI t) (nI d) (nI c) else f_X7_finding h (some 0) (-100007) := by
    unfold f_X7_night j_X7_night_35
    rw [O7, bd_some, e7_isTrip w l2 h100, bd2_some, if_neg e', e7_isDay, bd2_some, if_neg e2', if_neg cz, O7, bd_some, e7_isCamp w cc2 h101, bd2_some, if_pos e3', if_neg cz, gR_w (q := 0) (ci := 7) (j := 1) w (by decide) rfl rfl, bd_some, show tR 0 1 = some 11 from rfl, isO_w (q := 11) (ci := 6) w (by decide) rfl, bd_some, g7, bd2_some, O7, bd_some, bd2_id]
  have s8 : ∀ g v, WF g → hI g 75 = hI h 75 → f_X8_other g (some 74) (nI c) (nI d) (nI t) = some (v, g) → f_X8_night g (some 74) (nI t) (nI d) (nI c) = if v < 0 then j_X8_night_56 g (some 74) (nI t) (nI d) (nI c) else f_X8_finding g (some 74) (-100007) := by
    intro g v wg hg he
    unfold f_X8_night j_X8_night_35
    rw [O8 g wg, bd_some, T8 g wg hg, bd2_some, if_neg e', e8_isDay, bd2_some, if_neg e2', if_neg cz, O8 g wg, bd_some, C8 g _ wg hg, bd2_some, if_pos e3', if_neg c0, O8 g wg, bd_some, he, bd2_some, O8 g wg, bd_some, bd2_id]
  by_cases tk : ∃ u, u < C0.2.2.2.1 ∧ u ≠ t ∧ hI h 13 (35 * u + (5 + d)) = nI c
  · obtain ⟨u, u1, u2, u3⟩ := tk
    have nv : ¬ v = -1 ∧ ¬ v = nI t := by
      rcases y2 with ⟨a, b⟩ | ⟨u', a, b, e1, e2⟩
      · exact absurd u3 (b u (by omega) u1)
      · refine ⟨by rw [e1]; exact ne_m1 (by omega), fun q => ?_⟩
        rw [e1] at q
        have eu : u' = t := (nI_eq (by omega) (by omega)).mp q
        subst eu
        by_cases lt : u < u'
        · have := hu u lt d (by omega) (by rw [u3, e2]); rw [this] at e2; exact ne_m1 (by omega) e2.symm
        · obtain ⟨⟨_, _, _, _, _, _, _, _, _, _, _, _, _, _, _, hu'⟩, -⟩ := l4 u u1
          have := hu' u' (by omega) d (by omega) (by rw [u3, e2]); rw [this] at u3; exact ne_m1 (by omega) u3.symm
    exact fin_ok (a := fun h => f_X7_night h (some 0) (nI t) (nI d) (nI c)) (b := fun h => f_X8_night h (some 74) (nI t) (nI d) (nI c)) (x := -100007) w r (by show f_X7_night h (some 0) (nI t) (nI d) (nI c) = _; rw [s7, if_neg nv.1, if_neg nv.2]) (fun f => by show f_X8_night (sI h 0 f) (some 74) (nI t) (nI d) (nI c) = _; obtain ⟨v', a1, a2⟩ := g8 (sI h 0 f) (w0 w f) (sI_ne (by decide)); rw [s8 _ v' (w0 w f) (sI_ne (by decide)) a1, if_neg (by rcases a2 with ⟨-, b⟩ | ⟨q, b1, b2, -⟩; exact absurd u3 (b u u1 u2); rw [b2]; exact nI_pos (by omega))])
  have pv : v = -1 ∨ v = nI t := by
    rcases y2 with ⟨a, b⟩ | ⟨u', a, b, e1, e2⟩
    · exact Or.inl a
    · by_cases eu : u' = t
      · exact Or.inr (by rw [e1, eu])
      · exact absurd ⟨u', b, eu, e2⟩ tk
  have s7' : f_X7_night h (some 0) (nI t) (nI d) (nI c) = j_X7_night_70 h (some 0) (nI t) (nI d) (nI c) := by
    rw [s7]
    rcases pv with e | e
    · rw [if_pos e]
    · rw [if_pos e]; split <;> rfl
  have s8' : ∀ g, WF g → hI g 75 = hI h 75 → f_X8_night g (some 74) (nI t) (nI d) (nI c) = j_X8_night_56 g (some 74) (nI t) (nI d) (nI c) := by
    intro g wg hg
    obtain ⟨v', a1, a2⟩ := g8 g wg hg
    rw [s8 g v' wg hg a1]
    rcases a2 with ⟨a, -⟩ | ⟨u, b1, b2, b3, b4⟩
    · rw [a, if_pos (by decide)]
    · exact absurd ⟨u, b1, b3, b4⟩ tk
  obtain ⟨m, b, m1, m2, m3, m4, m5, m6⟩ := cc4 c hc
  have kb : ldZ h (some 6) (nI c) = some (nI b) := by rw [← m5]; exact ldZ_w w (by decide) rfl (by show c < 14; omega) (by decide)
  have rd : f_X6_read h (some 11) (nI t) 0 = some (nI k, h) := by rw [← v6]; exact e6_read (j := 0) w (by omega)
  have mc : ∀ g, WF g → hI g 75 = hI h 75 → f_X8_mayCamp g (some 74) (nI t) (nI c) = some (if k = 2 ∧ b = 1 then 0 else 1, g) := fun g wg hg => e8_mayCamp wg (by omega) (by omega) v1 m2 (by rw [hg, g2 0 (by omega)]; exact v6) (by rw [hg]; exact m6)
  have j7 : j_X7_night_70 h (some 0) (nI t) (nI d) (nI c) = if k = 2 ∧ b = 1 then f_X7_finding h (some 0) (-100004) else j_X7_night_102 h (some 0) (nI t) (nI d) (nI c) := by
    unfold j_X7_night_70
    rw [gR_w (q := 0) (ci := 7) (j := 0) w (by decide) rfl rfl, bd_some, show tR 0 0 = some 1 from rfl, gR_w (q := 1) (ci := 4) (j := 4) w (by decide) rfl rfl, bd_some, show tR 1 4 = some 6 from rfl, kb, bd_some, gR_w (q := 0) (ci := 7) (j := 1) w (by decide) rfl rfl, bd_some, show tR 0 1 = some 11 from rfl, isO_w (q := 11) (ci := 6) w (by decide) rfl, bd_some, rd, bd2_some, O7, bd_some, bd2_id]
    by_cases b1 : b = 1
    · subst b1
      rw [if_neg (by decide)]
      by_cases k2 : k = 2
      · subst k2
        rw [if_neg (fun q => q rfl), if_pos ⟨rfl, rfl⟩]
      · have k2' : ¬ nI k = 2 := fun z => k2 ((nI_eq (b := 2) (by omega) (by omega)).mp z)
        rw [if_pos k2', if_neg (by omega)]
    · have : b = 0 := by omega
      subst this
      rw [if_pos (show nI 0 = 0 from rfl), if_neg (by omega)]
  have j8 : ∀ g, WF g → hI g 75 = hI h 75 → j_X8_night_56 g (some 74) (nI t) (nI d) (nI c) = if k = 2 ∧ b = 1 then f_X8_finding g (some 74) (-100004) else j_X8_night_76 g (some 74) (nI t) (nI d) (nI c) := by
    intro g wg hg
    unfold j_X8_night_56
    rw [if_neg c0, O8 g wg, bd_some, mc g wg hg, bd2_some, O8 g wg, bd_some, bd2_id]
    by_cases kb2 : k = 2 ∧ b = 1
    · rw [if_pos kb2, if_pos kb2, if_neg (by decide)]
    · rw [if_neg kb2, if_neg kb2, if_pos (by decide)]
  by_cases kb2 : k = 2 ∧ b = 1
  · exact fin_ok (a := fun h => f_X7_night h (some 0) (nI t) (nI d) (nI c)) (b := fun h => f_X8_night h (some 74) (nI t) (nI d) (nI c)) (x := -100004) w r (by show f_X7_night h (some 0) (nI t) (nI d) (nI c) = _; rw [s7', j7, if_pos kb2]) (fun f => by show f_X8_night (sI h 0 f) (some 74) (nI t) (nI d) (nI c) = _; rw [s8' _ (w0 w f) (sI_ne (by decide)), j8 _ (w0 w f) (sI_ne (by decide)), if_pos kb2])
  · exact fin (nI c) (Or.inr ⟨c, hc, rfl, fun u hu1 hu2 q => tk ⟨u, hu1, hu2, q⟩⟩) (by rw [s7', j7, if_neg kb2]) (fun g wg hg => by rw [s8' g wg hg, j8 g wg hg, if_neg kb2])
