/-! sheet, put, copy -/
theorem shF : ∀ s, s < 4 → tR 65 s = some (66 + 2 * s) ∧ tR (66 + 2 * s) 2 = some (67 + 2 * s) ∧ (shq (66 + 2 * s)).1 = 9 ∧ shq (67 + 2 * s) = (0, 40) := by decide
section Sheet
variable {h : AH} {s : Nat}
theorem s_ld (w : WF h) (hs : s < 4) : ldR h (some 65) 2 (nI s) = some (some (66 + 2 * s)) := by
  have t := (shF s hs).1
  rw [ldR_w (q := 65) (t := 2) w (by decide) rfl (by show s < 4; omega) (by decide) (by rw [t]; rfl), t]
theorem s_65 (w : WF h) : gR h (some 0) 7 5 = some (some 65) := by
  rw [gR_w (q := 0) (ci := 7) (j := 5) w (by decide) rfl rfl]; rfl
theorem s_O (w : WF h) (hs : s < 4) : isO h (some (66 + 2 * s)) 5 = some () := isO_w w (by omega) (shF s hs).2.2.1
theorem s_I (w : WF h) (hs : s < 4) (j : Nat) : gI h (some (66 + 2 * s)) 5 j = some (hI h (66 + 2 * s) j) := gI_w w (by omega) (shF s hs).2.2.1
theorem s_P (w : WF h) (hs : s < 4) (j : Nat) (v : Int32) : pI h (some (66 + 2 * s)) 5 j v = some (sI h (66 + 2 * s) (upd (hI h (66 + 2 * s)) j v)) := pI_w w (by omega) (shF s hs).2.2.1
theorem s_N (w : WF h) (hs : s < 4) : gR h (some (66 + 2 * s)) 5 2 = some (some (67 + 2 * s)) := by
  have t := (shF s hs).2.1
  rw [gR_w (q := 66 + 2 * s) w (by omega) (shF s hs).2.2.1 (by rw [t]; rfl), t]
theorem s_L (w : WF h) (hs : s < 4) {i : Nat} (hi : i < 40) : ldI h (some (67 + 2 * s)) (nI i) = some (hI h (67 + 2 * s) i) := by
  have t := (shF s hs).2.2.2
  exact ldI_w w (by omega) (by rw [t]) (by rw [t]; exact hi) (by rw [t]; decide)
theorem s_S (w : WF h) (hs : s < 4) {i : Nat} {v : Int32} (hi : i < 40) : stI h (some (67 + 2 * s)) (nI i) v = some (sI h (67 + 2 * s) (upd (hI h (67 + 2 * s)) i v)) := by
  have t := (shF s hs).2.2.2
  exact stI_w w (by omega) (by rw [t]) (by rw [t]; exact hi) (by rw [t]; decide)
theorem s_miss (w : WF h) (hs : s < 4) : f_X5_isMissing h (some (66 + 2 * s)) = some (if hI h (66 + 2 * s) 0 = 0 then 1 else 0, h) := by
  unfold f_X5_isMissing
  rw [s_I w hs, bd_some]
  by_cases c : hI h (66 + 2 * s) 0 = 0
  · rw [if_neg (fun z => z c), if_pos c]
  · rw [if_pos c, if_neg c]
theorem m_3 (w : WF h) : gR h (some 74) 8 3 = some (some 77) := by
  rw [gR_w (q := 74) (ci := 8) (j := 3) w (by decide) rfl rfl]; rfl
theorem m_4 (w : WF h) : gR h (some 74) 8 4 = some (some 78) := by
  rw [gR_w (q := 74) (ci := 8) (j := 4) w (by decide) rfl rfl]; rfl
theorem m_5 (w : WF h) : gR h (some 74) 8 5 = some (some 79) := by
  rw [gR_w (q := 74) (ci := 8) (j := 5) w (by decide) rfl rfl]; rfl
theorem m_12 (w : WF h) : gR h (some 74) 8 12 = some (some 85) := by
  rw [gR_w (q := 74) (ci := 8) (j := 12) w (by decide) rfl rfl]; rfl
theorem m_77 (w : WF h) (hs : s < 4) : ldI h (some 77) (nI s) = some (hI h 77 s) := ldI_w w (by decide) rfl (by show s < 4; omega) (by decide)
theorem m_78 (w : WF h) (hs : s < 4) : ldI h (some 78) (nI s) = some (hI h 78 s) := ldI_w w (by decide) rfl (by show s < 4; omega) (by decide)
theorem m_79 (w : WF h) {i : Nat} (hi : i < 160) : ldI h (some 79) (nI i) = some (hI h 79 i) := ldI_w w (by decide) rfl (by show i < 160; omega) (by decide)
theorem t_77 (w : WF h) (hs : s < 4) {v : Int32} : stI h (some 77) (nI s) v = some (sI h 77 (upd (hI h 77) s v)) := stI_w w (by decide) rfl (by show s < 4; omega) (by decide)
theorem t_78 (w : WF h) (hs : s < 4) {v : Int32} : stI h (some 78) (nI s) v = some (sI h 78 (upd (hI h 78) s v)) := stI_w w (by decide) rfl (by show s < 4; omega) (by decide)
theorem t_79 (w : WF h) {i : Nat} (hi : i < 160) {v : Int32} : stI h (some 79) (nI i) v = some (sI h 79 (upd (hI h 79) i v)) := stI_w w (by decide) rfl (by show i < 160; omega) (by decide)
theorem O_7 (w : WF h) : isO h (some 0) 7 = some () := isO_w w (by decide) rfl
theorem O_8 (w : WF h) : isO h (some 74) 8 = some () := isO_w w (by decide) rfl
theorem ix40 {i : Nat} : 40 * nI s + nI i = nI (40 * s + i) := by rw [show (40 : Int32) = nI 40 from rfl, pk_mul, nI_add]
end Sheet
theorem fillJ {q len : Nat} {v : Int32} (hq : q < 86) (e : shq q = (0, len)) (hl : len ≤ 19000) : ∀ (d i F : Nat) (h : AH), i + d = len → WF h → ∃ h1, g_J_fill_5 (F + d + 1) h (some q) v (nI i) (nI len) = some h1 ∧ Fr h h1 [q] ∧ ∀ j, hI h1 q j = if i ≤ j ∧ j < len then v else hI h q j := by
  intro d
  induction d with
  | zero =>
    intro i F h hi w
    refine ⟨h, ?_, Fr.rf h _, fun j => by rw [if_neg (by omega)]⟩
    rw [show F + 0 + 1 = F + 1 from rfl, g_J_fill_5, if_pos (nI_le (by omega) (by omega))]
  | succ d ih =>
    intro i F h hi w
    have st : stI h (some q) (nI i) v = some (sI h q (upd (hI h q) i v)) := stI_w w hq (by rw [e]) (by rw [e]; show i < len; omega) (by rw [e]; show len ≤ 20000; omega)
    obtain ⟨h1, a1, a2, a3⟩ := ih (i + 1) F (sI h q (upd (hI h q) i v)) (by omega) ((WF_sI _ _ _).mpr w)
    refine ⟨h1, ?_, (Fr.sI h (List.mem_singleton.mpr rfl)).trans a2, fun j => ?_⟩
    · rw [g_J_fill_5, if_neg (nI_ge (by omega) (by omega)), st, bd_some, nI_1]
      exact a1
    · rw [a3 j, sI_eq]
      unfold upd
      by_cases c1 : i + 1 ≤ j ∧ j < len
      · rw [if_pos c1, if_pos (by omega)]
      · rw [if_neg c1]
        by_cases c2 : j = i
        · rw [if_pos c2, if_pos (by omega)]
        · rw [if_neg c2, if_neg (by omega)]
theorem eJ_fill {h : AH} (w : WF h) {q len : Nat} {v : Int32} (hq : q < 86) (e : shq q = (0, len)) (hl : len ≤ 19000) : ∃ h1, f_J_fill h (some q) v = some h1 ∧ Fr h h1 [q] ∧ ∀ j, hI h1 q j = if j < len then v else hI h q j := by
  obtain ⟨F, hF⟩ := NN_ge len (by omega)
  obtain ⟨h1, a1, a2, a3⟩ := fillJ (v := v) hq e hl len 0 F h (by omega) w
  rw [← hF] at a1
  refine ⟨h1, ?_, a2, fun j => by rw [a3 j]; simp only [Nat.zero_le, true_and]⟩
  unfold f_J_fill
  rw [lenA_w w hq (by rw [e]), bd_some, e, show (0 : Int32) = nI 0 from rfl]
  exact a1
/-- one sheet changes on both sides -/
theorem Sh_up {h h2 : AH} {s : Nat} (w : WF h) (r : Rel h) (hs4 : s < 4) (f : Fr h h2 [66 + 2 * s, 67 + 2 * s, 77, 78, 79, 85]) (o1 : ∀ x, x < 4 → x ≠ s → hI h2 77 x = hI h 77 x ∧ hI h2 78 x = hI h 78 x ∧ ∀ i, i < 40 → hI h2 79 (40 * x + i) = hI h 79 (40 * x + i))
    (own : ∃ b z : Nat, (b = 0 ∨ b = 8 ∨ b = 16 ∨ b = 32) ∧ z ≤ 40 ∧ (b = 0 → z = 0) ∧ hI h2 (66 + 2 * s) 0 = nI b ∧ hI h2 77 s = nI b ∧ hI h2 (66 + 2 * s) 1 = nI z ∧ hI h2 78 s = nI z ∧ ∀ i, i < 40 → hI h2 (67 + 2 * s) i = hI h2 79 (40 * s + i)) : WF h2 ∧ Rel h2 ∧ hn h2 ≤ hn h + 1 ∧ hs h2 ≤ hs h + 350 := by
  obtain ⟨C, r1, r2, r3, r4⟩ := id r
  have ek : ∀ k, ¬ (66 ≤ k ∧ k ≤ 73) → k ≠ 77 → k ≠ 78 → k ≠ 79 → k ≠ 85 → hI h2 k = hI h k := fun k a b c d e => f.2.2.2.2 k (by simp <;> omega)
  refine ⟨WF_fr f w, Rel_of w r (fun k hk => ?_) f.1 f.2.1 (fun x hx => ?_) (by rw [ek 0 (by omega) (by omega) (by omega) (by omega) (by omega), ek 74 (by omega) (by omega) (by omega) (by omega) (by omega)]; exact r3) (by rw [ek 74 (by omega) (by omega) (by omega) (by omega) (by omega)]), by rw [f.2.2.1]; omega, by rw [f.2.2.2.1]; omega⟩
  · have nk : ∀ k, k < 86 → core k = true → ¬ (66 ≤ k ∧ k ≤ 73) ∧ k ≠ 77 ∧ k ≠ 78 ∧ k ≠ 79 ∧ k ≠ 85 := by decide
    by_cases c : k < 86
    · obtain ⟨n1, n2, n3, n4, n5⟩ := nk k c hk
      exact ek k n1 n2 n3 n4 n5
    · exact ek k (by omega) (by omega) (by omega) (by omega) (by omega)
  · by_cases e : x = s
    · subst e; exact own
    · obtain ⟨b, z, a1, a2, a3, a4, a5, a6, a7, a8⟩ := r2 x hx
      obtain ⟨o2, o3, o4⟩ := o1 x hx e
      have x1 : hI h2 (66 + 2 * x) = hI h (66 + 2 * x) := f.2.2.2.2 _ (by simp <;> omega)
      have x2 : hI h2 (67 + 2 * x) = hI h (67 + 2 * x) := f.2.2.2.2 _ (by simp <;> omega)
      exact ⟨b, z, a1, a2, a3, by rw [x1]; exact a4, by rw [o2]; exact a5, by rw [x1]; exact a6, by rw [o3]; exact a7, fun i hi => by rw [x2, o4 i hi]; exact a8 i hi⟩
theorem e5_renew {h : AH} (w : WF h) {s b n : Nat} (hs : s < 4) (hb : b ≤ 32) : ∃ h1, f_X5_renew h (some (66 + 2 * s)) (nI b) (nI n) = some (nI (if b = 0 then 0 else n), h1) ∧ WF h1 ∧ Fr h h1 [66 + 2 * s, 67 + 2 * s] ∧ hI h1 (66 + 2 * s) 0 = nI b ∧ hI h1 (66 + 2 * s) 1 = nI (if b = 0 then 0 else n) ∧ ∀ j, j < 40 → hI h1 (67 + 2 * s) j = 0 := by
  obtain ⟨ha, had⟩ : ∃ ha, ha = sI h (66 + 2 * s) (upd (hI h (66 + 2 * s)) 0 (nI b)) := ⟨_, rfl⟩
  have fa : Fr h ha [66 + 2 * s, 67 + 2 * s] := by rw [had]; exact Fr.sI h (by simp)
  have wa : WF ha := WF_fr fa w
  have a0 : hI ha (66 + 2 * s) = upd (hI h (66 + 2 * s)) 0 (nI b) := by rw [had, sI_eq]
  have key : ∀ z : Nat, ∃ h1, j_X5_renew_18 ha (some (66 + 2 * s)) (some (66 + 2 * s)) (nI z) = some (nI z, h1) ∧ WF h1 ∧ Fr h h1 [66 + 2 * s, 67 + 2 * s] ∧ hI h1 (66 + 2 * s) 0 = nI b ∧ hI h1 (66 + 2 * s) 1 = nI z ∧ ∀ j, j < 40 → hI h1 (67 + 2 * s) j = 0 := by
    intro z
    obtain ⟨hb, hbd⟩ : ∃ hb, hb = sI ha (66 + 2 * s) (upd (hI ha (66 + 2 * s)) 1 (nI z)) := ⟨_, rfl⟩
    have fb : Fr ha hb [66 + 2 * s, 67 + 2 * s] := by rw [hbd]; exact Fr.sI ha (by simp)
    have wb : WF hb := WF_fr fb wa
    obtain ⟨h1, c1, c2, c3⟩ := eJ_fill wb (q := 67 + 2 * s) (len := 40) (v := 0) (by omega) (shF s hs).2.2.2 (by omega)
    have w1 : WF h1 := WF_fr c2 wb
    have d0 : hI h1 (66 + 2 * s) = upd (upd (hI h (66 + 2 * s)) 0 (nI b)) 1 (nI z) := by rw [c2.2.2.2.2 _ (by simp <;> omega), hbd, sI_eq, a0]
    have d1 : hI h1 (66 + 2 * s) 1 = nI z := by rw [d0, upd, if_pos rfl]
    refine ⟨h1, ?_, w1, (fa.trans fb).trans (c2.mono (by simp)), by rw [d0]; simp [upd], d1, fun j hj => by rw [c3, if_pos hj]⟩
    unfold j_X5_renew_18
    rw [s_P wa hs, bd_some, ← hbd, s_N wb hs, bd_some, c1, bd_some, s_I w1 hs, bd_some, d1]
  unfold f_X5_renew
  rw [s_P w hs, bd_some, ← had, s_O wa hs, bd_some, s_miss wa hs, bd2_some, a0, show upd (hI h (66 + 2 * s)) 0 (nI b) 0 = nI b by rw [upd, if_pos rfl]]
  by_cases c : b = 0
  · subst c
    rw [if_pos (show nI 0 = 0 from rfl), if_neg (by decide), if_pos rfl]
    exact key 0
  · rw [if_neg (nI_ne0 (by omega) (by omega)), if_pos rfl, if_neg c]
    exact key n
theorem zero8 {s z : Nat} (hs : s < 4) : ∀ (d i F : Nat) (h : AH), i + d = 40 → WF h → hI h 78 s = nI z → ∃ h1, g_X8_sheet_85 (F + d + 1) h (some 74) (nI s) (nI i) = some (nI z, h1) ∧ Fr h h1 [79] ∧ ∀ j, hI h1 79 j = if 40 * s + i ≤ j ∧ j < 40 * s + 40 then 0 else hI h 79 j := by
  intro d
  induction d with
  | zero =>
    intro i F h hi w e
    have : i = 40 := by omega
    subst this
    refine ⟨h, ?_, Fr.rf h _, fun j => by rw [if_neg (by omega)]⟩
    rw [show F + 0 + 1 = F + 1 from rfl, g_X8_sheet_85, if_pos (by decide), m_4 w, bd_some, m_78 w hs, bd_some, e]
  | succ d ih =>
    intro i F h hi w e
    obtain ⟨h1, a1, a2, a3⟩ := ih (i + 1) F (sI h 79 (upd (hI h 79) (40 * s + i) 0)) (by omega) ((WF_sI _ _ _).mpr w) (by rw [sI_ne (by decide)]; exact e)
    refine ⟨h1, ?_, (Fr.sI h (by decide)).trans a2, fun j => ?_⟩
    · have c : ¬ (40 : Int32) ≤ nI i := nI_ge (b := 40) (by omega) (by omega)
      rw [g_X8_sheet_85, if_neg c, m_5 w, bd_some, ix40, t_79 w (by omega), bd_some, nI_1]
      exact a1
    · rw [a3 j, sI_eq]
      unfold upd
      by_cases c1 : 40 * s + (i + 1) ≤ j ∧ j < 40 * s + 40
      · rw [if_pos c1, if_pos (by omega)]
      · rw [if_neg c1]
        by_cases c2 : j = 40 * s + i
        · rw [if_pos c2, if_pos (by omega)]
        · rw [if_neg c2, if_neg (by omega)]
theorem op_sheet (x y z : Int32) : OpOk (fun h => f_X7_sheet h (some 0) x y z) (fun h => f_X8_sheet h (some 74) x y z) := by
  intro h w r
  rcases win_nI (x := x) (a := 0) (b := 3) (by omega) (by omega) with e | ⟨e, s, s1, s2, rfl⟩
  · have e' : win x 0 3 = 0 := e
    exact fin_ok (a := fun h => f_X7_sheet h (some 0) x y z) (b := fun h => f_X8_sheet h (some 74) x y z) (x := -100001) w r (by show f_X7_sheet h (some 0) x y z = _; unfold f_X7_sheet; rw [e7_isSheet, bd2_some, if_pos e', O_7 w, bd_some, bd2_id]) (fun f => by show f_X8_sheet (sI h 0 f) (some 74) x y z = _; unfold f_X8_sheet; rw [e8_isSheet, bd2_some, if_pos e', O_8 (w0 w f), bd_some, bd2_id])
  have e' : ¬ win (nI s) 0 3 = 0 := by rw [show win (nI s) 0 3 = 1 from e]; decide
  have hs : s < 4 := by omega
  by_cases c : y = 0 ∨ y = 8 ∨ y = 16 ∨ y = 32
  · have j7 : f_X7_sheet h (some 0) (nI s) y z = j_X7_sheet_36 h (some 0) (nI s) y z := by
      unfold f_X7_sheet
      rw [e7_isSheet, bd2_some, if_neg e']
      by_cases c0 : y = 0
      · rw [if_pos c0]
      by_cases c8 : y = 8
      · rw [if_neg c0, if_pos c8]
      by_cases c6 : y = 16
      · rw [if_neg c0, if_neg c8, if_pos c6]
      · rw [if_neg c0, if_neg c8, if_neg c6, if_pos (by rcases c with c | c | c | c; exact absurd c c0; exact absurd c c8; exact absurd c c6; exact c)]
    have j8 : ∀ g, f_X8_sheet g (some 74) (nI s) y z = j_X8_sheet_36 g (some 74) (nI s) y z := by
      intro g
      unfold f_X8_sheet
      rw [e8_isSheet, bd2_some, if_neg e']
      by_cases c0 : y = 0
      · rw [if_pos c0]
      by_cases c8 : y = 8
      · rw [if_neg c0, if_pos c8]
      by_cases c6 : y = 16
      · rw [if_neg c0, if_neg c8, if_pos c6]
      · rw [if_neg c0, if_neg c8, if_neg c6, if_pos (by rcases c with c | c | c | c; exact absurd c c0; exact absurd c c8; exact absurd c c6; exact c)]
    by_cases cz : 0 ≤ z
    · by_cases c4 : z ≤ 40
      · obtain ⟨n, hn1, rfl⟩ := nI_of2 (M := 40) (n := 40) (by decide) (Int32.not_lt.mpr cz) c4
        obtain ⟨b, hb, rfl⟩ : ∃ b : Nat, (b = 0 ∨ b = 8 ∨ b = 16 ∨ b = 32) ∧ y = nI b := by
          rcases c with c | c | c | c
          · exact ⟨0, Or.inl rfl, c⟩
          · exact ⟨8, Or.inr (Or.inl rfl), c⟩
          · exact ⟨16, Or.inr (Or.inr (Or.inl rfl)), c⟩
          · exact ⟨32, Or.inr (Or.inr (Or.inr rfl)), c⟩
        have hb32 : b ≤ 32 := by omega
        obtain ⟨h1, a1, w1, a2, a3, a4, a5⟩ := e5_renew w (n := n) hs hb32
        obtain ⟨ga, gad⟩ : ∃ ga, ga = sI h1 77 (upd (hI h1 77) s (nI b)) := ⟨_, rfl⟩
        have wga : WF ga := by rw [gad]; exact (WF_sI _ _ _).mpr w1
        obtain ⟨gb, gbd⟩ : ∃ gb, gb = sI ga 78 (upd (hI ga 78) s (nI (if b = 0 then 0 else n))) := ⟨_, rfl⟩
        have wgb : WF gb := by rw [gbd]; exact (WF_sI _ _ _).mpr wga
        obtain ⟨F, hF⟩ := NN_ge 40 (by omega)
        obtain ⟨h2, d1, d2, d3⟩ := zero8 (z := if b = 0 then 0 else n) hs 40 0 F gb rfl wgb (by rw [gbd, sI_eq, upd, if_pos rfl])
        rw [← hF] at d1
        have g78 : hI h2 78 = upd (hI h1 78) s (nI (if b = 0 then 0 else n)) := by rw [d2.2.2.2.2 78 (by decide), gbd, sI_eq, gad, sI_ne (by decide)]
        have g77 : hI h2 77 = upd (hI h1 77) s (nI b) := by rw [d2.2.2.2.2 77 (by decide), gbd, sI_ne (by decide), gad, sI_eq]
        have g79 : hI gb 79 = hI h 79 := by rw [gbd, sI_ne (by decide), gad, sI_ne (by decide), a2.2.2.2.2 79 (by simp <;> omega)]
        have fa : Fr h1 h2 [77, 78, 79] := by
          have q1 : Fr h1 ga [77, 78, 79] := by rw [gad]; exact Fr.sI h1 (by decide)
          have q2 : Fr ga gb [77, 78, 79] := by rw [gbd]; exact Fr.sI ga (by decide)
          exact (q1.trans q2).trans (d2.mono (by decide))
        have ff : Fr h h2 [66 + 2 * s, 67 + 2 * s, 77, 78, 79, 85] := (a2.mono (by simp)).trans (fa.mono (by simp))
        refine ⟨nI (if b = 0 then 0 else n), h1, h2, ?_, ?_, Sh_up w r hs ff (fun x hx hxs => ⟨?_, ?_, fun i hi => ?_⟩) ⟨b, if b = 0 then 0 else n, hb, by split <;> omega, fun q => by rw [if_pos q], ?_, ?_, ?_, ?_, fun i hi => ?_⟩⟩
        · show f_X7_sheet h (some 0) (nI s) (nI b) (nI n) = _
          rw [j7]
          unfold j_X7_sheet_36
          rw [if_pos cz, if_pos c4, s_65 w, bd_some, s_ld w hs, bd_some, s_O w hs, bd_some, a1, bd2_some]
        · show f_X8_sheet h1 (some 74) (nI s) (nI b) (nI n) = _
          rw [j8]
          unfold j_X8_sheet_36
          rw [if_pos cz, if_pos c4, m_3 w1, bd_some, t_77 w1 hs, bd_some, ← gad, m_4 wga, bd_some]
          by_cases cb : b = 0
          · rw [if_pos cb, show (0 : Int32) = nI 0 from rfl, ← cb, if_neg (fun q => q rfl), cb, t_78 wga hs, bd_some]
            rw [if_pos cb] at gbd d1
            rw [← gbd]; exact d1
          · rw [if_pos (nI_ne0 (by omega) (by omega)), if_neg cb, t_78 wga hs, bd_some]
            rw [if_neg cb] at gbd d1
            rw [← gbd]; exact d1
        · rw [g77, upd, if_neg hxs, a2.2.2.2.2 77 (by simp <;> omega)]
        · rw [g78, upd, if_neg hxs, a2.2.2.2.2 78 (by simp <;> omega)]
        · rw [d3, if_neg (by omega), g79]
        · rw [fa.2.2.2.2 _ (by simp <;> omega)]; exact a3
        · rw [g77, upd, if_pos rfl]
        · rw [fa.2.2.2.2 _ (by simp <;> omega)]; exact a4
        · rw [g78, upd, if_pos rfl]
        · rw [fa.2.2.2.2 _ (by simp <;> omega), a5 i hi, d3, if_pos (by omega)]
      · exact fin_ok (a := fun h => f_X7_sheet h (some 0) (nI s) y z) (b := fun h => f_X8_sheet h (some 74) (nI s) y z) (x := -100001) w r (by show f_X7_sheet h (some 0) (nI s) y z = _; rw [j7]; unfold j_X7_sheet_36; rw [if_pos cz, if_neg c4, O_7 w, bd_some, bd2_id]) (fun f => by show f_X8_sheet (sI h 0 f) (some 74) (nI s) y z = _; rw [j8]; unfold j_X8_sheet_36; rw [if_pos cz, if_neg c4, O_8 (w0 w f), bd_some, bd2_id])
    · exact fin_ok (a := fun h => f_X7_sheet h (some 0) (nI s) y z) (b := fun h => f_X8_sheet h (some 74) (nI s) y z) (x := -100003) w r (by show f_X7_sheet h (some 0) (nI s) y z = _; rw [j7]; unfold j_X7_sheet_36; rw [if_neg cz, O_7 w, bd_some, bd2_id]) (fun f => by show f_X8_sheet (sI h 0 f) (some 74) (nI s) y z = _; rw [j8]; unfold j_X8_sheet_36; rw [if_neg cz, O_8 (w0 w f), bd_some, bd2_id])
  · have c0 : ¬ y = 0 := fun q => c (Or.inl q)
    have c8 : ¬ y = 8 := fun q => c (Or.inr (Or.inl q))
    have c6 : ¬ y = 16 := fun q => c (Or.inr (Or.inr (Or.inl q)))
    have c3 : ¬ y = 32 := fun q => c (Or.inr (Or.inr (Or.inr q)))
    exact fin_ok (a := fun h => f_X7_sheet h (some 0) (nI s) y z) (b := fun h => f_X8_sheet h (some 74) (nI s) y z) (x := -100001) w r (by show f_X7_sheet h (some 0) (nI s) y z = _; unfold f_X7_sheet; rw [e7_isSheet, bd2_some, if_neg e', if_neg c0, if_neg c8, if_neg c6, if_neg c3, O_7 w, bd_some, bd2_id]) (fun f => by show f_X8_sheet (sI h 0 f) (some 74) (nI s) y z = _; unfold f_X8_sheet; rw [e8_isSheet, bd2_some, if_neg e', if_neg c0, if_neg c8, if_neg c6, if_neg c3, O_8 (w0 w f), bd_some, bd2_id])
