/-! put, copy, let -/
theorem op_put (x y v : Int32) : OpOk (fun h => f_X7_put h (some 0) x y v) (fun h => f_X8_put h (some 74) x y v) := by
  intro h w r
  rcases win_nI (x := x) (a := 0) (b := 3) (by omega) (by omega) with e | ⟨e, s, s1, s2, rfl⟩
  · have e' : win x 0 3 = 0 := e
    exact fin_ok (a := fun h => f_X7_put h (some 0) x y v) (b := fun h => f_X8_put h (some 74) x y v) (x := -100001) w r (by show f_X7_put h (some 0) x y v = _; unfold f_X7_put; rw [e7_isSheet, bd2_some, if_neg (fun q => q e'), O_7 w, bd_some, bd2_id]) (fun f => by show f_X8_put (sI h 0 f) (some 74) x y v = _; unfold f_X8_put; rw [e8_isSheet, bd2_some, if_neg (fun q => q e'), O_8 (w0 w f), bd_some, bd2_id])
  have e' : ¬ win (nI s) 0 3 = 0 := by rw [show win (nI s) 0 3 = 1 from e]; decide
  have hs : s < 4 := by omega
  obtain ⟨C, r1, r2, r3, r4⟩ := id r
  obtain ⟨b, z, a1, a2, a3, a4, a5, a6, a7, a8⟩ := r2 s hs
  have g77 : ∀ f, hI (sI h 0 f) 77 s = nI b := fun f => by rw [sI_ne (by decide)]; exact a5
  have g78 : ∀ f, hI (sI h 0 f) 78 s = nI z := fun f => by rw [sI_ne (by decide)]; exact a7
  by_cases cb : b = 0
  · subst cb
    exact fin_ok (a := fun h => f_X7_put h (some 0) (nI s) y v) (b := fun h => f_X8_put h (some 74) (nI s) y v) (x := -100002) w r (by show f_X7_put h (some 0) (nI s) y v = _; unfold f_X7_put; rw [e7_isSheet, bd2_some, if_pos e', s_65 w, bd_some, s_ld w hs, bd_some, s_O w hs, bd_some, s_miss w hs, bd2_some, a4, if_pos (show nI 0 = 0 from rfl), if_neg (by decide), O_7 w, bd_some, bd2_id]) (fun f => by show f_X8_put (sI h 0 f) (some 74) (nI s) y v = _; unfold f_X8_put; rw [e8_isSheet, bd2_some, if_pos e', m_3 (w0 w f), bd_some, m_77 (w0 w f) hs, bd_some, g77, if_neg (fun q => q rfl), O_8 (w0 w f), bd_some, bd2_id])
  have nb : ¬ nI b = 0 := nI_ne0 (by omega) (by omega)
  have wx : win y 0 (nI z - 1) = ixw y z := win_ixw y (by omega)
  rcases ixw_cases y (k := z) (by omega) with e2 | ⟨e2, i, hi, rfl⟩
  · exact fin_ok (a := fun h => f_X7_put h (some 0) (nI s) y v) (b := fun h => f_X8_put h (some 74) (nI s) y v) (x := -100001) w r (by show f_X7_put h (some 0) (nI s) y v = _; unfold f_X7_put; rw [e7_isSheet, bd2_some, if_pos e', s_65 w, bd_some, s_ld w hs, bd_some, s_O w hs, bd_some, s_miss w hs, bd2_some, a4, if_neg nb, if_pos rfl, s_I w hs, bd_some, a6, e7_within, bd2_some, wx, if_neg (fun q => q e2), O_7 w, bd_some, bd2_id]) (fun f => by show f_X8_put (sI h 0 f) (some 74) (nI s) y v = _; unfold f_X8_put; rw [e8_isSheet, bd2_some, if_pos e', m_3 (w0 w f), bd_some, m_77 (w0 w f) hs, bd_some, g77, if_pos nb, m_4 (w0 w f), bd_some, m_78 (w0 w f) hs, bd_some, g78, O_8 (w0 w f), bd_some, bd2_id]; unfold ixw at e2; split at e2; rename_i c; rw [if_pos c]; rename_i c; split at e2; rename_i c2; rw [if_neg c, if_neg (Int32.not_lt.mpr c2)]; exact absurd e2 (by decide))
  have e2' : ¬ ixw (nI i) z = 0 := by rw [e2]; decide
  obtain ⟨vv, hv⟩ : ∃ vv : Int32, vv = if b = 8 then v.toInt8.toInt32 else if b = 16 then v.toInt16.toInt32 else v := ⟨_, rfl⟩
  have n8 : (nI b = 8) = (b = 8) := propext (nI_eq (b := 8) (by omega) (by omega))
  have n16 : (nI b = 16) = (b = 16) := propext (nI_eq (b := 16) (by omega) (by omega))
  have lw : f_X5_lowest h (some (66 + 2 * s)) v = some (vv, h) := by
    unfold f_X5_lowest
    rw [s_I w hs, bd_some, a4, hv]
    by_cases c8 : b = 8
    · rw [if_pos (n8.symm ▸ c8), if_pos c8]
    · rw [if_neg (n8.symm ▸ c8), if_neg c8]
      by_cases c6 : b = 16
      · rw [if_pos (n16.symm ▸ c6), if_pos c6]
      · rw [if_neg (n16.symm ▸ c6), if_neg c6]
  obtain ⟨h1, hd1⟩ : ∃ h1, h1 = sI h (67 + 2 * s) (upd (hI h (67 + 2 * s)) i vv) := ⟨_, rfl⟩
  have f1 : Fr h h1 [67 + 2 * s] := by rw [hd1]; exact Fr.sI h (List.mem_singleton.mpr rfl)
  have w1 : WF h1 := WF_fr f1 w
  have k1 : ∀ k, k ≠ 67 + 2 * s → hI h1 k = hI h k := fun k hk => f1.2.2.2.2 k (by simp [hk])
  obtain ⟨h2, hd2⟩ : ∃ h2, h2 = sI h1 79 (upd (hI h1 79) (40 * s + i) vv) := ⟨_, rfl⟩
  have f2 : Fr h1 h2 [79] := by rw [hd2]; exact Fr.sI h1 (by decide)
  have k79 : hI h2 79 = upd (hI h 79) (40 * s + i) vv := by rw [hd2, sI_eq, k1 79 (by omega)]
  have k67 : hI h2 (67 + 2 * s) = upd (hI h (67 + 2 * s)) i vv := by rw [f2.2.2.2.2 _ (by simp <;> omega), hd1, sI_eq]
  have ff : Fr h h2 [66 + 2 * s, 67 + 2 * s, 77, 78, 79, 85] := (f1.mono (by simp)).trans (f2.mono (by simp))
  have kk : ∀ k, k ≠ 67 + 2 * s → k ≠ 79 → hI h2 k = hI h k := fun k c1 c2 => by rw [f2.2.2.2.2 k (by simp [c2]), k1 k c1]
  refine ⟨0, h1, h2, ?_, ?_, Sh_up w r hs ff (fun q hq hqs => ⟨by rw [kk 77 (by omega) (by omega)], by rw [kk 78 (by omega) (by omega)], fun j hj => by rw [k79, upd, if_neg (by omega)]⟩) ⟨b, z, a1, a2, a3, by rw [kk _ (by omega) (by omega)]; exact a4, by rw [kk 77 (by omega) (by omega)]; exact a5, by rw [kk _ (by omega) (by omega)]; exact a6, by rw [kk 78 (by omega) (by omega)]; exact a7, fun j hj => ?_⟩⟩
  · show f_X7_put h (some 0) (nI s) (nI i) v = _
    unfold f_X7_put
    rw [e7_isSheet, bd2_some, if_pos e', s_65 w, bd_some, s_ld w hs, bd_some, s_O w hs, bd_some, s_miss w hs, bd2_some, a4, if_neg nb, if_pos rfl, s_I w hs, bd_some, a6, e7_within, bd2_some, wx, if_pos e2', s_N w hs, bd_some, s_O w hs, bd_some, lw, bd2_some, s_S w hs (by omega), bd_some, hd1]
  · show f_X8_put h1 (some 74) (nI s) (nI i) v = _
    have e1' : win (nI s) 0 3 = 1 := e
    have l77 : ldI h1 (some 77) (nI s) = some (nI b) := by rw [m_77 w1 hs, k1 77 (by omega), a5]
    have l78 : ldI h1 (some 78) (nI s) = some (nI z) := by rw [m_78 w1 hs, k1 78 (by omega), a7]
    have i0 : ¬ nI i < 0 := nI_pos (by omega)
    have i1 : nI i < nI z := nI_lt hi (by omega)
    have st := fun v : Int32 => t_79 w1 (i := 40 * s + i) (v := v) (by omega)
    unfold f_X8_put
    by_cases c8 : b = 8
    · have c8' : nI b = 8 := n8.symm ▸ c8
      rw [if_pos c8] at hv
      rw [e8_isSheet, bd2_some, if_pos e', m_3 w1, bd_some, l77, bd_some, if_pos nb, if_neg i0, m_4 w1, bd_some, l78, bd_some, if_pos i1, m_5 w1, bd_some, bd_some, l77, bd_some, ix40, if_neg (fun q => q c8'), st, bd_some, hd2, hv]
    · have c8' : ¬ nI b = 8 := n8.symm ▸ c8
      by_cases c6 : b = 16
      · have c6' : nI b = 16 := n16.symm ▸ c6
        rw [if_neg c8, if_pos c6] at hv
        rw [e8_isSheet, bd2_some, if_pos e', m_3 w1, bd_some, l77, bd_some, if_pos nb, if_neg i0, m_4 w1, bd_some, l78, bd_some, if_pos i1, m_5 w1, bd_some, bd_some, l77, bd_some, ix40, if_pos c8', bd_some, l77, bd_some, if_neg (fun q => q c6'), st, bd_some, hd2, hv]
      · have c6' : ¬ nI b = 16 := n16.symm ▸ c6
        rw [if_neg c8, if_neg c6] at hv
        rw [e8_isSheet, bd2_some, if_pos e', m_3 w1, bd_some, l77, bd_some, if_pos nb, if_neg i0, m_4 w1, bd_some, l78, bd_some, if_pos i1, m_5 w1, bd_some, bd_some, l77, bd_some, ix40, if_pos c8', bd_some, l77, bd_some, if_pos c6', st, bd_some, hd2, hv]
  · rw [k67, k79, upd, upd]
    by_cases c : j = i
    · rw [if_pos c, if_pos (by omega)]
    · rw [if_neg c, if_neg (by omega)]; exact a8 j hj
def hp (x y : Int32) (z : Nat) : Int32 := if x < 0 then 0 else if y < 0 then 0 else if x.toNatClampNeg + y.toNatClampNeg ≤ z then 1 else 0
theorem hp_cases (x y : Int32) (z : Nat) : hp x y z = 0 ∨ (hp x y z = 1 ∧ ∃ a m : Nat, x = nI a ∧ y = nI m ∧ a + m ≤ z) := by
  unfold hp
  by_cases c1 : x < 0
  · rw [if_pos c1]; exact Or.inl rfl
  by_cases c2 : y < 0
  · rw [if_neg c1, if_pos c2]; exact Or.inl rfl
  rw [if_neg c1, if_neg c2]
  obtain ⟨a, ha, rfl⟩ := nI_of c1
  obtain ⟨m, hm, rfl⟩ := nI_of c2
  rw [nI_clamp ha, nI_clamp hm]
  by_cases c : a + m ≤ z
  · rw [if_pos c]; exact Or.inr ⟨rfl, a, m, rfl, rfl, c⟩
  · rw [if_neg c]; exact Or.inl rfl
theorem e5_has {h : AH} (w : WF h) {s z : Nat} (hs : s < 4) (hz : z ≤ 40) (e : hI h (66 + 2 * s) 1 = nI z) (x y : Int32) : f_X5_has h (some (66 + 2 * s)) x y = some (hp x y z, h) := by
  unfold f_X5_has hp
  by_cases c1 : x < 0
  · rw [if_pos c1, if_pos c1]
  by_cases c2 : y < 0
  · rw [if_neg c1, if_neg c1, if_pos c2, if_pos c2]
  rw [if_neg c1, if_neg c1, if_neg c2, if_neg c2, s_I w hs, bd_some, e, bd_some]
  obtain ⟨a, ha, rfl⟩ := nI_of c1
  obtain ⟨m, hm, rfl⟩ := nI_of c2
  rw [nI_clamp ha, nI_clamp hm]
  by_cases c3 : z < a
  · rw [if_pos (nI_lt c3 ha), if_neg (by omega)]
  · rw [if_neg (nI_nlt (by omega) (by omega)), pk_sub (by omega)]
    by_cases c4 : z - a < m
    · rw [if_pos (nI_lt c4 hm), if_neg (by omega)]
    · rw [if_neg (nI_nlt (by omega) (by omega)), if_pos (by omega)]
theorem e8_hasPart {h : AH} (w : WF h) {s z : Nat} (hs : s < 4) (hz : z ≤ 40) (e : hI h 78 s = nI z) (x y : Int32) : f_X8_hasPart h (some 74) (nI s) x y = some (hp x y z, h) := by
  unfold f_X8_hasPart hp
  by_cases c1 : x < 0
  · rw [if_pos c1, if_pos c1]
  by_cases c2 : y < 0
  · rw [if_neg c1, if_neg c1, if_pos c2, if_pos c2]
  rw [if_neg c1, if_neg c1, if_neg c2, if_neg c2, m_4 w, bd_some, m_78 w hs, bd_some, e, bd_some, m_78 w hs, bd_some, e]
  obtain ⟨a, ha, rfl⟩ := nI_of c1
  obtain ⟨m, hm, rfl⟩ := nI_of c2
  rw [nI_clamp ha, nI_clamp hm]
  by_cases c3 : z < m
  · rw [if_pos (nI_lt c3 hm), if_neg (by omega)]
  · rw [if_neg (nI_nlt (by omega) (by omega)), pk_sub (by omega)]
    by_cases c4 : z - m < a
    · rw [if_pos (nI_lt c4 ha), if_neg (by omega)]
    · rw [if_neg (nI_nlt (by omega) (by omega)), if_pos (by omega)]
theorem ix40b {s a i : Nat} : 40 * nI s + nI a + nI i = nI (40 * s + a + i) := by rw [ix40, nI_add]
theorem carry8 {s a m t c : Nat} (hs : s < 4) (ham : a + m ≤ 40) : ∀ (d i F : Nat) (h : AH), i + d = m → WF h → ∃ h1, g_X8_copy_101 (F + d + 1) h (some 74) (nI s) (nI a) (nI t) (nI c) (nI m) (nI i) = g_X8_copy_138 NN h1 (some 74) (nI t) (nI c) (nI m) 0 ∧ WF h1 ∧ Fr h h1 [85] ∧ ∀ j, hI h1 85 j = if i ≤ j ∧ j < m then hI h 79 (40 * s + a + j) else hI h 85 j := by
  intro d
  induction d with
  | zero =>
    intro i F h hi w
    refine ⟨h, ?_, w, Fr.rf h _, fun j => by rw [if_neg (by omega)]⟩
    rw [show F + 0 + 1 = F + 1 from rfl, g_X8_copy_101, if_pos (nI_le (by omega) (by omega))]
  | succ d ih =>
    intro i F h hi w
    have st : stI h (some 85) (nI i) (hI h 79 (40 * s + a + i)) = some (sI h 85 (upd (hI h 85) i (hI h 79 (40 * s + a + i)))) := stI_w w (by decide) rfl (by show i < 40; omega) (by decide)
    obtain ⟨h1, a1, w1, a2, a3⟩ := ih (i + 1) F (sI h 85 (upd (hI h 85) i (hI h 79 (40 * s + a + i)))) (by omega) ((WF_sI _ _ _).mpr w)
    refine ⟨h1, ?_, w1, (Fr.sI h (by decide)).trans a2, fun j => ?_⟩
    · rw [g_X8_copy_101, if_neg (nI_ge (by omega) (by omega)), m_12 w, bd_some, m_5 w, bd_some, ix40b, m_79 w (by omega), bd_some, st, bd_some, nI_1]
      exact a1
    · rw [a3 j, sI_eq, sI_ne (by decide)]
      unfold upd
      by_cases c1 : i + 1 ≤ j ∧ j < m
      · rw [if_pos c1, if_pos (by omega)]
      · rw [if_neg c1]
        by_cases c2 : j = i
        · rw [if_pos c2, if_pos (by omega), c2]
        · rw [if_neg c2, if_neg (by omega)]
theorem lay8 {t c m : Nat} (ht : t < 4) (hcm : c + m ≤ 40) : ∀ (d i F : Nat) (h : AH), i + d = m → WF h → ∃ h1, g_X8_copy_138 (F + d + 1) h (some 74) (nI t) (nI c) (nI m) (nI i) = some (nI m, h1) ∧ Fr h h1 [79] ∧ ∀ j, hI h1 79 j = if 40 * t + c + i ≤ j ∧ j < 40 * t + c + m then hI h 85 (j - (40 * t + c)) else hI h 79 j := by
  intro d
  induction d with
  | zero =>
    intro i F h hi w
    refine ⟨h, ?_, Fr.rf h _, fun j => by rw [if_neg (by omega)]⟩
    rw [show F + 0 + 1 = F + 1 from rfl, g_X8_copy_138, if_pos (nI_le (by omega) (by omega))]
  | succ d ih =>
    intro i F h hi w
    have ld : ldI h (some 85) (nI i) = some (hI h 85 i) := ldI_w w (by decide) rfl (by show i < 40; omega) (by decide)
    obtain ⟨h1, a1, a2, a3⟩ := ih (i + 1) F (sI h 79 (upd (hI h 79) (40 * t + c + i) (hI h 85 i))) (by omega) ((WF_sI _ _ _).mpr w)
    refine ⟨h1, ?_, (Fr.sI h (by decide)).trans a2, fun j => ?_⟩
    · rw [g_X8_copy_138, if_neg (nI_ge (by omega) (by omega)), m_5 w, bd_some, m_12 w, bd_some, ld, bd_some, ix40b, t_79 w (by omega), bd_some, nI_1]
      exact a1
    · rw [a3 j, sI_eq, sI_ne (by decide)]
      unfold upd
      by_cases c1 : 40 * t + c + (i + 1) ≤ j ∧ j < 40 * t + c + m
      · rw [if_pos c1, if_pos (by omega)]
      · rw [if_neg c1]
        by_cases c2 : j = 40 * t + c + i
        · rw [if_pos c2, if_pos (by omega), c2, show 40 * t + c + i - (40 * t + c) = i by omega]
        · rw [if_neg c2, if_neg (by omega)]
theorem op_copy (x y u v n : Int32) : OpOk (fun h => f_X7_copy h (some 0) x y u v n) (fun h => f_X8_copy h (some 74) x y u v n) := by
  intro h w r
  rcases win_nI (x := x) (a := 0) (b := 3) (by omega) (by omega) with e | ⟨e, s, s1, s2, rfl⟩
  · have e' : win x 0 3 = 0 := e
    exact fin_ok (a := fun h => f_X7_copy h (some 0) x y u v n) (b := fun h => f_X8_copy h (some 74) x y u v n) (x := -100001) w r (by show f_X7_copy h (some 0) x y u v n = _; unfold f_X7_copy; rw [e7_isSheet, bd2_some, if_pos e', O_7 w, bd_some, bd2_id]) (fun f => by show f_X8_copy (sI h 0 f) (some 74) x y u v n = _; unfold f_X8_copy; rw [e8_isSheet, bd2_some, if_pos e', O_8 (w0 w f), bd_some, bd2_id])
  have e' : ¬ win (nI s) 0 3 = 0 := by rw [show win (nI s) 0 3 = 1 from e]; decide
  have hs : s < 4 := by omega
  rcases win_nI (x := u) (a := 0) (b := 3) (by omega) (by omega) with e2 | ⟨e2, t, t1, t2, rfl⟩
  · have e2' : win u 0 3 = 0 := e2
    exact fin_ok (a := fun h => f_X7_copy h (some 0) (nI s) y u v n) (b := fun h => f_X8_copy h (some 74) (nI s) y u v n) (x := -100001) w r (by show f_X7_copy h (some 0) (nI s) y u v n = _; unfold f_X7_copy; rw [e7_isSheet, bd2_some, if_neg e', e7_isSheet, bd2_some, if_neg (fun q => q e2'), O_7 w, bd_some, bd2_id]) (fun f => by show f_X8_copy (sI h 0 f) (some 74) (nI s) y u v n = _; unfold f_X8_copy; rw [e8_isSheet, bd2_some, if_neg e', e8_isSheet, bd2_some, if_neg (fun q => q e2'), O_8 (w0 w f), bd_some, bd2_id])
  have e2' : ¬ win (nI t) 0 3 = 0 := by rw [show win (nI t) 0 3 = 1 from e2]; decide
  have ht : t < 4 := by omega
  obtain ⟨C, r1, r2, r3, r4⟩ := id r
  obtain ⟨b, z, a1, a2, a3, a4, a5, a6, a7, a8⟩ := r2 s hs
  obtain ⟨b', z', b1, b2, b3, b4, b5, b6, b7, b8⟩ := r2 t ht
  have es : win (nI s) 0 3 = 1 := e
  have et : win (nI t) 0 3 = 1 := e2
  have s7 : f_X7_copy h (some 0) (nI s) y (nI t) v n = if b = 0 ∨ b' = 0 then f_X7_finding h (some 0) (-100002) else if b = b' then (if hp y n z = 0 ∨ hp v n z' = 0 then f_X7_finding h (some 0) (-100001) else bd (cpI h (some (67 + 2 * s)) y (some (67 + 2 * t)) v n) fun g => some (n, g)) else f_X7_finding h (some 0) (-100004) := by
    unfold f_X7_copy
    by_cases c1 : b = 0
    · have c1' : nI b = 0 := by rw [c1]; rfl
      rw [if_pos (Or.inl c1), e7_isSheet, bd2_some, if_neg e', e7_isSheet, bd2_some, if_pos e2', s_65 w, bd_some, s_ld w hs, bd_some, bd_some, s_ld w ht, bd_some, s_O w hs, bd_some, s_miss w hs, bd2_some, a4, if_pos c1', if_pos (show ¬ (1 : Int32) = 0 by decide), O_7 w, bd_some, bd2_id]
    · have c1' : ¬ nI b = 0 := nI_ne0 (by omega) (by omega)
      by_cases c2 : b' = 0
      · have c2' : nI b' = 0 := by rw [c2]; rfl
        rw [if_pos (Or.inr c2), e7_isSheet, bd2_some, if_neg e', e7_isSheet, bd2_some, if_pos e2', s_65 w, bd_some, s_ld w hs, bd_some, bd_some, s_ld w ht, bd_some, s_O w hs, bd_some, s_miss w hs, bd2_some, a4, if_neg c1', if_neg (show ¬ ¬ (0 : Int32) = 0 by decide), s_O w ht, bd_some, s_miss w ht, bd2_some, b4, if_pos c2', if_neg (show ¬ (1 : Int32) = 0 by decide), O_7 w, bd_some, bd2_id]
      · have c2' : ¬ nI b' = 0 := nI_ne0 (by omega) (by omega)
        rw [if_neg (show ¬ (b = 0 ∨ b' = 0) by omega), e7_isSheet, bd2_some, if_neg e', e7_isSheet, bd2_some, if_pos e2', s_65 w, bd_some, s_ld w hs, bd_some, bd_some, s_ld w ht, bd_some, s_O w hs, bd_some, s_miss w hs, bd2_some, a4, if_neg c1', if_neg (show ¬ ¬ (0 : Int32) = 0 by decide), s_O w ht, bd_some, s_miss w ht, bd2_some, b4, if_neg c2', if_pos (show (0 : Int32) = 0 from rfl), s_I w hs, bd_some, a4, s_I w ht, bd_some, b4]
        by_cases c3 : b = b'
        · have c3' : nI b = nI b' := by rw [c3]
          rw [if_pos c3', if_pos c3, s_O w hs, bd_some, e5_has w hs a2 a6, bd2_some]
          by_cases c4 : hp y n z = 0
          · rw [if_pos (Or.inl c4), if_pos c4, O_7 w, bd_some, bd2_id]
          · rw [if_neg c4, s_O w ht, bd_some, e5_has w ht b2 b6, bd2_some]
            by_cases c5 : hp v n z' = 0
            · rw [if_pos (Or.inr c5), if_neg (fun q => q c5), O_7 w, bd_some, bd2_id]
            · rw [if_neg (show ¬ (hp y n z = 0 ∨ hp v n z' = 0) from fun q => q.elim c4 c5), if_pos c5, s_N w hs, bd_some, s_N w ht, bd_some]
        · have c3' : ¬ nI b = nI b' := fun q => c3 ((nI_eq (by omega) (by omega)).mp q)
          rw [if_neg c3', if_neg c3, O_7 w, bd_some, bd2_id]
  have s8 : ∀ g, WF g → (∀ k, k = 77 ∨ k = 78 → hI g k = hI h k) → f_X8_copy g (some 74) (nI s) y (nI t) v n = if b = 0 ∨ b' = 0 then f_X8_finding g (some 74) (-100002) else if b = b' then (if hp y n z = 0 ∨ hp v n z' = 0 then f_X8_finding g (some 74) (-100001) else g_X8_copy_101 NN g (some 74) (nI s) y (nI t) v n 0) else f_X8_finding g (some 74) (-100004) := by
    intro g wg hg
    have l1 : ldI g (some 77) (nI s) = some (nI b) := by rw [m_77 wg hs, hg 77 (Or.inl rfl), a5]
    have l2 : ldI g (some 77) (nI t) = some (nI b') := by rw [m_77 wg ht, hg 77 (Or.inl rfl), b5]
    have l3 : hI g 78 s = nI z := by rw [hg 78 (Or.inr rfl)]; exact a7
    have l4 : hI g 78 t = nI z' := by rw [hg 78 (Or.inr rfl)]; exact b7
    unfold f_X8_copy
    by_cases c1 : b = 0
    · have c1' : nI b = 0 := by rw [c1]; rfl
      rw [if_pos (Or.inl c1), e8_isSheet, bd2_some, if_neg e', e8_isSheet, bd2_some, if_pos e2', m_3 wg, bd_some, l1, bd_some, if_pos c1', O_8 wg, bd_some, bd2_id]
    · have c1' : ¬ nI b = 0 := nI_ne0 (by omega) (by omega)
      by_cases c2 : b' = 0
      · have c2' : nI b' = 0 := by rw [c2]; rfl
        rw [if_pos (Or.inr c2), e8_isSheet, bd2_some, if_neg e', e8_isSheet, bd2_some, if_pos e2', m_3 wg, bd_some, l1, bd_some, if_neg c1', bd_some, l2, bd_some, if_neg (fun q => q c2'), O_8 wg, bd_some, bd2_id]
      · have c2' : ¬ nI b' = 0 := nI_ne0 (by omega) (by omega)
        rw [if_neg (show ¬ (b = 0 ∨ b' = 0) by omega), e8_isSheet, bd2_some, if_neg e', e8_isSheet, bd2_some, if_pos e2', m_3 wg, bd_some, l1, bd_some, if_neg c1', bd_some, l2, bd_some, if_pos c2', bd_some, l1, bd_some, bd_some, l2, bd_some]
        by_cases c3 : b = b'
        · have c3' : nI b = nI b' := by rw [c3]
          rw [if_pos c3', if_pos c3, O_8 wg, bd_some, e8_hasPart wg hs a2 l3, bd2_some]
          by_cases c4 : hp y n z = 0
          · rw [if_pos (Or.inl c4), if_pos c4, O_8 wg, bd_some, bd2_id]
          · rw [if_neg c4, O_8 wg, bd_some, e8_hasPart wg ht b2 l4, bd2_some]
            by_cases c5 : hp v n z' = 0
            · rw [if_pos (Or.inr c5), if_neg (fun q => q c5), O_8 wg, bd_some, bd2_id]
            · rw [if_neg (show ¬ (hp y n z = 0 ∨ hp v n z' = 0) from fun q => q.elim c4 c5), if_pos c5]
        · have c3' : ¬ nI b = nI b' := fun q => c3 ((nI_eq (by omega) (by omega)).mp q)
          rw [if_neg c3', if_neg c3, O_8 wg, bd_some, bd2_id]
  have k0 : ∀ f, ∀ k, k = 77 ∨ k = 78 → hI (sI h 0 f) k = hI h k := fun f k hk => sI_ne (by omega)
  by_cases c1 : b = 0 ∨ b' = 0
  · exact fin_ok (a := fun h => f_X7_copy h (some 0) (nI s) y (nI t) v n) (b := fun h => f_X8_copy h (some 74) (nI s) y (nI t) v n) (x := -100002) w r (by show f_X7_copy h (some 0) (nI s) y (nI t) v n = _; rw [s7, if_pos c1]) (fun f => by show f_X8_copy (sI h 0 f) (some 74) (nI s) y (nI t) v n = _; rw [s8 _ (w0 w f) (k0 f), if_pos c1])
  by_cases c2 : b = b'
  · by_cases c3 : hp y n z = 0 ∨ hp v n z' = 0
    · exact fin_ok (a := fun h => f_X7_copy h (some 0) (nI s) y (nI t) v n) (b := fun h => f_X8_copy h (some 74) (nI s) y (nI t) v n) (x := -100001) w r (by show f_X7_copy h (some 0) (nI s) y (nI t) v n = _; rw [s7, if_neg c1, if_pos c2, if_pos c3]) (fun f => by show f_X8_copy (sI h 0 f) (some 74) (nI s) y (nI t) v n = _; rw [s8 _ (w0 w f) (k0 f), if_neg c1, if_pos c2, if_pos c3])
    rw [if_neg c1, if_pos c2, if_neg c3] at s7
    rcases hp_cases y n z with q | ⟨-, a, m, rfl, rfl, ham⟩
    · exact absurd (Or.inl q) c3
    rcases hp_cases v (nI m) z' with q | ⟨-, c, m', rfl, em, hcm⟩
    · exact absurd (Or.inr q) c3
    have cm : c + m ≤ z' := by
      by_cases big : m < 2 ^ 31
      · by_cases big2 : m' < 2 ^ 31
        · have := (nI_eq big big2).mp em; omega
        · omega
      · omega
    have t1' := (shF s hs).2.2.2
    have t2' := (shF t ht).2.2.2
    obtain ⟨h1, hd1⟩ : ∃ h1, h1 = sI h (67 + 2 * t) (va_cpy (hI h (67 + 2 * s)) (hI h (67 + 2 * t)) a c m) := ⟨_, rfl⟩
    have cp : cpI h (some (67 + 2 * s)) (nI a) (some (67 + 2 * t)) (nI c) (nI m) = some h1 := by
      have w1 := w.1
      simp only [cpI]
      rw [w.2.1 (67 + 2 * s) (by omega), w.2.1 (67 + 2 * t) (by omega), t1', t2', if_pos ⟨⟨by omega, rfl⟩, ⟨by omega, rfl⟩, ⟨nI_pos (by omega), nI_pos (by omega), nI_pos (by omega)⟩, by rw [nI_clamp (by omega), nI_clamp (by omega)]; show a + m ≤ 40; omega, by rw [nI_clamp (by omega), nI_clamp (by omega)]; show c + m ≤ 40; omega⟩, nI_clamp (by omega), nI_clamp (by omega), nI_clamp (by omega), hd1]
    have f1 : Fr h h1 [67 + 2 * t] := by rw [hd1]; exact Fr.sI h (List.mem_singleton.mpr rfl)
    have w1 : WF h1 := WF_fr f1 w
    have k1 : ∀ k, k ≠ 67 + 2 * t → hI h1 k = hI h k := fun k hk => f1.2.2.2.2 k (by simp [hk])
    obtain ⟨F, hF⟩ := NN_ge m (by omega)
    obtain ⟨h2, d1, w2, d2, d3⟩ := carry8 (t := t) (c := c) (m := m) (a := a) hs (by omega) m 0 F h1 (by omega) w1
    obtain ⟨h3, l1, l2, l3⟩ := lay8 (c := c) (m := m) ht (by omega) m 0 F h2 (by omega) w2
    rw [← hF] at d1 l1
    have ff : Fr h h3 [66 + 2 * t, 67 + 2 * t, 77, 78, 79, 85] := ((f1.mono (by simp)).trans (d2.mono (by simp))).trans (l2.mono (by simp))
    have kk : ∀ k, k ≠ 67 + 2 * t → k ≠ 79 → k ≠ 85 → hI h3 k = hI h k := fun k y1 y2 y3 => by rw [l2.2.2.2.2 k (by simp [y2]), d2.2.2.2.2 k (by simp [y3]), k1 k y1]
    have n79 : ∀ j, hI h3 79 j = if 40 * t + c ≤ j ∧ j < 40 * t + c + m then hI h 79 (40 * s + a + (j - (40 * t + c))) else hI h 79 j := by
      intro j
      rw [l3 j, Nat.add_zero, d2.2.2.2.2 79 (by decide), k1 79 (by omega)]
      by_cases q : 40 * t + c ≤ j ∧ j < 40 * t + c + m
      · rw [if_pos q, if_pos q, d3, if_pos (by omega), k1 79 (by omega)]
      · rw [if_neg q, if_neg q]
    have n67 : hI h3 (67 + 2 * t) = va_cpy (hI h (67 + 2 * s)) (hI h (67 + 2 * t)) a c m := by rw [l2.2.2.2.2 _ (by simp <;> omega), d2.2.2.2.2 _ (by simp <;> omega), hd1, sI_eq]
    refine ⟨nI m, h1, h3, ?_, ?_, Sh_up w r ht ff (fun q hq hqs => ⟨by rw [kk 77 (by omega) (by omega) (by omega)], by rw [kk 78 (by omega) (by omega) (by omega)], fun j hj => by rw [n79, if_neg (by omega)]⟩) ⟨b', z', b1, b2, b3, by rw [kk _ (by omega) (by omega) (by omega)]; exact b4, by rw [kk 77 (by omega) (by omega) (by omega)]; exact b5, by rw [kk _ (by omega) (by omega) (by omega)]; exact b6, by rw [kk 78 (by omega) (by omega) (by omega)]; exact b7, fun j hj => ?_⟩⟩
    · show f_X7_copy h (some 0) (nI s) (nI a) (nI t) (nI c) (nI m) = _
      rw [s7, cp, bd_some]
    · show f_X8_copy h1 (some 74) (nI s) (nI a) (nI t) (nI c) (nI m) = _
      rw [s8 h1 w1 (fun k hk => k1 k (by omega)), if_neg c1, if_pos c2, if_neg c3, show (0 : Int32) = nI 0 from rfl, d1, show (0 : Int32) = nI 0 from rfl, l1]
    · rw [n67, n79]
      unfold va_cpy
      by_cases q : c ≤ j ∧ j < c + m
      · rw [if_pos q, if_pos (by omega), a8 _ (by omega), show 40 * s + (a + (j - c)) = 40 * s + a + (40 * t + j - (40 * t + c)) by omega]
      · rw [if_neg q, if_neg (by omega)]; exact b8 j hj
  · exact fin_ok (a := fun h => f_X7_copy h (some 0) (nI s) y (nI t) v n) (b := fun h => f_X8_copy h (some 74) (nI s) y (nI t) v n) (x := -100004) w r (by show f_X7_copy h (some 0) (nI s) y (nI t) v n = _; rw [s7, if_neg c1, if_neg c2]) (fun f => by show f_X8_copy (sI h 0 f) (some 74) (nI s) y (nI t) v n = _; rw [s8 _ (w0 w f) (k0 f), if_neg c1, if_neg c2])
