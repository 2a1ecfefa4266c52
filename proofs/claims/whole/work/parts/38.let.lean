/-! let -/
def wOk (N : Nat → Int32) (i : Nat) : Prop := win (N i) 0 999 = 1
theorem let7 {h : AH} (w : WF h) {s z : Nat} {x : Int32} (hs : s < 4) (hz : z ≤ 40) (e : hI h (66 + 2 * s) 1 = nI z) :
    ∀ (d i F : Nat), i + d = z → ((∀ j, i ≤ j → j < z → wOk (hI h (67 + 2 * s)) j) → g_X7_let_69 (F + d + 1) h (some 0) (some (66 + 2 * s)) x (nI i) = g_X7_let_69 1 h (some 0) (some (66 + 2 * s)) x (nI z)) ∧ ((∃ j, i ≤ j ∧ j < z ∧ ¬ wOk (hI h (67 + 2 * s)) j) → g_X7_let_69 (F + d + 1) h (some 0) (some (66 + 2 * s)) x (nI i) = f_X7_finding h (some 0) (-100001)) := by
  intro d
  induction d with
  | zero =>
    intro i F hi
    have : i = z := by omega
    subst this
    refine ⟨fun _ => ?_, fun ⟨j, h1, h2, _⟩ => by omega⟩
    have c : nI i ≤ nI i := nI_le (Nat.le_refl _) (by omega)
    rw [show F + 0 + 1 = F + 1 from rfl, g_X7_let_69, g_X7_let_69, s_I w hs, bd_some, e, if_pos c, bd_some, if_pos c]
  | succ d ih =>
    intro i F hi
    have c : ¬ nI z ≤ nI i := nI_ge (by omega) (by omega)
    obtain ⟨a1, a2⟩ := ih (i + 1) F (by omega)
    have st : g_X7_let_69 (F + (d + 1) + 1) h (some 0) (some (66 + 2 * s)) x (nI i) = if ¬ win (hI h (67 + 2 * s) i) 0 999 = 0 then g_X7_let_69 (F + d + 1) h (some 0) (some (66 + 2 * s)) x (nI (i + 1)) else f_X7_finding h (some 0) (-100001) := by
      rw [g_X7_let_69, s_I w hs, bd_some, e, if_neg c, s_N w hs, bd_some, s_L w hs (by omega), bd_some, e7_isWater, bd2_some, O_7 w, bd_some, bd2_id, nI_1]; rfl
    rw [st]
    rcases win_cases (hI h (67 + 2 * s) i) 0 999 with ⟨q, -⟩ | ⟨q, -⟩
    · refine ⟨fun hh => ?_, fun _ => by rw [if_neg (fun z => z q)]⟩
      have := hh i (Nat.le_refl _) (by omega)
      unfold wOk at this; rw [q] at this; exact absurd this (by decide)
    · rw [q, if_pos (by decide)]
      refine ⟨fun hh => a1 (fun j h1 h2 => hh j (by omega) h2), fun ⟨j, h1, h2, h3⟩ => a2 ⟨j, ?_, h2, h3⟩⟩
      by_cases ej : j = i
      · subst ej; exact absurd q h3
      · omega
theorem let8 {g : AH} (w : WF g) {s z : Nat} {x : Int32} (hs : s < 4) (hz : z ≤ 40) (e : hI g 78 s = nI z) {N : Nat → Int32} (hN : ∀ i, i < 40 → hI g 79 (40 * s + i) = N i) :
    ∀ (d i F : Nat), i + d = z → ((∀ j, i ≤ j → j < z → wOk N j) → g_X8_let_61 (F + d + 1) g (some 74) x (nI s) (nI i) = g_X8_let_61 1 g (some 74) x (nI s) (nI z)) ∧ ((∃ j, i ≤ j ∧ j < z ∧ ¬ wOk N j) → g_X8_let_61 (F + d + 1) g (some 74) x (nI s) (nI i) = f_X8_finding g (some 74) (-100001)) := by
  intro d
  induction d with
  | zero =>
    intro i F hi
    have : i = z := by omega
    subst this
    refine ⟨fun _ => ?_, fun ⟨j, h1, h2, _⟩ => by omega⟩
    have c : nI i ≤ nI i := nI_le (Nat.le_refl _) (by omega)
    rw [show F + 0 + 1 = F + 1 from rfl, g_X8_let_61, g_X8_let_61, m_4 w, bd_some, m_78 w hs, bd_some, e, if_pos c, bd_some, m_78 w hs, bd_some, e, if_pos c]
  | succ d ih =>
    intro i F hi
    have c : ¬ nI z ≤ nI i := nI_ge (by omega) (by omega)
    obtain ⟨a1, a2⟩ := ih (i + 1) F (by omega)
    have st : g_X8_let_61 (F + (d + 1) + 1) g (some 74) x (nI s) (nI i) = if ¬ win (N i) 0 999 = 0 then g_X8_let_61 (F + d + 1) g (some 74) x (nI s) (nI (i + 1)) else f_X8_finding g (some 74) (-100001) := by
      rw [g_X8_let_61, m_4 w, bd_some, m_78 w hs, bd_some, e, if_neg c, m_5 w, bd_some, ix40, m_79 w (by omega), bd_some, hN i (by omega), e8_isWater, bd2_some, O_8 w, bd_some, bd2_id, nI_1]; rfl
    rw [st]
    rcases win_cases (N i) 0 999 with ⟨q, -⟩ | ⟨q, -⟩
    · refine ⟨fun hh => ?_, fun _ => by rw [if_neg (fun z => z q)]⟩
      have := hh i (Nat.le_refl _) (by omega)
      unfold wOk at this; rw [q] at this; exact absurd this (by decide)
    · rw [q, if_pos (by decide)]
      refine ⟨fun hh => a1 (fun j h1 h2 => hh j (by omega) h2), fun ⟨j, h1, h2, h3⟩ => a2 ⟨j, ?_, h2, h3⟩⟩
      by_cases ej : j = i
      · subst ej; exact absurd q h3
      · omega
theorem wat8 {s z d0 : Nat} (hs : s < 4) (hz : z ≤ 40) (hd : 4 * d0 + z ≤ 120) : ∀ (d i F : Nat) (h : AH), i + d = z → WF h → hI h 78 s = nI z → ∃ h1, g_X8_let_107 (F + d + 1) h (some 74) (nI d0) (nI s) (nI i) = some (nI z, h1) ∧ Fr h h1 [75] ∧ ∀ j, hI h1 75 j = if 74 + 4 * d0 + i ≤ j ∧ j < 74 + 4 * d0 + z then hI h 79 (40 * s + (j - (74 + 4 * d0))) else hI h 75 j := by
  intro d
  induction d with
  | zero =>
    intro i F h hi w e
    refine ⟨h, ?_, Fr.rf h _, fun j => by rw [if_neg (by omega)]⟩
    rw [show F + 0 + 1 = F + 1 from rfl, g_X8_let_107, m_4 w, bd_some, m_78 w hs, bd_some, e, if_pos (nI_le (by omega) (by omega)), bd_some, m_78 w hs, bd_some, e]
  | succ d ih =>
    intro i F h hi w e
    have x1 : 74 + 4 * nI d0 + nI i = nI (74 + 4 * d0 + i) := by rw [show (4 : Int32) = nI 4 from rfl, show (74 : Int32) = nI 74 from rfl, pk_mul, nI_add, nI_add]
    have st : stI h (some 75) (nI (74 + 4 * d0 + i)) (hI h 79 (40 * s + i)) = some (sI h 75 (upd (hI h 75) (74 + 4 * d0 + i) (hI h 79 (40 * s + i)))) := stI_w w (by decide) rfl (by show _ < 556; omega) (by decide)
    obtain ⟨h1, a1, a2, a3⟩ := ih (i + 1) F (sI h 75 (upd (hI h 75) (74 + 4 * d0 + i) (hI h 79 (40 * s + i)))) (by omega) ((WF_sI _ _ _).mpr w) (by rw [sI_ne (by decide)]; exact e)
    refine ⟨h1, ?_, (Fr.sI h (by decide)).trans a2, fun j => ?_⟩
    · rw [g_X8_let_107, m_4 w, bd_some, m_78 w hs, bd_some, e, if_neg (nI_ge (by omega) (by omega)), gR_w (q := 74) (ci := 8) (j := 0) w (by decide) rfl rfl, bd_some, show tR 74 0 = some 75 from rfl, m_5 w, bd_some, ix40, m_79 w (by omega), bd_some, x1, st, bd_some, nI_1]
      exact a1
    · rw [a3 j, sI_eq, sI_ne (by decide)]
      unfold upd
      by_cases c1 : 74 + 4 * d0 + (i + 1) ≤ j ∧ j < 74 + 4 * d0 + z
      · rw [if_pos c1, if_pos (by omega)]
      · rw [if_neg c1]
        by_cases c2 : j = 74 + 4 * d0 + i
        · rw [if_pos c2, if_pos (by omega), c2, show 74 + 4 * d0 + i - (74 + 4 * d0) = i by omega]
        · rw [if_neg c2, if_neg (by omega)]
theorem op_let (x y : Int32) : OpOk (fun h => f_X7_let h (some 0) x y) (fun h => f_X8_let h (some 74) x y) := by
  intro h w r
  rcases win_nI (x := x) (a := 0) (b := 29) (by omega) (by omega) with e | ⟨e, d0, d1, d2, rfl⟩
  · have e' : win x 0 29 = 0 := e
    exact fin_ok (a := fun h => f_X7_let h (some 0) x y) (b := fun h => f_X8_let h (some 74) x y) (x := -100001) w r (by show f_X7_let h (some 0) x y = _; unfold f_X7_let; rw [e7_isDay, bd2_some, if_pos e', O_7 w, bd_some, bd2_id]) (fun f => by show f_X8_let (sI h 0 f) (some 74) x y = _; unfold f_X8_let; rw [e8_isDay, bd2_some, if_pos e', O_8 (w0 w f), bd_some, bd2_id])
  have e' : ¬ win (nI d0) 0 29 = 0 := by rw [show win (nI d0) 0 29 = 1 from e]; decide
  rcases win_nI (x := y) (a := 0) (b := 3) (by omega) (by omega) with e2 | ⟨e2, s, s1, s2, rfl⟩
  · have e2' : win y 0 3 = 0 := e2
    exact fin_ok (a := fun h => f_X7_let h (some 0) (nI d0) y) (b := fun h => f_X8_let h (some 74) (nI d0) y) (x := -100001) w r (by show f_X7_let h (some 0) (nI d0) y = _; unfold f_X7_let; rw [e7_isDay, bd2_some, if_neg e', e7_isSheet, bd2_some, if_neg (fun q => q e2'), O_7 w, bd_some, bd2_id]) (fun f => by show f_X8_let (sI h 0 f) (some 74) (nI d0) y = _; unfold f_X8_let; rw [e8_isDay, bd2_some, if_neg e', e8_isSheet, bd2_some, if_neg (fun q => q e2'), O_8 (w0 w f), bd_some, bd2_id])
  have e2' : ¬ win (nI s) 0 3 = 0 := by rw [show win (nI s) 0 3 = 1 from e2]; decide
  have hs : s < 4 := by omega
  obtain ⟨C, r1, r2, r3, nx, sz, q1, q2, q3, q4, q5, q6⟩ := r
  have r : Rel h := ⟨C, r1, r2, r3, nx, sz, q1, q2, q3, q4, q5, q6⟩
  obtain ⟨b, z, a1, a2, a3, a4, a5, a6, a7, a8⟩ := r2 s hs
  have g77 : ∀ f, hI (sI h 0 f) 77 s = nI b := fun f => by rw [sI_ne (by decide)]; exact a5
  have g78 : ∀ f, hI (sI h 0 f) 78 s = nI z := fun f => by rw [sI_ne (by decide)]; exact a7
  by_cases cb : b = 0
  · subst cb
    exact fin_ok (a := fun h => f_X7_let h (some 0) (nI d0) (nI s)) (b := fun h => f_X8_let h (some 74) (nI d0) (nI s)) (x := -100002) w r (by show f_X7_let h (some 0) (nI d0) (nI s) = _; unfold f_X7_let; rw [e7_isDay, bd2_some, if_neg e', e7_isSheet, bd2_some, if_pos e2', s_65 w, bd_some, s_ld w hs, bd_some, s_O w hs, bd_some, s_miss w hs, bd2_some, a4, if_pos (show nI 0 = 0 from rfl), if_neg (show ¬ (1 : Int32) = 0 by decide), O_7 w, bd_some, bd2_id]) (fun f => by show f_X8_let (sI h 0 f) (some 74) (nI d0) (nI s) = _; unfold f_X8_let; rw [e8_isDay, bd2_some, if_neg e', e8_isSheet, bd2_some, if_pos e2', m_3 (w0 w f), bd_some, m_77 (w0 w f) hs, bd_some, g77, if_neg (fun q => q rfl), O_8 (w0 w f), bd_some, bd2_id])
  have nb : ¬ nI b = 0 := nI_ne0 (by omega) (by omega)
  have x4 : nI d0 * 4 = nI (4 * d0) := by rw [show (4 : Int32) = nI 4 from rfl, pk_mul, Nat.mul_comm]
  have x5 : 4 * nI d0 = nI (4 * d0) := by rw [show (4 : Int32) = nI 4 from rfl, pk_mul]
  have x6 : 120 - nI (4 * d0) = nI (120 - 4 * d0) := pk_sub (a := 120) (by omega)
  have s7 : f_X7_let h (some 0) (nI d0) (nI s) = if nI z ≤ nI (120 - 4 * d0) then g_X7_let_69 NN h (some 0) (some (66 + 2 * s)) (nI (4 * d0)) 0 else f_X7_finding h (some 0) (-100003) := by
    unfold f_X7_let
    rw [e7_isDay, bd2_some, if_neg e', e7_isSheet, bd2_some, if_pos e2', s_65 w, bd_some, s_ld w hs, bd_some, s_O w hs, bd_some, s_miss w hs, bd2_some, a4, if_neg nb, if_pos rfl, s_I w hs, bd_some, a6, x4, x6, O_7 w, bd_some, bd2_id]
  have s8 : ∀ g, WF g → (∀ k, k = 77 ∨ k = 78 → hI g k = hI h k) → f_X8_let g (some 74) (nI d0) (nI s) = if nI (4 * d0 + z) ≤ 120 then g_X8_let_61 NN g (some 74) (nI d0) (nI s) 0 else f_X8_finding g (some 74) (-100003) := by
    intro g wg hg
    unfold f_X8_let
    rw [e8_isDay, bd2_some, if_neg e', e8_isSheet, bd2_some, if_pos e2', m_3 wg, bd_some, m_77 wg hs, bd_some, hg 77 (Or.inl rfl), a5, if_pos nb, m_4 wg, bd_some, m_78 wg hs, bd_some, hg 78 (Or.inr rfl), a7, x5, nI_add, O_8 wg, bd_some, bd2_id]
  have k0 : ∀ f, ∀ k, k = 77 ∨ k = 78 → hI (sI h 0 f) k = hI h k := fun f k hk => sI_ne (by omega)
  by_cases cz : 4 * d0 + z ≤ 120
  · have y7 : nI z ≤ nI (120 - 4 * d0) := nI_le (by omega) (by omega)
    have y8 : nI (4 * d0 + z) ≤ 120 := nI_le (b := 120) (by omega) (by omega)
    obtain ⟨F, hF⟩ := NN_ge z (by omega)
    obtain ⟨u1, u2⟩ := let7 (x := nI (4 * d0)) w hs a2 a6 z 0 F (by omega)
    have v12 := fun g wg hg hN => let8 (g := g) (x := nI d0) wg hs a2 hg (N := hI h (67 + 2 * s)) hN z 0 F (by omega)
    rw [← hF] at u1 u2 v12
    rw [if_pos y7, show (0 : Int32) = nI 0 from rfl] at s7
    by_cases ok : ∃ j, 0 ≤ j ∧ j < z ∧ ¬ wOk (hI h (67 + 2 * s)) j
    · exact fin_ok (a := fun h => f_X7_let h (some 0) (nI d0) (nI s)) (b := fun h => f_X8_let h (some 74) (nI d0) (nI s)) (x := -100001) w r (by show f_X7_let h (some 0) (nI d0) (nI s) = _; rw [s7]; exact u2 ok) (fun f => by show f_X8_let (sI h 0 f) (some 74) (nI d0) (nI s) = _; rw [s8 _ (w0 w f) (k0 f), if_pos y8, show (0 : Int32) = nI 0 from rfl]; exact (v12 _ (w0 w f) (g78 f) (fun i hi => by rw [sI_ne (by decide)]; exact (a8 i hi).symm)).2 ok)
    have ok' : ∀ j, 0 ≤ j → j < z → wOk (hI h (67 + 2 * s)) j := fun j h1 h2 => Classical.byContradiction (fun q => ok ⟨j, h1, h2, q⟩)
    have c : nI z ≤ nI z := nI_le (Nat.le_refl _) (by omega)
    obtain ⟨h1, e1, w1, k1, k65, ckk⟩ := ck_rng (a := 4 * d0) (m := z) (r := 4) w q1 q3 q2 q4 (by decide) (by show 4 * d0 + z ≤ 120; omega)
    have t1' := (shF s hs).2.2.2
    obtain ⟨h2, hd2⟩ : ∃ h2, h2 = sI h1 4 (va_cpy (hI h (67 + 2 * s)) (hI h 4) 0 (4 * d0) z) := ⟨_, rfl⟩
    have cp : cpI h1 (some (67 + 2 * s)) 0 (some 4) (nI (4 * d0)) (nI z) = some h2 := by
      have w11 := w1.1
      simp only [cpI]
      rw [w1.2.1 (67 + 2 * s) (by omega), w1.2.1 4 (by omega), t1', if_pos ⟨⟨by omega, rfl⟩, ⟨by omega, rfl⟩, ⟨by decide, nI_pos (by omega), nI_pos (by omega)⟩, by rw [show (0 : Int32).toNatClampNeg = 0 from rfl, nI_clamp (by omega)]; show 0 + z ≤ 40; omega, by rw [nI_clamp (by omega), nI_clamp (by omega)]; show 4 * d0 + z ≤ 120; omega⟩, nI_clamp (by omega), nI_clamp (by omega), k65 (67 + 2 * s) (by omega) (by omega), k1 4 (by omega), hd2]; rfl
    have f2 : Fr h1 h2 [4] := by rw [hd2]; exact Fr.sI h1 (by decide)
    have w2 : WF h2 := WF_fr f2 w1
    have n4 : ∀ j, hI h2 4 j = if 4 * d0 ≤ j ∧ j < 4 * d0 + z then hI h (67 + 2 * s) (j - 4 * d0) else hI h 4 j := by
      intro j
      rw [hd2, sI_eq]
      unfold va_cpy
      by_cases q : 4 * d0 ≤ j ∧ j < 4 * d0 + z
      · rw [if_pos q, if_pos q, Nat.zero_add]
      · rw [if_neg q, if_neg q]
    have ck := ckk h2 h [] (fun k hk => by cases hk) f2 (Fr.rf h _) (fun k hk => by cases hk) (fun j hj => by rw [n4, if_neg hj])
    have n65 : ∀ k, 65 ≤ k → k < 86 → hI h2 k = hI h k := fun k ha hb => by rw [f2.2.2.2.2 k (by simp <;> omega), k65 k ha hb]
    have i1 : hI h1 (66 + 2 * s) 1 = nI z := by rw [k65 _ (by omega) (by omega)]; exact a6
    have i2 : hI h2 (66 + 2 * s) 1 = nI z := by rw [n65 _ (by omega) (by omega)]; exact a6
    have z7 : f_X7_let h (some 0) (nI d0) (nI s) = some (nI z, h2) := by
      rw [s7, u1 ok']
      unfold g_X7_let_69
      rw [s_I w hs, bd_some, a6, if_pos c, gR_w (q := 0) (ci := 7) (j := 4) w (by decide) rfl rfl, bd_some, show tR 0 4 = some 23 from rfl, gR_w (q := 0) (ci := 7) (j := 0) w (by decide) rfl rfl, bd_some, show tR 0 0 = some 1 from rfl, gR_w (q := 1) (ci := 4) (j := 2) w (by decide) rfl rfl, bd_some, show tR 1 2 = some 4 from rfl, bd_some, isO_w (q := 23) (ci := 1) w (by decide) rfl, bd_some, e1, bd_some, s_N w1 hs, bd_some, gR_w (q := 0) (ci := 7) (j := 0) w1 (by decide) rfl rfl, bd_some, show tR 0 0 = some 1 from rfl, gR_w (q := 1) (ci := 4) (j := 2) w1 (by decide) rfl rfl, bd_some, show tR 1 2 = some 4 from rfl, s_I w1 hs, bd_some, i1, cp, bd_some, s_I w2 hs, bd_some, i2]
    obtain ⟨h3, e3, w3, f3, mkk⟩ := mk_keep w2 q2 (by rw [n65 74 (by omega) (by omega)]; exact q5)
    have n78 : hI h3 78 s = nI z := by rw [f3.2.2.2.2 78 (by decide), n65 78 (by omega) (by omega)]; exact a7
    obtain ⟨h4, e4, f4, m4⟩ := wat8 (d0 := d0) hs a2 cz z 0 F h3 (by omega) w3 n78
    rw [← hF] at e4
    have z8 : f_X8_let h2 (some 74) (nI d0) (nI s) = some (nI z, h4) := by
      rw [s8 h2 w2 (fun k hk => n65 k (by omega) (by omega)), if_pos y8, show (0 : Int32) = nI 0 from rfl, (v12 h2 w2 (by rw [n65 78 (by omega) (by omega)]; exact a7) (fun i hi => by rw [n65 79 (by omega) (by omega)]; exact (a8 i hi).symm)).1 ok']
      unfold g_X8_let_61
      rw [m_4 w2, bd_some, m_78 w2 hs, bd_some, n65 78 (by omega) (by omega), a7, if_pos c, O_8 w2, bd_some, e3, bd_some, show (0 : Int32) = nI 0 from rfl, e4]
    have kk : ∀ k, k < 23 → k ≠ 4 → hI h4 k = hI h k := fun k h1 h2 => by rw [f4.2.2.2.2 k (by simp <;> omega), f3.2.2.2.2 k (by simp <;> omega), f2.2.2.2.2 k (by simp [h2]), k1 k h1]
    have k4 : hI h4 4 = hI h2 4 := by rw [f4.2.2.2.2 4 (by decide), f3.2.2.2.2 4 (by decide)]
    have N : ∀ j, hI h4 75 j = if 74 + 4 * d0 ≤ j ∧ j < 74 + 4 * d0 + z then hI h 79 (40 * s + (j - (74 + 4 * d0))) else hI h 75 j := by
      intro j
      rw [m4 j, Nat.add_zero, f3.2.2.2.2 79 (by decide), f3.2.2.2.2 75 (by decide), n65 79 (by omega) (by omega), n65 75 (by omega) (by omega)]
    have nn : ∀ j, (j < 74 ∨ 194 ≤ j) → hI h4 75 j = hI h 75 j := fun j hj => by rw [N, if_neg (by omega)]
    obtain ⟨rb, rc, rp, rl, rwt, rt, ra⟩ := id r1
    refine ⟨nI z, h2, h4, z7, z8, act w r1 r2 r3 q1 q2 q6 (Fr.rf h []) (fun _ z => by cases z) (Ag_rows (fun _ _ _ => rfl)) ck (mkk h4 f4) (C2 := C) ⟨?_, ?_, ?_, ?_, fun q hq => ?_, ?_, ?_⟩ (leC_rf C)⟩
    · exact rB_c rb (kk 2 (by omega) (by omega)) (nn 0 (by omega)) (nn 1 (by omega))
    · exact rC_c rc (by rw [kk 3 (by omega) (by omega)]) (kk 5 (by omega) (by omega)) (kk 6 (by omega) (by omega)) (nn 2 (by omega)) (fun j _ _ => nn j (by omega))
    · exact rP_c rp (by rw [kk 3 (by omega) (by omega)]) (kk 7 (by omega) (by omega)) (kk 8 (by omega) (by omega)) (kk 9 (by omega) (by omega)) (nn 3 (by omega)) (fun j _ _ => nn j (by omega))
    · exact rL_c rl (by rw [kk 3 (by omega) (by omega)]) (kk 10 (by omega) (by omega)) (nn 4 (by omega)) (fun j _ _ => nn j (by omega))
    · rw [k4, n4, N]
      by_cases cq : 4 * d0 ≤ q ∧ q < 4 * d0 + z
      · rw [if_pos cq, if_pos (by omega), show 74 + q - (74 + 4 * d0) = q - 4 * d0 by omega, ← a8 _ (by omega)]
        rcases win_nI (x := hI h (67 + 2 * s) (q - 4 * d0)) (a := 0) (b := 999) (by omega) (by omega) with z0 | ⟨-, v, -, v2, v3⟩
        · have := ok' (q - 4 * d0) (by omega) (by omega)
          unfold wOk at this
          rw [show win (hI h (67 + 2 * s) (q - 4 * d0)) 0 999 = 0 from z0] at this
          exact absurd this (by decide)
        · exact ⟨v, v2, v3, v3⟩
      · rw [if_neg cq, if_neg (by omega)]; exact rwt q hq
    · exact rT_c rt (Nat.le_refl _) (by rw [kk 12 (by omega) (by omega)]) (kk 13 (by omega) (by omega)) (nn 5 (by omega)) (fun j _ _ => nn j (by omega))
    · exact rA_c ra (by rw [kk 20 (by omega) (by omega)]) (kk 21 (by omega) (by omega)) (nn 6 (by omega)) (fun j _ _ => nn j (by omega))
  · have y7 : ¬ nI z ≤ nI (120 - 4 * d0) := nI_ge (by omega) (by omega)
    have y8 : ¬ nI (4 * d0 + z) ≤ 120 := nI_ge (a := 120) (by omega) (by omega)
    exact fin_ok (a := fun h => f_X7_let h (some 0) (nI d0) (nI s)) (b := fun h => f_X8_let h (some 74) (nI d0) (nI s)) (x := -100003) w r (by show f_X7_let h (some 0) (nI d0) (nI s) = _; rw [s7, if_neg y7]) (fun f => by show f_X8_let (sI h 0 f) (some 74) (nI d0) (nI s) = _; rw [s8 _ (w0 w f) (k0 f), if_neg y8])
