/-! both plan a trip -/
theorem jnk {c d : AH} {S : List Nat} (f : Fr c d S) (hS1 : ∀ k, k ∈ S → k ∈ [14, 15, 16, 17, 18, 22, 80, 81, 82]) (w : WF c) (r : Rel c) : WF d ∧ Rel d := by
  obtain ⟨C, r1, r2, r3, r4⟩ := id r
  have ek : ∀ k, k ∉ [14, 15, 16, 17, 18, 22, 80, 81, 82] → hI d k = hI c k := fun k hk => f.2.2.2.2 k (fun z => hk (hS1 k z))
  refine ⟨WF_fr f w, Rel_of w r (fun k hk => ek k ?_) f.1 f.2.1 (Sh_of r2 (fun k hk => ek k ?_)) (by rw [ek 0 (by decide), ek 74 (by decide)]; exact r3) (by rw [ek 74 (by decide)])⟩
  · intro z
    simp only [List.mem_cons, List.not_mem_nil, or_false] at z
    rcases z with z | z | z | z | z | z | z | z | z <;> (subst z; exact absurd hk (by decide))
  · intro z
    simp only [List.mem_cons, List.not_mem_nil, or_false] at z
    omega
theorem split_fr {a d : AH} {S1 S2 : List Nat} (f : Fr a d (S1 ++ S2)) : ∃ c, Fr a c S1 ∧ Fr c d S2 := by
  refine ⟨(hn d, hs d, hS d, fun k => if k ∈ S1 then hI d k else hI a k, hR d), ⟨f.1, f.2.1, f.2.2.1, f.2.2.2.1, fun k hk => ?_⟩, ⟨rfl, rfl, rfl, rfl, fun k hk => ?_⟩⟩
  · show (if k ∈ S1 then hI d k else hI a k) = hI a k
    rw [if_neg hk]
  · show hI d k = (if k ∈ S1 then hI d k else hI a k)
    by_cases q : k ∈ S1
    · rw [if_pos q]
    · rw [if_neg q]; exact f.2.2.2.2 k (fun z => (List.mem_append.mp z).elim q hk)
theorem MK_j {a b d : AH} {sz : Nat} (f1 : Fr a b [80, 81]) (mk : MK b d sz) : ∃ c, MK a c sz ∧ Fr c d [80, 81] := by
  obtain ⟨m1, m2, m3, m4, m5⟩ := mk
  have f : Fr a d ([74, 75, 76] ++ [80, 81]) := (f1.mono (by decide)).trans (m1.mono (by decide))
  obtain ⟨c, c1, c2⟩ := split_fr f
  have sc : snf d = snf c := by unfold snf; rw [c2.2.2.2.2 76 (by decide)]
  have sa : snf b = snf a := by unfold snf; rw [f1.2.2.2.2 76 (by decide)]
  rw [sc] at m3 m4 m5
  rw [sa] at m4 m5
  refine ⟨c, ⟨c1, fun j => ?_, fun j hj => ?_, m4, m5⟩, c2⟩
  · rw [← c2.2.2.2.2 74 (by decide), m2 j, f1.2.2.2.2 74 (by decide)]
  · rw [m3 j hj, f1.2.2.2.2 75 (by decide)]
theorem fin_ok2 {h h1 : AH} (w : WF h) (r : Rel h) {a b : AH → Option (Int32 × AH)} {x : Int32} (f1 : Fr h h1 [15, 16, 17, 18]) (ha : a h = f_X7_finding h1 (some 0) x) (hb : ∀ g, WF g → hI g 75 = hI h 75 → ∃ g', Fr g g' [80, 81] ∧ b g = f_X8_finding g' (some 74) x) : Ok2 h a b := by
  obtain ⟨w1, r1⟩ := jnk f1 (by decide) w r
  rw [e7_finding w1] at ha
  have wg : WF (sI h1 0 (upd (hI h1 0) 6 (hI h1 0 6 + 1))) := (WF_sI _ _ _).mpr w1
  obtain ⟨g', fg, eg⟩ := hb (sI h1 0 (upd (hI h1 0) 6 (hI h1 0 6 + 1))) wg (by rw [sI_ne (by decide), f1.2.2.2.2 75 (by decide)])
  have wg' := WF_fr fg wg
  rw [e8_finding wg'] at eg
  have e74 : hI g' 74 = hI h1 74 := by rw [fg.2.2.2.2 74 (by decide), sI_ne (by decide)]
  have f2 : Fr (sI (sI h1 0 (upd (hI h1 0) 6 (hI h1 0 6 + 1))) 74 (upd (hI h1 74) 6 (hI h1 74 6 + 1))) (sI g' 74 (upd (hI g' 74) 6 (hI g' 74 6 + 1))) [80, 81] := by
    refine ⟨by rw [hR_sI, hR_sI]; exact fg.1, by rw [hS_sI, hS_sI]; exact fg.2.1, by rw [hn_sI, hn_sI]; exact fg.2.2.1, by rw [hs_sI, hs_sI]; exact fg.2.2.2.1, fun k hk => ?_⟩
    by_cases e : k = 74
    · subst e; rw [sI_eq, sI_eq, e74]
    · rw [sI_ne e, sI_ne e]; exact fg.2.2.2.2 k hk
  obtain ⟨w2, r2⟩ := jnk f2 (by decide) ((WF_sI _ _ _).mpr wg) (Rel_find w1 r1)
  refine ⟨x, _, _, ha, eg, w2, r2, ?_, ?_⟩
  · rw [hn_sI, fg.2.2.1, hn_sI, f1.2.2.1]; omega
  · rw [hs_sI, fg.2.2.2.1, hs_sI, f1.2.2.2.1]; omega
theorem plan_both {D : RW} {N : Nat → Int32} {C : CT} (R : Rd D N C) {t : Nat} (ht : t < C.2.2.2.1) : ∃ (l n : Nat) (Pt : Nat → Nat), l ≤ 29 ∧ D 13 (35 * t + 1) = nI l ∧ N (194 + 5 * t + 1) = nI l ∧ n ≤ 15 ∧ l + n ≤ 30 ∧ (∀ j, j + 1 < n → Pt j < C.1 ∧ ∀ u, u < C.2.2.2.1 → u ≠ t → D 13 (35 * u + (5 + (l + j))) ≠ nI (Pt j)) ∧
    (∀ h, Bs D h → ∃ h1, f_X3_search h (some 15) (some 1) (some 11) (nI t) = some (if n = 0 then 0 else 1, h1) ∧ Fr h h1 [15, 16, 17, 18] ∧ hI h1 15 0 = nI n ∧ ∀ j, j + 1 < n → hI h1 16 j = nI (Pt j)) ∧
    (∀ g, WF g → hI g 75 = N → ∃ g', f_X8_tell g (some 74) (nI t) = some (nI (if n = 0 then 1000 else n), g') ∧ Fr g g' [80, 81]) ∧
    ∀ g, WF g → hI g 75 = N → ∃ g', f_X8_planOf g (some 74) (nI t) = some (nI (if n = 0 then 1000 else n), g') ∧ Fr g g' [80, 81] ∧ ∀ j, j + 1 < n → hI g' 81 j = nI (Pt j) := by
  obtain ⟨E, s, M, sm, mr, ma, mb, WV, RV, RM⟩ := rv_of R
  obtain ⟨-, ⟨cc1, cc2, cc3, cc4⟩, -, -, -, ⟨l1, l2, l3, l4⟩, -⟩ := R
  obtain ⟨⟨k, l, p, f, o, v1, v2, v3, v4, v5, v6, v7, v8, v9, v10, hu⟩, g2, g3⟩ := l4 t ht
  have X7 := dx_of (NT := fun u d => D 13 (35 * u + (5 + d))) RV cc1 l1 ht l2 v1 v2 v3 v4 v5 v6 v7 v8 v9 v10 (fun u hu d hd => ⟨rfl, ((l4 u hu).2.2 d hd).2⟩)
  have X8 := mx_of (NT := fun u d => D 13 (35 * u + (5 + d))) RM cc1 l1 ht cc3 l3 v1 v2 v3 v4 v5 (by rw [g2 0 (by omega)]; exact v6) (by rw [g2 1 (by omega)]; exact v7) (by rw [g2 2 (by omega)]; exact v8) (by rw [g2 3 (by omega)]; exact v9) (by rw [g2 4 (by omega)]; exact v10) (fun u hu d hd => ((l4 u hu).2.2 d hd).1)
  have hGt : ∀ i x c, Gf C.1 C.2.1 E s M sm mr ma mb WV C.2.2.2.1 t k l p (fun u d => D 13 (35 * u + (5 + d))) i x c → c < C.1 ∧ ∀ u, u < C.2.2.2.1 → u ≠ t → D 13 (35 * u + (5 + (l + i))) ≠ nI c := fun i x c h => ⟨h.1, h.2.2.2⟩
  generalize Gf C.1 C.2.1 E s M sm mr ma mb WV C.2.2.2.1 t k l p (fun u d => D 13 (35 * u + (5 + d))) = G at *
  generalize Ef C.1 C.2.1 E s M mr ma mb WV k l p = En at *
  have hG14 : ∀ i x c, G i x c → c < 14 := fun i x c h => by have := (hGt i x c h).1; omega
  have nm : pn G En o (min f (30 - l)) ≤ min f (30 - l) := by
    rcases pn_sp (G := G) (En := En) (mo := o) (min f (30 - l)) with z | z
    · omega
    · exact z.2.1
  refine ⟨l, pn G En o (min f (30 - l)), fun j => (pth G En o (pn G En o (min f (30 - l))) (j + 1)).1, v2, v7, by rw [g2 1 (by omega)]; exact v7, by omega, by omega, fun j hj => ?_, fun h b => ?_, fun g w hg => ?_, fun g w hg => ?_⟩
  · rcases pn_sp (G := G) (En := En) (mo := o) (min f (30 - l)) with z | ⟨z1, z2, z3, z4⟩
    · omega
    · obtain ⟨nx, -⟩ := pth_nx hG14 z3 hj
      exact hGt _ _ _ nx.1
  · exact search_sp X7 b
  · obtain ⟨g', a1, a2, -⟩ := tell_sp X8 w hg
    exact ⟨g', a1, a2.mono (by decide)⟩
  · exact planOf_sp X8 w hg
/-! the nights written -/
def ly13 (t l n : Nat) (Pt : Nat → Nat) (f : Nat → Int32) : Nat → Int32 := fun j => if 35 * t + (5 + l) ≤ j ∧ j + 1 < 35 * t + (5 + (l + n)) then nI (Pt (j - (35 * t + (5 + l)))) else if 35 * t + 5 ≤ j ∧ j < 35 * t + 35 then -1 else f j
def ly75 (t l n : Nat) (Pt : Nat → Nat) (f : Nat → Int32) : Nat → Int32 := fun j => if 244 + 30 * t + l ≤ j ∧ j + 1 < 244 + 30 * t + (l + n) then nI (Pt (j - (244 + 30 * t + l))) else if 244 + 30 * t ≤ j ∧ j < 244 + 30 * t + 30 then -1 else f j
theorem wrN_sp {t l n : Nat} (ht : t < 10) (hl : l + n ≤ 30) (hn : n ≤ 15) (Pt : Nat → Nat) : ∀ (m i F : Nat) (h : AH), i + m + 1 = n → WF h → hI h 15 0 = nI n → (∀ j, j + 1 < n → hI h 16 j = nI (Pt j)) → ∃ h', g_X3_writeNights_15 (F + m + 1) h (some 15) (some 11) (nI t) (nI l) (nI i) = some h' ∧ Fr h h' [13] ∧ ∀ j, hI h' 13 j = if 35 * t + (5 + (l + i)) ≤ j ∧ j + 1 < 35 * t + (5 + (l + n)) then nI (Pt (j - (35 * t + (5 + l)))) else hI h 13 j := by
  intro m
  induction m with
  | zero =>
    intro i F h hi w d0 hp
    refine ⟨h, ?_, Fr.rf _ _, fun j => by rw [if_neg (by omega)]⟩
    rw [show F + 0 + 1 = F + 1 from rfl, g_X3_writeNights_15, g15 w, bd_some, d0, show nI n - 1 = nI (n - 1) from pk_sub (b := 1) (by omega), if_pos (nI_le (by omega) (by omega))]
  | succ m ih =>
    intro i F h hi w d0 hp
    have l16 : ldI h (some 16) (nI i) = some (nI (Pt i)) := by rw [← hp i (by omega)]; exact ldI_w w (by decide) rfl (by show i < 15; omega) (by decide)
    obtain ⟨h1, a1, w1, f1, n1⟩ := wr_ex w (t := t) (j := 5 + (l + i)) (jj := 5 + nI l + nI i) (v := nI (Pt i)) (by omega) (by rw [show 5 + nI l = nI (5 + l) from nI_add 5 l, nI_add, Nat.add_assoc])
    obtain ⟨h2, b1, f2, n2⟩ := ih (i + 1) F h1 (by omega) w1 (by rw [f1.2.2.2.2 15 (by decide)]; exact d0) (fun j hj => by rw [f1.2.2.2.2 16 (by decide)]; exact hp j hj)
    refine ⟨h2, ?_, f1.trans f2, fun j => ?_⟩
    · rw [g_X3_writeNights_15, g15 w, bd_some, d0, show nI n - 1 = nI (n - 1) from pk_sub (b := 1) (by omega), if_neg (nI_ge (by omega) (by omega)), R15_1 w, bd_some, l16, bd_some, O_11 w, bd_some, a1, bd_some, nI_1]
      exact b1
    · rw [n2 j, n1 j]
      by_cases c1 : j = 35 * t + (5 + (l + i))
      · rw [if_neg (by omega), if_pos c1, if_pos (by omega), show j - (35 * t + (5 + l)) = i by omega]
      · by_cases c2 : 35 * t + (5 + (l + (i + 1))) ≤ j ∧ j + 1 < 35 * t + (5 + (l + n))
        · rw [if_pos c2, if_pos (by omega)]
        · rw [if_neg c2, if_neg c1, if_neg (by omega)]
theorem writeN_sp {h : AH} (w : WF h) {t l n : Nat} (ht : t < 10) (hl : l + n ≤ 30) (hn : 1 ≤ n ∧ n ≤ 15) {Pt : Nat → Nat} (e1 : hI h 13 (35 * t + 1) = nI l) (d0 : hI h 15 0 = nI n) (hp : ∀ j, j + 1 < n → hI h 16 j = nI (Pt j)) : ∃ h', f_X3_writeNights h (some 15) (some 11) (nI t) = some h' ∧ Fr h h' [13] ∧ hI h' 13 = ly13 t l n Pt (hI h 13) := by
  have rd : f_X6_read h (some 11) (nI t) 1 = some (nI l, h) := by rw [show (1 : Int32) = nI 1 from rfl, e6_read w (by omega), e1]
  obtain ⟨h1, a1, f1, n1⟩ := e6_clear w (t := t) ht
  have w1 := WF_fr f1 w
  obtain ⟨F, hF⟩ := NN_ge (n - 1) (by omega)
  obtain ⟨h2, b1, f2, n2⟩ := wrN_sp ht hl hn.2 Pt (n - 1) 0 F h1 (by omega) w1 (by rw [f1.2.2.2.2 15 (by decide)]; exact d0) (fun j hj => by rw [f1.2.2.2.2 16 (by decide)]; exact hp j hj)
  refine ⟨h2, ?_, f1.trans f2, funext fun j => ?_⟩
  · unfold f_X3_writeNights
    rw [O_11 w, bd_some, rd, bd2_some, O_11 w, bd_some, a1, bd_some, hF, show (0 : Int32) = nI 0 from rfl, b1]
  · rw [n2 j, n1 j]; rfl
theorem lay_lp {t l n : Nat} (ht : t < 10) (hl : l + n ≤ 30) (hn : n ≤ 15) (Pt : Nat → Nat) : ∀ (m i F : Nat) (g : AH), i + m + 1 = n ∨ (m = 0 ∧ n ≤ i + 1 ∧ i ≤ 15) → WF g → hI g 75 (194 + 5 * t + 1) = nI l → (∀ j, j + 1 < n → hI g 81 j = nI (Pt j)) → ∃ g', g_X8_lay_7 (F + m + 1) g (some 74) (nI t) (nI n) (nI i) = some g' ∧ Fr g g' [75] ∧ ∀ j, hI g' 75 j = if 244 + 30 * t + (l + i) ≤ j ∧ j + 1 < 244 + 30 * t + (l + n) then nI (Pt (j - (244 + 30 * t + l))) else hI g 75 j := by
  intro m
  induction m with
  | zero =>
    intro i F g hi w e1 hp
    refine ⟨g, ?_, Fr.rf _ _, fun j => by rw [if_neg (by omega)]⟩
    rw [show F + 0 + 1 = F + 1 from rfl, g_X8_lay_7, nI_1, if_pos (nI_le (by omega) (by omega))]
  | succ m ih =>
    intro i F g hi w e1 hp
    have tl : f_X8_told g (some 74) (nI t) 1 = some (nI l, g) := by rw [show (1 : Int32) = nI 1 from rfl, e8_told w (by omega), e1]
    have l81 : ldI g (some 81) (nI i) = some (nI (Pt i)) := by rw [← hp i (by omega)]; exact ldI_w w (by decide) rfl (by show i < 15; omega) (by decide)
    have st : stI g (some 75) (nI (244 + 30 * t + (l + i))) (nI (Pt i)) = some (sI g 75 (upd (hI g 75) (244 + 30 * t + (l + i)) (nI (Pt i)))) := stI_w w (by decide) rfl (by show _ < 556; omega) (by decide)
    obtain ⟨h2, b1, f2, n2⟩ := ih (i + 1) F (sI g 75 (upd (hI g 75) (244 + 30 * t + (l + i)) (nI (Pt i)))) (by omega) ((WF_sI _ _ _).mpr w) (by rw [sI_eq, pk_un (by omega)]; exact e1) (fun j hj => by rw [sI_ne (by decide)]; exact hp j hj)
    refine ⟨h2, ?_, (Fr.sI g (by decide)).trans f2, fun j => ?_⟩
    · rw [g_X8_lay_7, nI_1, if_neg (nI_ge (by omega) (by omega)), gR_w (q := 74) (ci := 8) (j := 0) w (by decide) rfl rfl, bd_some, show tR 74 0 = some 75 from rfl, O_8 w, bd_some, tl, bd2_some, gR_w (q := 74) (ci := 8) (j := 8) w (by decide) rfl rfl, bd_some, show tR 74 8 = some 81 from rfl, l81, bd_some, ix244, nI_add, Nat.add_assoc (244 + 30 * t) l i, st, bd_some]
      exact b1
    · rw [n2 j, sI_eq]
      unfold upd
      by_cases c1 : j = 244 + 30 * t + (l + i)
      · rw [if_neg (by omega), if_pos c1, if_pos (by omega), show j - (244 + 30 * t + l) = i by omega]
      · by_cases c2 : 244 + 30 * t + (l + (i + 1)) ≤ j ∧ j + 1 < 244 + 30 * t + (l + n)
        · rw [if_pos c2, if_pos (by omega)]
        · rw [if_neg c2, if_neg c1, if_neg (by omega)]
theorem lay_sp {g : AH} (w : WF g) {t l n : Nat} (ht : t < 10) (hl : l + n ≤ 30) (hn : n ≤ 15) {Pt : Nat → Nat} (e1 : hI g 75 (194 + 5 * t + 1) = nI l) (hp : ∀ j, j + 1 < n → hI g 81 j = nI (Pt j)) : ∃ g', f_X8_lay g (some 74) (nI t) (nI n) = some g' ∧ Fr g g' [75] ∧ hI g' 75 = ly75 t l n Pt (hI g 75) := by
  obtain ⟨h1, a1, f1, n1⟩ := e8_clear w (t := t) ht
  have w1 := WF_fr f1 w
  obtain ⟨F, hF⟩ := NN_ge (n - 1) (by omega)
  obtain ⟨h2, b1, f2, n2⟩ := lay_lp ht hl hn Pt (n - 1) 0 F h1 (by omega) w1 (by rw [n1, if_neg (by omega)]; exact e1) (fun j hj => by rw [f1.2.2.2.2 81 (by decide)]; exact hp j hj)
  refine ⟨h2, ?_, f1.trans f2, funext fun j => ?_⟩
  · unfold f_X8_lay
    rw [O_8 w, bd_some, a1, bd_some, hF, show (0 : Int32) = nI 0 from rfl, b1]
  · rw [n2 j, n1 j]; rfl
theorem Rd_ly {D : RW} {N : Nat → Int32} {C : CT} (R : Rd D N C) {t l n : Nat} {Pt : Nat → Nat} (ht : t < C.2.2.2.1) (hl : l + n ≤ 30) (hp : ∀ j, j + 1 < n → Pt j < C.1 ∧ ∀ u, u < C.2.2.2.1 → u ≠ t → D 13 (35 * u + (5 + (l + j))) ≠ nI (Pt j)) {D2 : RW} {N2 : Nat → Int32} (kk : ∀ k, k ∈ [2, 3, 4, 5, 6, 7, 8, 9, 10, 12, 20, 21] → D2 k = D k) (hD : ∀ j, D2 13 j = ly13 t l n Pt (D 13) j) (hN : ∀ j, N2 j = ly75 t l n Pt N j) : Rd D2 N2 C := by
  have rt := R.2.2.2.2.2.1
  obtain ⟨⟨k, l', p, f, o, v1, v2, v3, v4, v5, v6, v7, v8, v9, v10, hu⟩, g2, g3⟩ := rt.2.2.2 t ht
  have d5 : ∀ j, j < 5 → D2 13 (35 * t + j) = D 13 (35 * t + j) := fun j hj => by rw [hD]; unfold ly13; rw [if_neg (by omega), if_neg (by omega)]
  refine Rd_up (t := t) R ht kk (fun j _ c1 c2 => by rw [hN]; unfold ly75; rw [if_neg (by omega), if_neg (by omega)]) (fun i hi => by rw [hD]; unfold ly13; rw [if_neg (by omega), if_neg (by omega)]) ⟨k, l', p, f, o, v1, v2, v3, v4, v5, by rw [d5 0 (by omega)]; exact v6, by rw [d5 1 (by omega)]; exact v7, by rw [d5 2 (by omega)]; exact v8, by rw [d5 3 (by omega)]; exact v9, by rw [d5 4 (by omega)]; exact v10⟩ (fun j hj => ?_) (fun d hd => ?_)
  · rw [d5 j hj, hN]
    unfold ly75
    rw [if_neg (by have := rt.1; omega), if_neg (by have := rt.1; omega)]; exact g2 j hj
  · rw [hN, hD]
    unfold ly75 ly13
    by_cases c : l ≤ d ∧ d + 1 < l + n
    · rw [if_pos (by omega), if_pos (by omega), show 244 + 30 * t + d - (244 + 30 * t + l) = d - l by omega, show 35 * t + (5 + d) - (35 * t + (5 + l)) = d - l by omega]
      obtain ⟨a1, a2⟩ := hp (d - l) (by omega)
      exact ⟨rfl, Or.inr ⟨Pt (d - l), a1, rfl, fun u h1 h2 => by have := a2 u h1 h2; rw [show l + (d - l) = d by omega] at this; exact this⟩⟩
    · rw [if_neg (by omega), if_pos (by omega), if_neg (by omega), if_pos (by omega)]
      exact ⟨rfl, Or.inl rfl⟩
theorem Ag_of {h h1 : AH} {S : List Nat} {C : CT} (f : Fr h h1 S) (hS : ∀ k, k ∈ [2, 3, 4, 5, 6, 7, 8, 9, 10, 12, 13, 20, 21] → k ∉ S) : Ag (hI h) (hI h1) C := by
  have e : ∀ k, k ∈ [2, 3, 4, 5, 6, 7, 8, 9, 10, 12, 13, 20, 21] → hI h1 k = hI h k := fun k hk => f.2.2.2.2 k (hS k hk)
  refine ⟨fun j => ?_, fun j => ?_, fun j => ?_, fun j => ?_, fun j => ?_, fun c _ => ⟨?_, ?_⟩, fun c _ => ⟨?_, ?_, ?_⟩, fun c _ => ?_, fun t j _ _ => ?_, fun a _ => ?_⟩ <;> rw [e _ (by decide)]
