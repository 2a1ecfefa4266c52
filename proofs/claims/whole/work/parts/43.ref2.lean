/-! the reference's plan, night by night -/
section Ref2
variable {N : Nat → Int32} {t nc l f mo : Nat} {G : Nat → Nat → Nat → Prop} {En : Nat → Nat → Prop}
theorem RE_pl (hG : ∀ i x c, G i x c → c < nc) {i x u : Nat} (h : RE G mo i x u) : x < nc ∨ x = 14 := by
  cases i with
  | zero => exact Or.inr h.1
  | succ i => obtain ⟨y, v, -, h, -⟩ := h; exact Or.inl (hG _ _ _ h)
theorem p51 (X : MX N t nc l f mo G En) {n i : Nat} (hn : n ≤ min f (30 - l)) (hc : CE G En n 0 14 mo) (hmin : ∀ m, m < n → ¬ CE G En m 0 14 mo) (hi : i + 1 < n) {g : AH} (w : WF g) (hN : hI g 75 = N) (T : ∀ j, j ≤ min f (30 - l) → TB G En nc (min f (30 - l)) g j) {k29 : AH → Option Nat → Int32 → Int32 → Int32 → Int32 → Int32 → Option (Int32 × AH)} :
    ∀ (m c F : Nat), c + m = (pth G En mo n (i + 1)).1 → g_X8_planOf_51 k29 (F + m + 1) g (some 74) (nI t) (nI n) (nI (pth G En mo n i).1) (nI (mo - (pth G En mo n i).2)) (nI i) (nI (l + i)) (nI c) = k29 (sI g 81 (upd (hI g 81) i (nI (pth G En mo n (i + 1)).1))) (some 74) (nI t) (nI n) (nI (pth G En mo n (i + 1)).1) (nI (mo - (pth G En mo n (i + 1)).2)) (nI (i + 1)) := by
  obtain ⟨X1, X2, X3, X4, X5, X6, X7, X8, X9, X10, X11, X12⟩ := X
  have hG14 : ∀ i x c, G i x c → c < 14 := fun i x c h => by have := X12 i x c h; omega
  obtain ⟨r1, r2⟩ := pth_ok hG14 hc i (by omega)
  obtain ⟨s1, s2⟩ := pth_ok hG14 hc (i + 1) hi
  obtain ⟨nx, n14, nu, nl⟩ := pth_nx hG14 hc hi
  have xv := RE_pl X12 r1
  have hu := RE_le _ _ _ r1
  have hU := RE_le _ _ _ s1
  generalize (pth G En mo n (i + 1)).1 = C at *
  generalize (pth G En mo n (i + 1)).2 = U at *
  generalize (pth G En mo n i).1 = x at *
  generalize (pth G En mo n i).2 = u at *
  generalize hmost : min f (30 - l) = most at *
  have m15 : most ≤ 15 := by omega
  have Cn : C < nc := X12 _ _ _ nx.1
  obtain ⟨q0, a1, a2⟩ := T i (by omega) x xv (mo - u) (by omega)
  have q0e : q0 = n - i := (LV_pth m15 hn hmin r1 a2 (by omega)).mpr r2
  subst q0e
  have la0 : f_X8_leftAt g (some 74) (nI i) (nI x) (nI (mo - u)) = some (nI (n - i), g) := by rw [e8_leftAt w (by omega), a1]
  have st : stI g (some 81) (nI i) (nI C) = some (sI g 81 (upd (hI g 81) i (nI C))) := stI_w w (by decide) rfl (by show i < 15; omega) (by decide)
  have pA : ∀ k51 (e : Nat), e = (if C = x then 1 else 0) → j_X8_planOf_64 k29 k51 g (some 74) (nI t) (nI n) (nI x) (nI (mo - u)) (nI i) (nI (l + i)) (nI C) (nI (mo - u)) (nI e) = k29 (sI g 81 (upd (hI g 81) i (nI C))) (some 74) (nI t) (nI n) (nI C) (nI (mo - U)) (nI (i + 1)) := by
    intro k51 e he
    have hoe : e ≤ mo - u := by
      by_cases q : C = x
      · have := nx.2.1 q; rw [if_pos q] at he; omega
      · rw [if_neg q] at he; omega
    have oU : mo - u - e = mo - U := by omega
    obtain ⟨q, b1, b2⟩ := T (i + 1) (by omega) C (Or.inl Cn) (mo - U) (by omega)
    have qe : q = n - (i + 1) := (LV_pth m15 hn hmin s1 b2 (by omega)).mpr s2
    have la1 : f_X8_leftAt g (some 74) (nI (i + 1)) (nI C) (nI (mo - U)) = some (nI q, g) := by rw [e8_leftAt w (by omega), b1]
    have gg := X10 g w hN i x C (by omega) xv Cn
    have B : j_X8_planOf_89 k29 k51 g (some 74) (nI t) (nI n) (nI x) (nI (mo - u)) (nI i) (nI (l + i)) (nI C) 1 (some 74) (nI i + 1) (nI C) (nI (mo - u)) (nI e) = k29 (sI g 81 (upd (hI g 81) i (nI C))) (some 74) (nI t) (nI n) (nI C) (nI (mo - U)) (nI (i + 1)) := by
      have D : j_X8_planOf_138 k29 g (some 74) (nI t) (nI n) (nI i) (nI C) (nI (mo - u)) (nI e) = k29 (sI g 81 (upd (hI g 81) i (nI C))) (some 74) (nI t) (nI n) (nI C) (nI (mo - U)) (nI (i + 1)) := by
        unfold j_X8_planOf_138
        rw [gR_w (q := 74) (ci := 8) (j := 8) w (by decide) rfl rfl, bd_some, show tR 74 8 = some 81 from rfl, st, bd_some, pk_sub hoe, oU, nI_1]
      unfold j_X8_planOf_89
      rw [O_8 w, bd_some, pk_sub hoe, oU, nI_1, la1, bd2_some, O_8 w, bd_some, la0, bd2_some, show 1 + nI q = nI (1 + q) from nI_add 1 q, if_neg (fun z => z (by rw [show 1 + q = n - i by omega])), O_8 w, bd_some, gg, bd2_some, dB_t nx.1, bI_t, if_pos (by decide)]
      by_cases cx : C = x
      · rw [if_neg (fun z => z (by rw [cx]))]
        rw [if_pos cx] at he
        subst he
        exact D
      · rw [if_pos (fun z => cx ((nI_eq (by omega) (by omega)).mp z))]
        rw [if_neg cx] at he
        subst he
        exact D
    unfold j_X8_planOf_64
    rw [pk_sub hoe, if_neg (nI_pos (by omega))]
    by_cases cx : C = x
    · rw [if_neg (fun z => z (by rw [cx]))]
      rw [if_pos cx] at he
      subst he
      exact B
    · rw [if_pos (fun z => cx ((nI_eq (by omega) (by omega)).mp z))]
      rw [if_neg cx] at he
      subst he
      exact B
  have pB : ∀ c, c < C → ∀ k51 (e : Nat), e = (if c = x then 1 else 0) → j_X8_planOf_64 k29 k51 g (some 74) (nI t) (nI n) (nI x) (nI (mo - u)) (nI i) (nI (l + i)) (nI c) (nI (mo - u)) (nI e) = k51 g (some 74) (nI t) (nI n) (nI x) (nI (mo - u)) (nI i) (nI (l + i)) (nI (c + 1)) := by
    intro c hcC k51 e he
    have e1 : e ≤ 1 := by rw [he]; split <;> omega
    unfold j_X8_planOf_64
    by_cases hoe : mo - u < e
    · rw [if_pos (pk_sneg (by omega) hoe), nI_1]
    have hoe : e ≤ mo - u := by omega
    obtain ⟨q, b1, b2⟩ := T (i + 1) (by omega) c (Or.inl (by omega)) (mo - u - e) (by omega)
    have q16 : q ≤ 1000 := by rcases b2.1 with z | z; omega; omega
    have la1 : f_X8_leftAt g (some 74) (nI (i + 1)) (nI c) (nI (mo - u - e)) = some (nI q, g) := by rw [e8_leftAt w (by omega), b1]
    have gg := X10 g w hN i x c (by omega) xv (by omega)
    have B : j_X8_planOf_89 k29 k51 g (some 74) (nI t) (nI n) (nI x) (nI (mo - u)) (nI i) (nI (l + i)) (nI c) 1 (some 74) (nI i + 1) (nI c) (nI (mo - u)) (nI e) = k51 g (some 74) (nI t) (nI n) (nI x) (nI (mo - u)) (nI i) (nI (l + i)) (nI (c + 1)) := by
      unfold j_X8_planOf_89
      rw [O_8 w, bd_some, pk_sub hoe, nI_1, la1, bd2_some, O_8 w, bd_some, la0, bd2_some, show 1 + nI q = nI (1 + q) from nI_add 1 q]
      by_cases cq : 1 + q = n - i
      · rw [if_neg (fun z => z (by rw [cq])), O_8 w, bd_some, gg, bd2_some]
        by_cases cg : G i x c
        · exfalso
          refine nl c hcC ⟨cg, fun z => ?_, ?_⟩
          · rw [if_pos z] at he; omega
          · rw [← he, show mo - (u + e) = mo - u - e by omega, show n - (i + 1) = q by omega]
            rcases b2.1 with z | z
            · omega
            · exact z.2.2
        · rw [dB_f cg, bI_f, if_neg (by decide), nI_1]
      · rw [if_pos (fun z => cq ((nI_eq (by omega) (by omega)).mp z)), nI_1]
    rw [pk_sub hoe, if_neg (nI_pos (by omega))]
    by_cases cx : c = x
    · rw [if_neg (fun z => z (by rw [cx]))]
      rw [if_pos cx] at he
      subst he
      exact B
    · rw [if_pos (fun z => cx ((nI_eq (by omega) (by omega)).mp z))]
      rw [if_neg cx] at he
      subst he
      exact B
  intro m
  induction m with
  | zero =>
    intro c F h0
    have e : c = C := by omega
    subst e
    rw [show F + 0 + 1 = F + 1 from rfl, g_X8_planOf_51]
    by_cases cx : c = x
    · rw [if_neg (fun z => z (by rw [cx]))]; exact pA _ 1 (by rw [if_pos cx])
    · rw [if_pos (fun z => cx ((nI_eq (by omega) (by omega)).mp z))]; exact pA _ 0 (by rw [if_neg cx])
  | succ m ih =>
    intro c F h0
    rw [← ih (c + 1) F (by omega), g_X8_planOf_51]
    by_cases cx : c = x
    · rw [if_neg (fun z => z (by rw [cx]))]; exact pB c (by omega) _ 1 (by rw [if_pos cx])
    · rw [if_pos (fun z => cx ((nI_eq (by omega) (by omega)).mp z))]; exact pB c (by omega) _ 0 (by rw [if_neg cx])
theorem p29 (X : MX N t nc l f mo G En) {n : Nat} (hn : n ≤ min f (30 - l)) (hc : CE G En n 0 14 mo) (hmin : ∀ m, m < n → ¬ CE G En m 0 14 mo) :
    ∀ (m i F : Nat) (g : AH), i + m + 1 = n → WF g → hI g 75 = N → (∀ j, j ≤ min f (30 - l) → TB G En nc (min f (30 - l)) g j) → ∃ g', g_X8_planOf_29 (F + m + 1) g (some 74) (nI t) (nI n) (nI (pth G En mo n i).1) (nI (mo - (pth G En mo n i).2)) (nI i) = some (nI n, g') ∧ Fr g g' [81] ∧ (∀ j, j < i → hI g' 81 j = hI g 81 j) ∧ ∀ j, i ≤ j → j + 1 < n → hI g' 81 j = nI (pth G En mo n (j + 1)).1 := by
  have m15 : min f (30 - l) ≤ 15 := by have := X.2.2.2.1; omega
  intro m
  induction m with
  | zero =>
    intro i F g hi w hN T
    refine ⟨g, ?_, Fr.rf _ _, fun j _ => rfl, fun j h1 h2 => by omega⟩
    rw [show F + 0 + 1 = F + 1 from rfl, g_X8_planOf_29, nI_1, if_pos (nI_le (by omega) (by omega))]
  | succ m ih =>
    intro i F g hi w hN T
    have tl : f_X8_told g (some 74) (nI t) 1 = some (nI l, g) := by rw [show (1 : Int32) = nI 1 from rfl, e8_told w (by have := X.1; omega), hN, X.2.2.2.2.2.2.1]
    have hG14 : ∀ i x c, G i x c → c < 14 := fun i x c h => by have := X.2.2.2.2.2.2.2.2.2.2.2 i x c h; have := X.2.1; omega
    obtain ⟨-, n14, -, -⟩ := pth_nx hG14 hc (i := i) (by omega)
    obtain ⟨F2, hF2⟩ := NN_ge (pth G En mo n (i + 1)).1 (by omega)
    have p := p51 X hn hc hmin (i := i) (by omega) w hN T (k29 := fun h x0 x1 x2 x3 x4 x5 => g_X8_planOf_29 (F + (m + 1)) h x0 x1 x2 x3 x4 x5) (pth G En mo n (i + 1)).1 0 F2 (by omega)
    rw [← hF2] at p
    obtain ⟨g', b1, b2, b3, b4⟩ := ih (i + 1) F (sI g 81 (upd (hI g 81) i (nI (pth G En mo n (i + 1)).1))) (by omega) ((WF_sI _ _ _).mpr w) (by rw [sI_ne (by decide)]; exact hN) (fun j hj y hy o ho => by rw [sI_ne (by decide)]; exact T j hj y hy o ho)
    refine ⟨g', ?_, (Fr.sI g (by decide)).trans b2, fun j hj => by rw [b3 j (by omega), sI_eq, pk_un (by omega)], fun j h1 h2 => ?_⟩
    · rw [g_X8_planOf_29, nI_1, if_neg (nI_ge (by omega) (by omega)), O_8 w, bd_some, tl, bd2_some, nI_add, show (0 : Int32) = nI 0 from rfl, p]
      exact b1
    · by_cases e : j = i
      · subst e; rw [b3 j (by omega), sI_eq, pk_us]
      · exact b4 j (by omega) h2
theorem planOf_sp (X : MX N t nc l f mo G En) {g : AH} (w : WF g) (hN : hI g 75 = N) : ∃ g', f_X8_planOf g (some 74) (nI t) = some (nI (if pn G En mo (min f (30 - l)) = 0 then 1000 else pn G En mo (min f (30 - l))), g') ∧ Fr g g' [80, 81] ∧ ∀ j, j + 1 < pn G En mo (min f (30 - l)) → hI g' 81 j = nI (pth G En mo (pn G En mo (min f (30 - l))) (j + 1)).1 := by
  have m15 : min f (30 - l) ≤ 15 := by have := X.2.2.2.1; omega
  obtain ⟨g1, a1, a2, a3⟩ := tell_sp X w hN
  have w1 := WF_fr a2 w
  have hN1 : hI g1 75 = N := by rw [a2.2.2.2.2 75 (by decide)]; exact hN
  have tmo : f_X8_told g1 (some 74) (nI t) 4 = some (nI mo, g1) := by rw [show (4 : Int32) = nI 4 from rfl, e8_told w1 (by have := X.1; omega), hN1, X.2.2.2.2.2.2.2.2.1]
  rcases pn_sp (G := G) (En := En) (mo := mo) (min f (30 - l)) with ⟨p1, p2⟩ | ⟨p1, p2, p3, p4⟩
  · refine ⟨g1, ?_, a2.mono (by decide), fun j hj => by omega⟩
    unfold f_X8_planOf
    rw [O_8 w, bd_some, a1, bd2_some, if_pos p1, if_neg (fun z => z rfl)]
  · obtain ⟨F, hF⟩ := NN_ge (pn G En mo (min f (30 - l)) - 1) (by omega)
    obtain ⟨g2, b1, b2, -, b4⟩ := p29 X p2 p3 p4 (pn G En mo (min f (30 - l)) - 1) 0 F g1 (by omega) w1 hN1 a3
    rw [← hF] at b1
    refine ⟨g2, ?_, (a2.mono (by decide)).trans (b2.mono (by decide)), fun j hj => b4 j (by omega) hj⟩
    rw [if_neg (show ¬ pn G En mo (min f (30 - l)) = 0 by omega)] at a1 ⊢
    unfold f_X8_planOf
    rw [O_8 w, bd_some, a1, bd2_some, if_pos (fun z => by have := (nI_eq (b := 1000) (by omega) (by omega)).mp z; omega), O_8 w1, bd_some, tmo, bd2_some]
    exact b1
end Ref2
