/-! the desk's search: the loop, the dead ends, the choice -/
section Srch2
variable {D : Nat → Nat → Int32} {t nc k l p f mo : Nat} {gd : Nat → Prop} {G : Nat → Nat → Nat → Prop} {En : Nat → Nat → Prop}
/-- what the loop leaves -/
def SrOk (G : Nat → Nat → Nat → Prop) (En : Nat → Nat → Prop) (mo most : Nat) (h : AH) : Prop := hI h 15 0 = nI (pn G En mo most) ∧ (1 ≤ pn G En mo most → (∀ j, j < pn G En mo most → AhOk G mo h j) ∧ (∀ j, j + 1 < pn G En mo most → LdOk G mo h j) ∧ ∀ x, x < 32 → (bt (hI h 15 4) x = true ↔ x ≤ 14 ∧ (∃ u, RE G mo (pn G En mo most - 1) x u) ∧ En (pn G En mo most - 1) x))
theorem srch_lp (X : DX D t nc k l p f mo gd G En) {fit : Int32} (hf : DF D t k l p gd G En fit) :
    ∀ (m i F : Nat) (h : AH), i + m = min f (30 - l) → Bs D h → hI h 15 0 = 0 → (∀ j, j ≤ i → AhOk G mo h j) → (∀ j, j < i → LdOk G mo h j) → (∀ j, i < j → j ≤ 15 → ∀ u, u < 3 → hI h 17 (3 * j + u) = 0) → (∀ j, j < i → ∀ x u, RE G mo j x u → ¬ En j x) → ∃ h', g_X3_search_60 (F + m + 1) h (some 15) (some 1) (some 11) (nI t) (nI k) (nI l) (nI p) (nI (min f (30 - l))) fit (nI i) = j_X3_search_175 h' (some 15) ∧ Fr h h' [15, 17, 18] ∧ SrOk G En mo (min f (30 - l)) h' := by
  obtain ⟨X1, X2, X3, X4, X5, X6, X7, X8, X9, X10, X11, X12, X13, -⟩ := X
  have hG14 : ∀ i x c, G i x c → c < 14 := fun i x c h => by have := X11 i x c h; omega
  generalize hmost : min f (30 - l) = most at *
  have m15 : most ≤ 15 := by omega
  intro m
  induction m with
  | zero =>
    intro i F h hi b d0 A L Z NE
    have pz : pn G En mo most = 0 := pn_no (fun n hn => CE_no (i := i) NE n (by omega))
    refine ⟨h, ?_, Fr.rf _ _, by rw [pz]; exact d0, fun z => by omega⟩
    rw [show F + 0 + 1 = F + 1 from rfl, g_X3_search_60, if_pos (nI_le (by omega) (by omega))]
  | succ m ih =>
    intro i F h hi b d0 A L Z NE
    have w := b.1
    obtain ⟨P, p1, p2⟩ := places_re w (i := i) (by omega) X5 (A i (Nat.le_refl _))
    rw [g_X3_search_60, if_neg (nI_ge (by omega) (by omega)), g15 w, bd_some, if_neg (fun z => z d0), O_15 w, bd_some, p1, bd2_some]
    by_cases c0 : P = 0
    · rw [if_pos c0]
      have no : ∀ x u, ¬ RE G mo i x u := by
        intro x u z
        have xv : x < 14 ∨ x = 14 := RE_pl hG14 z
        have := (p2 x (by omega)).mpr ⟨u, z⟩
        rw [c0, bt_0] at this
        exact absurd this (by decide)
      have pz : pn G En mo most = 0 := pn_no (fun n hn => CE_no (i := most) (fun j hj x u z => by
        by_cases e : j < i
        · exact NE j e x u z
        · exfalso
          have := RE_none no (j - i) x u
          rw [show i + (j - i) = j by omega] at this
          exact this z) n hn)
      exact ⟨h, rfl, Fr.rf _ _, by rw [pz]; exact d0, fun z => by omega⟩
    rw [if_neg c0, O_1 w, bd_some, nI_add]
    obtain ⟨cl, cl1, cl2, cl3⟩ := hf i (by omega) h b
    rw [cl1, bd2_some, O_15 w, bd_some]
    obtain ⟨h1, e1, f1, e2, e3⟩ := enders_sp b (i := i) (by omega) cl2 ⟨P, p1, p2⟩
    have b1 := Bs_fr b f1 (by decide)
    rw [e1, bd_some, g15 b1.1, bd_some]
    by_cases c1 : hI h1 15 4 = 0
    · rw [if_pos c1, O_11 b1.1, bd_some]
      have NE' : ∀ x u, RE G mo i x u → ¬ En i x := by
        intro x u z z2
        have xv : x < 14 ∨ x = 14 := RE_pl hG14 z
        have := (e3 x (by omega)).mpr ⟨by omega, ⟨u, z⟩, z2⟩
        rw [c1, bt_0] at this
        exact absurd this (by decide)
      obtain ⟨T, t1, t2, t3⟩ := cl3 h1 b1
      rw [t1, bd2_some, O_15 b1.1, bd_some]
      have A1 : ∀ j, j ≤ i → AhOk G mo h1 j := fun j hj u hu x hx => by rw [f1.2.2.2.2 17 (by decide)]; exact A j hj u hu x hx
      obtain ⟨h2, l1, f2, l2, l3⟩ := leadsto_sp b1 (i := i) (by omega) t3 (places_re b1.1 (i := i) (by omega) X5 (A1 i (Nat.le_refl _)))
      have b2 := Bs_fr b1 f2 (by decide)
      have rd : f_X6_read h2 (some 11) (nI t) 4 = some (nI mo, h2) := by rw [show (4 : Int32) = nI 4 from rfl, e6_read b2.1 (by omega), b2.2 13 (by omega), X10]
      rw [l1, bd_some, O_11 b2.1, bd_some, rd, bd2_some, O_15 b2.1, bd_some]
      have A2 : ∀ j, j ≤ i → AhOk G mo h2 j := fun j hj u hu x hx => by rw [f2.2.2.2.2 17 (by decide)]; exact A1 j hj u hu x hx
      have L2 : ∀ j, j ≤ i → LdOk G mo h2 j := by
        intro j hj x hx hr c hc
        by_cases e : j = i
        · subst e; exact l3 x hx hr c hc
        · rw [l2 _ (by omega), f1.2.2.2.2 18 (by decide)]; exact L j (by omega) x hx hr c hc
      have Z2 : ∀ j, i < j → j ≤ 15 → ∀ u, u < 3 → hI h2 17 (3 * j + u) = 0 := fun j h1 h2 u hu => by rw [f2.2.2.2.2 17 (by decide), f1.2.2.2.2 17 (by decide)]; exact Z j h1 h2 u hu
      obtain ⟨h3, s1, f3, s2, s3⟩ := spread_sp b2.1 (i := i) (by omega) X5 (op := fit &&& (T ^^^ (-1))) hG14 (fun x u hr hx => t2 x hx (RE_gd X13 i x u hr)) (A2 i (Nat.le_refl _)) (L2 i (Nat.le_refl _)) (Z2 (i + 1) (by omega) (by omega))
      have b3 := Bs_fr b2 f3 (by decide)
      rw [s1, bd_some, nI_1]
      obtain ⟨h4, r1, r2, r3⟩ := ih (i + 1) F h3 (by omega) b3 (by rw [f3.2.2.2.2 15 (by decide), f2.2.2.2.2 15 (by decide), e2]; exact d0) (fun j hj => by
          by_cases e : j = i + 1
          · subst e; exact s3
          · intro u hu x hx; rw [s2 _ (by omega)]; exact A2 j (by omega) u hu x hx) (fun j hj x hx hr c hc => by rw [f3.2.2.2.2 18 (by decide)]; exact L2 j (by omega) x hx hr c hc) (fun j h1 h2 u hu => by rw [s2 _ (by omega)]; exact Z2 j (by omega) h2 u hu) (fun j hj => by
          by_cases e : j = i
          · subst e; exact NE'
          · exact NE j (by omega))
      exact ⟨h4, r1, (f1.mono (by decide)).trans ((f2.mono (by decide)).trans ((f3.mono (by decide)).trans r2)), r3⟩
    · rw [if_neg c1, nI_1, p15 b1.1, bd_some]
      have f4 : Fr h1 (sI h1 15 (upd (hI h1 15) 0 (nI (i + 1)))) [15] := Fr.sI h1 (by decide)
      have w4 := (WF_sI h1 15 (upd (hI h1 15) 0 (nI (i + 1)))).mpr b1.1
      have g0 : hI (sI h1 15 (upd (hI h1 15) 0 (nI (i + 1)))) 15 0 = nI (i + 1) := by rw [sI_eq, pk_us]
      have ex : ∃ x u, RE G mo i x u ∧ En i x := by
        by_cases q : ∃ x u, RE G mo i x u ∧ En i x
        · exact q
        · exfalso
          refine c1 (bt_z.mpr (fun x hx => Bool.eq_false_iff.mpr (fun z => ?_)))
          obtain ⟨-, ⟨u, z1⟩, z2⟩ := (e3 x hx).mp z
          exact q ⟨x, u, z1, z2⟩
      obtain ⟨x, u, x1, x2⟩ := ex
      have pe : pn G En mo most = i + 1 := pn_yes (by omega) (RE_CE i 1 x u x1 (CE_1.mpr x2)) (fun n hn => CE_no (i := i) NE n (by omega))
      refine ⟨sI h1 15 (upd (hI h1 15) 0 (nI (i + 1))), ?_, (f1.mono (by decide)).trans (f4.mono (by decide)), by rw [pe]; exact g0, fun _ => ⟨fun j hj y hy x hx => ?_, fun j hj x hx hr c hc => ?_, fun y hy => ?_⟩⟩
      · rw [show F + (m + 1) = F + m + 1 from rfl, g_X3_search_60]
        by_cases c2 : most ≤ i + 1
        · rw [if_pos (nI_le c2 (by omega))]
        · rw [if_neg (nI_ge (by omega) (by omega)), g15 w4, bd_some, g0, if_pos (nI_ne0 (by omega) (by omega))]
      · rw [sI_ne (by decide), f1.2.2.2.2 17 (by decide)]; exact A j (by omega) y hy x hx
      · rw [sI_ne (by decide), f1.2.2.2.2 18 (by decide)]; exact L j (by omega) x hx hr c hc
      · rw [pe, sI_eq, pk_un (by decide)]; exact e3 y hy
/-! the dead ends -/
def AdOk (G : Nat → Nat → Nat → Prop) (En : Nat → Nat → Prop) (mo n : Nat) (h : AH) (j : Nat) : Prop := ∀ u, u < 3 → ∀ x, x < 32 → (bt (hI h 17 (3 * j + u)) x = true ↔ RE G mo j x u ∧ CE G En (n - j) j x (mo - u))
theorem goers_sp {h : AH} (w : WF h) {i u x : Nat} (hi : i < 15) (hu : u < 3) (hx : x < 15) : f_X3_goers h (some 15) (nI i) (nI u) (nI x) = some (hI h 18 (15 * i + x) &&& hI h 17 (3 * (i + 1) + u), h) := by
  unfold f_X3_goers
  rw [R15_3 w, bd_some, ix18, l18 w (by omega), bd_some, R15_2 w, bd_some, nI_1, ix17, l17 w (by omega), bd_some]
theorem stay_sp {h : AH} (w : WF h) {i u x : Nat} (hi : i < 15) (hu : u < 3) (hx : x < 15) : f_X3_mayStay h (some 15) (nI i) (nI u) (nI x) = some (bI (dB (u < 2 ∧ bt (hI h 17 (3 * (i + 1) + (u + 1))) x = true)), h) := by
  unfold f_X3_mayStay
  by_cases c : u < 2
  · rw [if_neg (show ¬ (2 : Int32) ≤ nI u from nI_ge (b := 2) c (by omega)), R15_2 w, bd_some, nI_1, ix17, nI_1, show 3 * (i + 1) + u + 1 = 3 * (i + 1) + (u + 1) by omega, l17 w (by omega), bd_some, e_holds _ (by omega), bd2_some]
    by_cases c2 : bt (hI h 17 (3 * (i + 1) + (u + 1))) x = true
    · rw [if_pos c2, if_neg (by decide), dB_t ⟨c, c2⟩]; rfl
    · rw [if_neg c2, if_pos rfl, dB_f (fun z => c2 z.2)]; rfl
  · rw [if_pos (show (2 : Int32) ≤ nI u from nI_le (a := 2) (by omega) (by omega)), dB_f (fun z => c z.1)]; rfl
theorem bt_nz {x : Int32} : ¬ x = 0 ↔ ∃ i, i < 32 ∧ bt x i = true := by
  constructor
  · intro h
    by_cases q : ∃ i, i < 32 ∧ bt x i = true
    · exact q
    · exact absurd (bt_z.mpr (fun i hi => Bool.eq_false_iff.mpr (fun z => q ⟨i, hi, z⟩))) h
  · rintro ⟨i, hi, z⟩ e
    rw [e, bt_0] at z
    exact absurd z (by decide)
theorem goesOn_sp {h : AH} (w : WF h) {i u x : Nat} (hi : i < 15) (hu : u < 3) (hx : x < 15) : f_X3_goesOn h (some 15) (nI i) (nI u) (nI x) = some (bI (dB ((∃ c, c < 32 ∧ bt (hI h 18 (15 * i + x) &&& hI h 17 (3 * (i + 1) + u)) c = true) ∨ (u < 2 ∧ bt (hI h 17 (3 * (i + 1) + (u + 1))) x = true))), h) := by
  unfold f_X3_goesOn
  rw [O_15 w, bd_some, goers_sp w hi hu hx, bd2_some]
  by_cases c : ¬ (hI h 18 (15 * i + x) &&& hI h 17 (3 * (i + 1) + u)) = 0
  · rw [if_pos c, dB_t (Or.inl (bt_nz.mp c))]; rfl
  · rw [if_neg c, O_15 w, bd_some, stay_sp w hi hu hx, bd2_some]
    by_cases c2 : u < 2 ∧ bt (hI h 17 (3 * (i + 1) + (u + 1))) x = true
    · rw [dB_t c2, bI_t, if_neg (by decide), dB_t (Or.inr c2)]; rfl
    · rw [dB_f c2, bI_f, if_pos rfl, dB_f (fun z => z.elim (fun z => c (bt_nz.mpr z)) c2)]; rfl
/-- who goes on from a place that may be reached -/
theorem on_iff {h : AH} {n i u x : Nat} (hmo : mo ≤ 2) (hG : ∀ i x c, G i x c → c < 14) (hS : ∀ i y x, G i y x → G i x x) (hi : i + 1 < n) (hu : u < 3) (hx : x ≤ 14) (L : LdOk G mo h i) (A : AdOk G En mo n h (i + 1)) (hr : RE G mo i x u) :
    (∀ c, c < 32 → (bt (hI h 18 (15 * i + x) &&& hI h 17 (3 * (i + 1) + u)) c = true ↔ c ≠ x ∧ Nx G En mo n i x u c)) ∧ ((u < 2 ∧ bt (hI h 17 (3 * (i + 1) + (u + 1))) x = true) ↔ Nx G En mo n i x u x) := by
  have um := RE_le _ _ _ hr
  refine ⟨fun c hc => ?_, ?_⟩
  · rw [bt_and, Bool.and_eq_true, L x hx ⟨u, hr⟩ c hc, A u hu c hc]
    constructor
    · rintro ⟨⟨a, b⟩, e1, e2⟩
      exact ⟨a, b, fun z => absurd z a, by rw [if_neg a]; exact e2⟩
    · rintro ⟨a, b, -, e⟩
      rw [if_neg a] at e
      exact ⟨⟨a, b⟩, ⟨x, u, hr, b, by rw [if_neg a, Nat.add_zero], um⟩, e⟩
  · constructor
    · rintro ⟨a, b⟩
      obtain ⟨⟨y, v, e1, e2, e3, e4⟩, e5⟩ := (A (u + 1) (by omega) x (by omega)).mp b
      exact ⟨hS _ _ _ e2, fun _ => e4, by rw [if_pos rfl]; exact e5⟩
    · rintro ⟨a, b, e⟩
      have := b rfl
      rw [if_pos rfl] at e
      exact ⟨by omega, (A (u + 1) (by omega) x (by omega)).mpr ⟨⟨x, u, hr, a, by rw [if_pos rfl], by omega⟩, e⟩⟩
theorem CE_nx {n i x u : Nat} (hi : i + 1 < n) (hu : u ≤ mo) : CE G En (n - i) i x (mo - u) ↔ ∃ c, Nx G En mo n i x u c := by
  refine ⟨Nx_ex hu hi, fun ⟨c, a, b, e⟩ => ?_⟩
  rw [show n - i = (n - i - 2) + 2 by omega]
  refine CE_2.mpr ⟨c, mo - (u + (if c = x then 1 else 0)), a, ?_, by rw [show n - i - 2 + 1 = n - (i + 1) by omega]; exact e⟩
  by_cases q : c = x
  · have := b q; rw [if_pos q]; omega
  · rw [if_neg q]; omega
theorem drop23 {h : AH} (w : WF h) {i u n : Nat} (hi : i < 15) (hu : u < 3) (hn : n ≤ 15) (d0 : hI h 15 0 = nI n) {Q : Nat → Prop} (hin : i < n)
    (hE : i + 1 = n → ∀ x, x < 15 → (bt (hI h 15 4) x = true ↔ Q x)) (hO : i + 1 < n → ∀ x, x < 15 → (((∃ c, c < 32 ∧ bt (hI h 18 (15 * i + x) &&& hI h 17 (3 * (i + 1) + u)) c = true) ∨ (u < 2 ∧ bt (hI h 17 (3 * (i + 1) + (u + 1))) x = true)) ↔ Q x)) {k7 : AH → Option Nat → Int32 → Option AH} {k13 : AH → Option Nat → Int32 → Int32 → Option AH} :
    ∀ (m x F : Nat) (X : Int32), x + m = 15 → ∃ Y, g_X3_dropDeadEnds_23 k7 k13 (F + m + 1) h (some 15) (nI i) (nI u) X (nI x) = k13 (sI h 17 (upd (hI h 17) (3 * i + u) (hI h 17 (3 * i + u) &&& Y))) (some 15) (nI i) (nI (u + 1)) ∧ ∀ y, y < 32 → (bt Y y = true ↔ bt X y = true ∨ (x ≤ y ∧ y < 15 ∧ Q y)) := by
  intro m
  induction m with
  | zero =>
    intro x F X hx
    refine ⟨X, ?_, fun y _ => ⟨Or.inl, fun z => z.elim id (fun ⟨a, b, _⟩ => by omega)⟩⟩
    rw [show F + 0 + 1 = F + 1 from rfl, g_X3_dropDeadEnds_23, if_pos (show (15 : Int32) ≤ nI x from nI_le (a := 15) (by omega) (by omega)), R15_2 w, bd_some, ix17, l17 w (by omega), bd_some, s17 w (by omega), bd_some, nI_1]
  | succ m ih =>
    intro x F X hx
    have yes : Q x → ∃ Y, g_X3_dropDeadEnds_23 k7 k13 (F + (m + 1)) h (some 15) (nI i) (nI u) (X ||| (1 <<< (nI x &&& 31))) (nI (x + 1)) = k13 (sI h 17 (upd (hI h 17) (3 * i + u) (hI h 17 (3 * i + u) &&& Y))) (some 15) (nI i) (nI (u + 1)) ∧ ∀ y, y < 32 → (bt Y y = true ↔ bt X y = true ∨ (x ≤ y ∧ y < 15 ∧ Q y)) := by
      intro q
      obtain ⟨Y, y1, y2⟩ := ih (x + 1) F (X ||| (1 <<< (nI x &&& 31))) (by omega)
      exact ⟨Y, y1, fun y hy => (y2 y hy).trans (bits_step (P := Q) (by omega) ((bt_set (by omega) y).trans ⟨fun z => z.imp id (fun e => ⟨e, q⟩), fun z => z.imp id (fun e => e.1)⟩))⟩
    have no : ¬ Q x → ∃ Y, g_X3_dropDeadEnds_23 k7 k13 (F + (m + 1)) h (some 15) (nI i) (nI u) X (nI (x + 1)) = k13 (sI h 17 (upd (hI h 17) (3 * i + u) (hI h 17 (3 * i + u) &&& Y))) (some 15) (nI i) (nI (u + 1)) ∧ ∀ y, y < 32 → (bt Y y = true ↔ bt X y = true ∨ (x ≤ y ∧ y < 15 ∧ Q y)) := by
      intro q
      obtain ⟨Y, y1, y2⟩ := ih (x + 1) F X (by omega)
      exact ⟨Y, y1, fun y hy => (y2 y hy).trans (bits_step (P := Q) (by omega) ⟨Or.inl, fun z => z.elim id (fun e => absurd e.2 q)⟩)⟩
    rw [g_X3_dropDeadEnds_23, if_neg (show ¬ (15 : Int32) ≤ nI x from nI_ge (b := 15) (by omega) (by omega)), g15 w, bd_some, d0, show nI n - 1 = nI (n - 1) from pk_sub (b := 1) (by omega)]
    unfold j_X3_dropDeadEnds_66
    rw [nI_1]
    by_cases c : i + 1 = n
    · rw [if_neg (fun z => z (by rw [show n - 1 = i by omega])), g15 w, bd_some, e_holds _ (by omega), bd2_some]
      have hq := hE c x (by omega)
      by_cases q : Q x
      · rw [if_pos (hq.mpr q), if_neg (by decide)]; exact yes q
      · rw [if_neg (fun z => q (hq.mp z)), if_pos rfl]; exact no q
    · rw [if_pos (fun z => by have := (nI_eq (by omega) (by omega)).mp z; omega), O_15 w, bd_some, goesOn_sp w hi hu (by omega), bd2_some]
      have hq := hO (by omega) x (by omega)
      by_cases q : Q x
      · rw [dB_t (hq.mpr q), bI_t, if_neg (by decide)]; exact yes q
      · rw [dB_f (fun z => q (hq.mp z)), bI_f, if_pos rfl]; exact no q
theorem drop13 {i n : Nat} (hmo : mo ≤ 2) (hG : ∀ i x c, G i x c → c < 14) (hS : ∀ i y x, G i y x → G i x x) (hin : i < n) (hn : n ≤ 15) {k7 : AH → Option Nat → Int32 → Option AH} :
    ∀ (m u F : Nat) (h : AH), u + m = 3 → WF h → hI h 15 0 = nI n → (i + 1 = n → ∀ x, x < 32 → (bt (hI h 15 4) x = true ↔ x ≤ 14 ∧ (∃ u, RE G mo i x u) ∧ En i x)) → (i + 1 < n → LdOk G mo h i ∧ AdOk G En mo n h (i + 1)) → (∀ v, u ≤ v → v < 3 → ∀ x, x < 32 → (bt (hI h 17 (3 * i + v)) x = true ↔ RE G mo i x v)) → ∃ h', g_X3_dropDeadEnds_13 k7 (F + m + 1) h (some 15) (nI i) (nI u) = k7 h' (some 15) (nI i + (-1)) ∧ Fr h h' [17] ∧ (∀ j, (j < 3 * i + u ∨ 3 * i + 3 ≤ j) → hI h' 17 j = hI h 17 j) ∧ ∀ v, u ≤ v → v < 3 → ∀ x, x < 32 → (bt (hI h' 17 (3 * i + v)) x = true ↔ RE G mo i x v ∧ CE G En (n - i) i x (mo - v)) := by
  intro m
  induction m with
  | zero =>
    intro u F h hu w d0 E L A
    refine ⟨h, ?_, Fr.rf _ _, fun j _ => rfl, fun v h1 h2 => by omega⟩
    rw [show F + 0 + 1 = F + 1 from rfl, g_X3_dropDeadEnds_13, if_pos (show (3 : Int32) ≤ nI u from nI_le (a := 3) (by omega) (by omega))]
  | succ m ih =>
    intro u F h hu w d0 E L A
    obtain ⟨F2, hF2⟩ := NN_ge 15 (by omega)
    obtain ⟨Y, y1, y2⟩ := drop23 w (i := i) (u := u) (n := n) (Q := fun x => if i + 1 = n then bt (hI h 15 4) x = true else ((∃ c, c < 32 ∧ bt (hI h 18 (15 * i + x) &&& hI h 17 (3 * (i + 1) + u)) c = true) ∨ (u < 2 ∧ bt (hI h 17 (3 * (i + 1) + (u + 1))) x = true))) (by omega) (by omega) hn d0 hin (fun e x _ => by rw [if_pos e]) (fun e x _ => by rw [if_neg (show ¬ i + 1 = n by omega)]) (k7 := k7) (k13 := fun h x0 x1 x2 => g_X3_dropDeadEnds_13 k7 (F + (m + 1)) h x0 x1 x2) 15 0 F2 0 rfl
    rw [← hF2] at y1
    have f1 : Fr h (sI h 17 (upd (hI h 17) (3 * i + u) (hI h 17 (3 * i + u) &&& Y))) [17] := Fr.sI h (by decide)
    obtain ⟨h', a1, a2, a3, a4⟩ := ih (u + 1) F (sI h 17 (upd (hI h 17) (3 * i + u) (hI h 17 (3 * i + u) &&& Y))) (by omega) ((WF_sI _ _ _).mpr w) (by rw [sI_ne (by decide)]; exact d0) (fun e x hx => by rw [sI_ne (by decide)]; exact E e x hx) (fun e => ⟨fun x hx hr c hc => by rw [sI_ne (by decide)]; exact (L e).1 x hx hr c hc, fun v hv x hx => by rw [sI_eq, pk_un (by omega)]; exact (L e).2 v hv x hx⟩) (fun v h1 h2 x hx => by rw [sI_eq, pk_un (by omega)]; exact A v (by omega) h2 x hx)
    refine ⟨h', ?_, f1.trans a2, fun j hj => by rw [a3 j (by omega), sI_eq, pk_un (by omega)], fun v h1 h2 x hx => ?_⟩
    · rw [g_X3_dropDeadEnds_13, if_neg (show ¬ (3 : Int32) ≤ nI u from nI_ge (b := 3) (by omega) (by omega))]
      refine Eq.trans y1 ?_
      exact a1
    · by_cases e : v = u
      · subst e
        rw [a3 _ (by omega), sI_eq, pk_us, bt_and, Bool.and_eq_true, A v (by omega) h2 x hx, y2 x hx, bt_0]
        constructor
        · rintro ⟨z1, z2 | ⟨-, z3, z4⟩⟩
          · exact absurd z2 (by decide)
          · refine ⟨z1, ?_⟩
            by_cases c : i + 1 = n
            · rw [if_pos c] at z4
              rw [show n - i = 1 by omega]
              exact CE_1.mpr ((E c x hx).mp z4).2.2
            · rw [if_neg c] at z4
              obtain ⟨o1, o2⟩ := on_iff hmo hG hS (by omega) h2 (by omega) (L (by omega)).1 (L (by omega)).2 z1
              refine (CE_nx (by omega) (RE_le _ _ _ z1)).mpr ?_
              rcases z4 with ⟨c', q1, q2⟩ | q
              · exact ⟨c', ((o1 c' q1).mp q2).2⟩
              · exact ⟨x, o2.mp q⟩
        · rintro ⟨z1, z2⟩
          have xv : x < 14 ∨ x = 14 := RE_pl hG z1
          refine ⟨z1, Or.inr ⟨Nat.zero_le _, by omega, ?_⟩⟩
          by_cases c : i + 1 = n
          · rw [if_pos c]
            rw [show n - i = 1 by omega] at z2
            exact (E c x hx).mpr ⟨by omega, ⟨v, z1⟩, CE_1.mp z2⟩
          · rw [if_neg c]
            obtain ⟨o1, o2⟩ := on_iff hmo hG hS (by omega) h2 (by omega) (L (by omega)).1 (L (by omega)).2 z1
            obtain ⟨c', q⟩ := (CE_nx (by omega) (RE_le _ _ _ z1)).mp z2
            by_cases ex : c' = x
            · subst ex; exact Or.inr (o2.mpr q)
            · have := hG _ _ _ q.1
              exact Or.inl ⟨c', by omega, (o1 c' (by omega)).mpr ⟨ex, q⟩⟩
      · exact a4 v (by omega) h2 x hx
theorem drop7 {n : Nat} (hmo : mo ≤ 2) (hG : ∀ i x c, G i x c → c < 14) (hS : ∀ i y x, G i y x → G i x x) (hn : n ≤ 15) :
    ∀ (m F : Nat) (h : AH), m ≤ n → WF h → hI h 15 0 = nI n → (∀ x, x < 32 → (bt (hI h 15 4) x = true ↔ x ≤ 14 ∧ (∃ u, RE G mo (n - 1) x u) ∧ En (n - 1) x)) → (∀ j, j + 1 < n → LdOk G mo h j) → (∀ j, j < m → AhOk G mo h j) → (∀ j, m ≤ j → j < n → AdOk G En mo n h j) → ∃ h', g_X3_dropDeadEnds_7 (F + m + 1) h (some 15) (nI m + (-1)) = some h' ∧ Fr h h' [17] ∧ ∀ j, j < n → AdOk G En mo n h' j := by
  intro m
  induction m with
  | zero =>
    intro F h hm w d0 E L A B
    refine ⟨h, ?_, Fr.rf _ _, fun j hj => B j (by omega) hj⟩
    rw [show F + 0 + 1 = F + 1 from rfl, g_X3_dropDeadEnds_7, if_pos (by decide)]
  | succ m ih =>
    intro F h hm w d0 E L A B
    obtain ⟨F2, hF2⟩ := NN_ge 3 (by omega)
    obtain ⟨h1, a1, a2, a3, a4⟩ := drop13 (En := En) hmo hG hS (i := m) (n := n) (by omega) hn (k7 := fun h x0 x1 => g_X3_dropDeadEnds_7 (F + (m + 1)) h x0 x1) 3 0 F2 h rfl w d0 (fun e x hx => by have := E x hx; rw [show n - 1 = m by omega] at this; exact this) (fun e => ⟨L m e, B (m + 1) (by omega) (by omega)⟩) (fun v _ hv x hx => A m (by omega) v hv x hx)
    rw [← hF2] at a1
    obtain ⟨h2, b1, b2, b3⟩ := ih F h1 (by omega) (WF_fr a2 w) (by rw [a2.2.2.2.2 15 (by decide)]; exact d0) (fun x hx => by rw [a2.2.2.2.2 15 (by decide)]; exact E x hx) (fun j hj x hx hr c hc => by rw [a2.2.2.2.2 18 (by decide)]; exact L j hj x hx hr c hc) (fun j hj u hu x hx => by rw [a3 _ (by omega)]; exact A j (by omega) u hu x hx) (fun j h1 h2 u hu x hx => by
      by_cases e : j = m
      · subst e; exact a4 u (Nat.zero_le _) hu x hx
      · rw [a3 _ (by omega)]; exact B j (by omega) h2 u hu x hx)
    refine ⟨h2, ?_, a2.trans b2, b3⟩
    rw [g_X3_dropDeadEnds_7, pk_m1, if_neg (nI_pos (by omega))]
    refine Eq.trans a1 ?_
    exact b1
/-! the choice -/
theorem low_sp {h : AH} (X : Int32) : ∃ q, f_X3_lowest h X = some (nI q, h) ∧ q ≤ 14 ∧ (q < 14 → bt X q = true) ∧ ∀ c, c < q → ¬ bt X c = true := by
  have lp : ∀ (m c F : Nat), c + m = 14 → (∀ d, d < c → ¬ bt X d = true) → ∃ q, g_X3_lowest_2 (F + m + 1) h X (nI c) = some (nI q, h) ∧ q ≤ 14 ∧ (q < 14 → bt X q = true) ∧ ∀ d, d < q → ¬ bt X d = true := by
    intro m
    induction m with
    | zero =>
      intro c F hc hd
      refine ⟨14, ?_, Nat.le_refl _, fun z => by omega, fun d h => hd d (by omega)⟩
      rw [show F + 0 + 1 = F + 1 from rfl, g_X3_lowest_2, if_pos (show (14 : Int32) ≤ nI c from nI_le (a := 14) (by omega) (by omega))]; rfl
    | succ m ih =>
      intro c F hc hd
      rw [g_X3_lowest_2, if_neg (show ¬ (14 : Int32) ≤ nI c from nI_ge (b := 14) (by omega) (by omega)), e_holds X (by omega), bd2_some, nI_1]
      by_cases q : bt X c = true
      · rw [if_pos q, if_neg (by decide)]
        exact ⟨c, rfl, by omega, fun _ => q, hd⟩
      · rw [if_neg q, if_pos rfl]
        exact ih (c + 1) F (by omega) (fun d h => by
          by_cases e : d = c
          · rw [e]; exact q
          · exact hd d (by omega))
  obtain ⟨F, hF⟩ := NN_ge 14 (by omega)
  obtain ⟨q, q1, q2⟩ := lp 14 0 F rfl (fun d h => by omega)
  rw [← hF] at q1
  exact ⟨q, q1, q2⟩
theorem choose_lp {n : Nat} (hmo : mo ≤ 2) (hG : ∀ i x c, G i x c → c < 14) (hS : ∀ i y x, G i y x → G i x x) (hn : n ≤ 15) (hc : CE G En n 0 14 mo) :
    ∀ (m i F : Nat) (h : AH), i + m + 1 = n → WF h → hI h 15 0 = nI n → (∀ j, j + 1 < n → LdOk G mo h j) → (∀ j, j < n → AdOk G En mo n h j) → ∃ h', g_X3_chooseCamps_7 (F + m + 1) h (some 15) (nI (pth G En mo n i).1) (nI (pth G En mo n i).2) (nI i) = some h' ∧ Fr h h' [16] ∧ (∀ j, j < i → hI h' 16 j = hI h 16 j) ∧ ∀ j, i ≤ j → j + 1 < n → hI h' 16 j = nI (pth G En mo n (j + 1)).1 := by
  intro m
  induction m with
  | zero =>
    intro i F h hi w d0 L A
    refine ⟨h, ?_, Fr.rf _ _, fun j _ => rfl, fun j h1 h2 => by omega⟩
    rw [show F + 0 + 1 = F + 1 from rfl, g_X3_chooseCamps_7, g15 w, bd_some, d0, show nI n - 1 = nI (n - 1) from pk_sub (b := 1) (by omega), if_pos (nI_le (by omega) (by omega))]
  | succ m ih =>
    intro i F h hi w d0 L A
    obtain ⟨r1, r2⟩ := pth_ok hG hc i (by omega)
    obtain ⟨nx, n14, nu, nl⟩ := pth_nx hG hc (i := i) (by omega)
    have xv : (pth G En mo n i).1 < 14 ∨ (pth G En mo n i).1 = 14 := RE_pl hG r1
    have hu := RE_le _ _ _ r1
    have fin : ∃ h', g_X3_chooseCamps_7 (F + (m + 1)) (sI h 16 (upd (hI h 16) i (nI (pth G En mo n (i + 1)).1))) (some 15) (nI (pth G En mo n (i + 1)).1) (nI (pth G En mo n (i + 1)).2) (nI (i + 1)) = some h' ∧ Fr h h' [16] ∧ (∀ j, j < i → hI h' 16 j = hI h 16 j) ∧ ∀ j, i ≤ j → j + 1 < n → hI h' 16 j = nI (pth G En mo n (j + 1)).1 := by
      obtain ⟨h', a1, a2, a3, a4⟩ := ih (i + 1) F (sI h 16 (upd (hI h 16) i (nI (pth G En mo n (i + 1)).1))) (by omega) ((WF_sI _ _ _).mpr w) (by rw [sI_ne (by decide)]; exact d0) (fun j hj x hx hr c hc => by rw [sI_ne (by decide)]; exact L j hj x hx hr c hc) (fun j hj u hu x hx => by rw [sI_ne (by decide)]; exact A j hj u hu x hx)
      refine ⟨h', a1, (Fr.sI h (by decide)).trans a2, fun j hj => by rw [a3 j (by omega), sI_eq, pk_un (by omega)], fun j h1 h2 => ?_⟩
      by_cases e : j = i
      · subst e; rw [a3 j (by omega), sI_eq, pk_us]
      · exact a4 j (by omega) h2
    have st : ∀ v, stI h (some 16) (nI i) v = some (sI h 16 (upd (hI h 16) i v)) := fun v => stI_w w (by decide) rfl (by show i < 15; omega) (by decide)
    obtain ⟨o1, o2⟩ := on_iff hmo hG hS (by omega) (by omega) (by omega) (L i (by omega)) (A (i + 1) (by omega)) r1
    obtain ⟨q, q1, q2, q3, q4⟩ := low_sp (h := h) (hI h 18 (15 * i + (pth G En mo n i).1) &&& hI h 17 (3 * (i + 1) + (pth G En mo n i).2))
    rw [g_X3_chooseCamps_7, g15 w, bd_some, d0, show nI n - 1 = nI (n - 1) from pk_sub (b := 1) (by omega), if_neg (nI_ge (by omega) (by omega)), O_15 w, bd_some, goers_sp w (by omega) (by omega) (by omega), bd2_some, q1, bd2_some, O_15 w, bd_some, stay_sp w (by omega) (by omega) (by omega), bd2_some]
    unfold j_X3_chooseCamps_51 j_X3_chooseCamps_54
    rw [R15_1 w, bd_some, st, bd_some, bd_some, st, bd_some, nI_1, nI_1]
    have go : (pth G En mo n (i + 1)).1 = q → (pth G En mo n (i + 1)).1 ≠ (pth G En mo n i).1 → ∃ h', g_X3_chooseCamps_7 (F + (m + 1)) (sI h 16 (upd (hI h 16) i (nI q))) (some 15) (nI q) (nI (pth G En mo n i).2) (nI (i + 1)) = some h' ∧ Fr h h' [16] ∧ (∀ j, j < i → hI h' 16 j = hI h 16 j) ∧ ∀ j, i ≤ j → j + 1 < n → hI h' 16 j = nI (pth G En mo n (j + 1)).1 := by
      intro e1 e2
      rw [if_neg e2, Nat.add_zero] at nu
      rw [e1, nu] at fin
      exact fin
    have qle : (pth G En mo n (i + 1)).1 ≠ (pth G En mo n i).1 → q ≤ (pth G En mo n (i + 1)).1 := by
      intro e
      refine Nat.not_lt.mp (fun z => q4 _ z ((o1 _ (by omega)).mpr ⟨e, nx⟩))
    have leq : q < 14 → (pth G En mo n (i + 1)).1 ≤ q ∧ q ≠ (pth G En mo n i).1 := by
      intro z
      obtain ⟨z1, z2⟩ := (o1 q (by omega)).mp (q3 z)
      exact ⟨Nat.not_lt.mp (fun z3 => nl q z3 z2), z1⟩
    by_cases cs : (pth G En mo n i).2 < 2 ∧ bt (hI h 17 (3 * (i + 1) + ((pth G En mo n i).2 + 1))) (pth G En mo n i).1 = true
    · have nxx := o2.mp cs
      have xlt := hG _ _ _ nxx.1
      have cle : (pth G En mo n (i + 1)).1 ≤ (pth G En mo n i).1 := Nat.not_lt.mp (fun z => nl _ z nxx)
      rw [dB_t cs, bI_t, if_neg (by decide)]
      by_cases cq : q ≤ (pth G En mo n i).1
      · rw [if_pos (nI_le cq (by omega))]
        have := leq (by omega)
        have ne : (pth G En mo n (i + 1)).1 ≠ (pth G En mo n i).1 := by omega
        exact go (by have := qle ne; omega) ne
      · rw [if_neg (nI_ge (by omega) (by omega))]
        have e : (pth G En mo n (i + 1)).1 = (pth G En mo n i).1 := by
          by_cases ne : (pth G En mo n (i + 1)).1 = (pth G En mo n i).1
          · exact ne
          · have := qle ne; omega
        rw [if_pos e] at nu
        rw [e, nu] at fin
        exact fin
    · rw [dB_f cs, bI_f, if_pos rfl]
      have ne : (pth G En mo n (i + 1)).1 ≠ (pth G En mo n i).1 := by
        intro z
        rw [z] at nx
        exact cs (o2.mpr nx)
      have := qle ne
      have := leq (by omega)
      exact go (by omega) ne
theorem search_sp (X : DX D t nc k l p f mo gd G En) {h : AH} (b : Bs D h) : ∃ h', f_X3_search h (some 15) (some 1) (some 11) (nI t) = some (if pn G En mo (min f (30 - l)) = 0 then 0 else 1, h') ∧ Fr h h' [15, 16, 17, 18] ∧ hI h' 15 0 = nI (pn G En mo (min f (30 - l))) ∧ ∀ j, j + 1 < pn G En mo (min f (30 - l)) → hI h' 16 j = nI (pth G En mo (pn G En mo (min f (30 - l))) (j + 1)).1 := by
  obtain ⟨X1, X2, X3, X4, X5, X6, X7, X8, X9, X10, X11, X12, X13, X14⟩ := id X
  have hG14 : ∀ i x c, G i x c → c < 14 := fun i x c h => by have := X11 i x c h; omega
  have w := b.1
  have rd : ∀ j v, j < 5 → D 13 (35 * t + j) = v → f_X6_read h (some 11) (nI t) (nI j) = some (v, h) := fun j v hj e => by rw [e6_read w (by omega), b.2 13 (by omega), e]
  obtain ⟨fit, c1, c2⟩ := X14 h b
  have f1 : Fr h (sI h 15 (upd (hI h 15) 0 0)) [15] := Fr.sI h (by decide)
  have b1 := Bs_fr b f1 (by decide)
  obtain ⟨h2, e2, f2, g2⟩ := eJ_fill b1.1 (q := 17) (len := 48) (v := 0) (by decide) rfl (by omega)
  have b2 := Bs_fr b1 f2 (by decide)
  have f3 : Fr h2 (sI h2 17 (upd (hI h2 17) 0 16384)) [17] := Fr.sI h2 (by decide)
  have b3 := Bs_fr b2 f3 (by decide)
  have sa : f_X3_startAhead (sI h 15 (upd (hI h 15) 0 0)) (some 15) = some (sI h2 17 (upd (hI h2 17) 0 16384)) := by
    unfold f_X3_startAhead
    rw [R15_2 b1.1, bd_some, e2, bd_some, R15_2 b2.1, bd_some, show (0 : Int32) = nI 0 from rfl, s17 b2.1 (by omega), bd_some]
  have z17 : ∀ j, j < 48 → hI (sI h2 17 (upd (hI h2 17) 0 16384)) 17 j = if j = 0 then 16384 else 0 := by
    intro j hj
    rw [sI_eq]
    unfold upd
    by_cases e : j = 0
    · rw [if_pos e, if_pos e]
    · rw [if_neg e, if_neg e, g2 j, if_pos hj]
  have b14 : ∀ x, x < 32 → bt 16384 x = decide (x = 14) := by decide +kernel
  obtain ⟨F, hF⟩ := NN_ge (min f (30 - l)) (by omega)
  obtain ⟨h4, e4, f4, s1, s2⟩ := srch_lp X c2 (min f (30 - l)) 0 F (sI h2 17 (upd (hI h2 17) 0 16384)) (by omega) b3 (by rw [sI_ne (by decide), f2.2.2.2.2 15 (by decide), sI_eq, pk_us]) (fun j hj u hu x hx => by
      have : j = 0 := by omega
      subst this
      rw [z17 _ (by omega)]
      by_cases e : u = 0
      · subst e
        rw [if_pos rfl, b14 x hx, decide_eq_true_eq]
        exact ⟨fun z => ⟨z, rfl⟩, fun z => z.1⟩
      · rw [if_neg (by omega), bt_0]
        exact ⟨fun z => absurd z (by decide), fun z => absurd z.2 e⟩) (fun j hj => by omega) (fun j h1 h2 u hu => by rw [z17 _ (by omega), if_neg (by omega)]) (fun j hj => by omega)
  rw [← hF] at e4
  have w4 := WF_fr f4 b3.1
  have run : f_X3_search h (some 15) (some 1) (some 11) (nI t) = j_X3_search_175 h4 (some 15) := by
    unfold f_X3_search
    rw [O_11 w, bd_some, show f_X6_read h (some 11) (nI t) 0 = _ from rd 0 _ (by omega) X6, bd2_some, O_11 w, bd_some, show f_X6_read h (some 11) (nI t) 1 = _ from rd 1 _ (by omega) X7, bd2_some, O_11 w, bd_some, show f_X6_read h (some 11) (nI t) 2 = _ from rd 2 _ (by omega) X8, bd2_some, O_11 w, bd_some, show f_X6_read h (some 11) (nI t) 3 = _ from rd 3 _ (by omega) X9, bd2_some, O_1 w, bd_some, c1, bd2_some, p15 w, bd_some, O_15 b1.1, bd_some]
    have mn : (if 30 - nI l < nI f then 30 - nI l else nI f) = nI (min f (30 - l)) := by
      rw [show 30 - nI l = nI (30 - l) from pk_sub (a := 30) (by omega)]
      by_cases c : 30 - l < f
      · rw [if_pos (nI_lt c (by omega)), Nat.min_eq_right (by omega)]
      · rw [if_neg (nI_nlt (by omega) (by omega)), Nat.min_eq_left (by omega)]
    rw [mn, sa, bd_some, show (0 : Int32) = nI 0 from rfl, e4]
  have fA : Fr h h4 [15, 16, 17, 18] := (f1.mono (by decide)).trans ((f2.mono (by decide)).trans ((f3.mono (by decide)).trans (f4.mono (by decide))))
  generalize hn : pn G En mo (min f (30 - l)) = n at *
  rcases pn_sp (G := G) (En := En) (mo := mo) (min f (30 - l)) with ⟨p1, -⟩ | ⟨p1, p2, p3, p4⟩
  · rw [hn] at p1
    subst p1
    have d1 : f_X3_dropDeadEnds h4 (some 15) = some h4 := by
      unfold f_X3_dropDeadEnds
      rw [g15 w4, bd_some, s1, hF, g_X3_dropDeadEnds_7, if_pos (by decide)]
    have d2 : f_X3_chooseCamps h4 (some 15) = some h4 := by
      unfold f_X3_chooseCamps
      rw [hF, g_X3_chooseCamps_7, g15 w4, bd_some, s1, if_pos (by decide)]
    refine ⟨h4, ?_, fA, s1, fun j hj => by omega⟩
    rw [run]
    unfold j_X3_search_175
    rw [O_15 w4, bd_some, d1, bd_some, O_15 w4, bd_some, d2, bd_some, g15 w4, bd_some, s1, if_pos (by decide), if_pos rfl]
  · rw [hn] at p1 p2 p3 p4
    obtain ⟨s3, s4, s5⟩ := s2 p1
    obtain ⟨F5, hF5⟩ := NN_ge n (by omega)
    obtain ⟨h5, e5, f5, a5⟩ := drop7 (En := En) X5 hG14 X12 (n := n) (by omega) n F5 h4 (Nat.le_refl _) w4 s1 s5 s4 s3 (fun j h1 h2 => by omega)
    rw [← hF5] at e5
    have w5 := WF_fr f5 w4
    have s1' : hI h5 15 0 = nI n := by rw [f5.2.2.2.2 15 (by decide)]; exact s1
    obtain ⟨F6, hF6⟩ := NN_ge (n - 1) (by omega)
    obtain ⟨h6, e6, f6, -, a6⟩ := choose_lp X5 hG14 X12 (n := n) (by omega) p3 (n - 1) 0 F6 h5 (by omega) w5 s1' (fun j hj x hx hr c hc => by rw [f5.2.2.2.2 18 (by decide)]; exact s4 j hj x hx hr c hc) a5
    rw [show pth G En mo n 0 = (14, 0) from rfl] at e6
    have e6' : g_X3_chooseCamps_7 (F6 + (n - 1) + 1) h5 (some 15) 14 0 0 = some h6 := e6
    have w6 := WF_fr f6 w5
    have d2 : f_X3_chooseCamps h5 (some 15) = some h6 := by
      unfold f_X3_chooseCamps
      rw [hF6, e6']
    have d1 : f_X3_dropDeadEnds h4 (some 15) = some h5 := by
      unfold f_X3_dropDeadEnds
      rw [g15 w4, bd_some, s1, show nI n - 1 = nI n + (-1) from by rw [show n = (n - 1) + 1 by omega, nI_pred, pk_m1]]
      exact e5
    refine ⟨h6, ?_, fA.trans ((f5.mono (by decide)).trans (f6.mono (by decide))), by rw [f6.2.2.2.2 15 (by decide)]; exact s1', fun j hj => a6 j (Nat.zero_le _) hj⟩
    rw [run]
    unfold j_X3_search_175
    rw [O_15 w4, bd_some, d1, bd_some, O_15 w5, bd_some, d2, bd_some, g15 w6, bd_some, f6.2.2.2.2 15 (by decide), s1', if_neg (nI_nle (by omega) (by omega)), if_neg (by omega)]
end Srch2
