/-! the reference's planner -/
def MX (N : Nat → Int32) (t nc l f mo : Nat) (G : Nat → Nat → Nat → Prop) (En : Nat → Nat → Prop) : Prop :=
  t < 10 ∧ nc ≤ 14 ∧ l ≤ 29 ∧ (1 ≤ f ∧ f ≤ 15) ∧ mo ≤ 2 ∧ N 2 = nI nc ∧ N (194 + 5 * t + 1) = nI l ∧ N (194 + 5 * t + 3) = nI f ∧ N (194 + 5 * t + 4) = nI mo ∧
  (∀ g, WF g → hI g 75 = N → ∀ i x c, l + i ≤ 29 → (x < nc ∨ x = 14) → c < nc → f_X8_canGo g (some 74) (nI t) (nI x) (nI c) (nI (l + i)) = some (bI (dB (G i x c)), g)) ∧
  (∀ g, WF g → hI g 75 = N → ∀ i x, l + i ≤ 29 → (x < nc ∨ x = 14) → f_X8_canEnd g (some 74) (nI t) (nI x) (nI (l + i)) = some (bI (dB (En i x)), g)) ∧ ∀ i x c, G i x c → c < nc
theorem e8_leftAt {g : AH} (w : WF g) {i x o : Nat} (h : 45 * i + 3 * x + o < 720) : f_X8_leftAt g (some 74) (nI i) (nI x) (nI o) = some (hI g 80 (45 * i + 3 * x + o), g) := by
  have e : 45 * nI i + 3 * nI x + nI o = nI (45 * i + 3 * x + o) := by rw [show (45 : Int32) = nI 45 from rfl, show (3 : Int32) = nI 3 from rfl, pk_mul, pk_mul, nI_add, nI_add]
  unfold f_X8_leftAt
  rw [gR_w (q := 74) (ci := 8) (j := 7) w (by decide) rfl rfl, bd_some, show tR 74 7 = some 80 from rfl, e, ldI_w w (by decide) rfl (by show _ < 720; exact h) (by decide), bd_some]
section Ref
variable {N : Nat → Int32} {t nc l f mo : Nat} {G : Nat → Nat → Nat → Prop} {En : Nat → Nat → Prop}
def TB (G : Nat → Nat → Nat → Prop) (En : Nat → Nat → Prop) (nc most : Nat) (g : AH) (i : Nat) : Prop := ∀ y, (y < nc ∨ y = 14) → ∀ o, o < 3 → ∃ w, hI g 80 (45 * i + 3 * y + o) = nI w ∧ LV G En most i y o w
theorem left_sp (X : MX N t nc l f mo G En) {g : AH} (w : WF g) (hN : hI g 75 = N) {i x o : Nat} (hi : i < min f (30 - l)) (hx : x < nc ∨ x = 14) (ho : o < 3) (T : TB G En nc (min f (30 - l)) g (i + 1)) : ∃ v, f_X8_leftFrom g (some 74) (nI t) (nI i) (nI x) (nI o) = some (nI v, g) ∧ LV G En (min f (30 - l)) i x o v := by
  obtain ⟨X1, X2, X3, X4, X5, X6, X7, X8, X9, X10, X11, X12⟩ := X
  have ln : ldI g (some 75) 2 = some (nI nc) := by rw [← X6, ← hN]; exact q75 w (i := 2) (by omega)
  have tl : f_X8_told g (some 74) (nI t) 1 = some (nI l, g) := by rw [show (1 : Int32) = nI 1 from rfl, e8_told w (by omega), hN, X7]
  have go := X10 g w hN i x
  have en := X11 g w hN i x (by omega) hx
  generalize hmost : min f (30 - l) = most at *
  have m15 : most ≤ 15 := by omega
  have lp : ∀ (m c F b : Nat), c + m = nc → (b = 1000 ∨ (1 ≤ b ∧ b ≤ most - i ∧ CE G En b i x o)) → (En i x → b ≤ 1) → (∀ c', c' < c → ∀ v, o = v + (if c' = x then 1 else 0) → G i x c' → ∀ n, n ≤ most - (i + 1) → CE G En n (i + 1) c' v → b ≤ n + 1) → ∃ v, g_X8_leftFrom_33 (F + m + 1) g (some 74) (nI t) (nI i) (nI x) (nI o) (nI (l + i)) (nI b) (nI c) = some (nI v, g) ∧ LV G En most i x o v := by
    intro m
    induction m with
    | zero =>
      intro c F b hc i1 i2 i3
      have c1 : nI nc ≤ nI c := nI_le (by omega) (by omega)
      refine ⟨b, ?_, i1, fun n hn hce => ?_⟩
      · rw [show F + 0 + 1 = F + 1 from rfl, g_X8_leftFrom_33, gR_w (q := 74) (ci := 8) (j := 0) w (by decide) rfl rfl, bd_some, show tR 74 0 = some 75 from rfl, ln, bd_some, if_pos c1]
      · cases n with
        | zero => exact absurd hce (fun z => z)
        | succ n =>
          rcases hce with ⟨e, z⟩ | ⟨c', v, z1, z2, z3⟩
          · have := i2 z; omega
          · exact i3 c' (by have := X12 _ _ _ z1; omega) v z2 z1 n (by omega) z3
    | succ m ih =>
      intro c F b hc i1 i2 i3
      have c1 : ¬ nI nc ≤ nI c := nI_ge (by omega) (by omega)
      have b16 : b ≤ 1000 := by rcases i1 with z | z; omega; omega
      have nxt : ∀ b', (b' = 1000 ∨ (1 ≤ b' ∧ b' ≤ most - i ∧ CE G En b' i x o)) → b' ≤ b → (∀ v, o = v + (if c = x then 1 else 0) → G i x c → ∀ n, n ≤ most - (i + 1) → CE G En n (i + 1) c v → b' ≤ n + 1) → ∃ v, g_X8_leftFrom_33 (F + (m + 1)) g (some 74) (nI t) (nI i) (nI x) (nI o) (nI (l + i)) (nI b') (nI (c + 1)) = some (nI v, g) ∧ LV G En most i x o v := by
        intro b' y1 y2 y3
        refine ih (c + 1) F b' (by omega) y1 (fun z => by have := i2 z; omega) (fun c' hc' v z1 z2 n z3 z4 => ?_)
        by_cases e : c' = c
        · subst e; exact y3 v z1 z2 n z3 z4
        · have := i3 c' (by omega) v z1 z2 n z3 z4; omega
      have J : ∀ v, o = v + (if c = x then 1 else 0) → ∃ v', j_X8_leftFrom_59 (fun h x0 x1 x2 x3 x4 x5 x6 x7 => g_X8_leftFrom_33 (F + (m + 1)) h x0 x1 x2 x3 x4 x5 x6 x7) g (some 74) (nI t) (nI i) (nI x) (nI o) (nI (l + i)) (nI b) (nI c) (nI v) = some (nI v', g) ∧ LV G En most i x o v' := by
        intro v hv
        have v3 : v < 3 := by omega
        obtain ⟨q, q1, q2, q3⟩ := T c (Or.inl (by omega)) v v3
        have q16 : q ≤ 1000 := by rcases q2 with z | z; omega; omega
        have la : f_X8_leftAt g (some 74) (nI (i + 1)) (nI c) (nI v) = some (nI q, g) := by rw [e8_leftAt w (by omega), q1]
        have same : ∀ v', o = v' + (if c = x then 1 else 0) → v' = v := fun v' h => by omega
        unfold j_X8_leftFrom_59
        rw [if_neg (nI_pos (by omega)), O_8 w, bd_some, nI_1, la, bd2_some, nI_1]
        by_cases c2 : 1000 ≤ q
        · rw [if_pos (show (1000 : Int32) ≤ nI q from nI_le (a := 1000) c2 (by omega))]
          exact nxt b i1 (Nat.le_refl _) (fun v' h _ n hn hce => by rw [same v' h] at hce; have := q3 n hn hce; omega)
        rw [if_neg (show ¬ (1000 : Int32) ≤ nI q from nI_ge (b := 1000) (by omega) (by omega)), O_8 w, bd_some, la, bd2_some, show 1 + nI q = nI (1 + q) from nI_add 1 q]
        by_cases c3 : b ≤ 1 + q
        · rw [if_pos (nI_le c3 (by omega))]
          exact nxt b i1 (Nat.le_refl _) (fun v' h _ n hn hce => by rw [same v' h] at hce; have := q3 n hn hce; omega)
        rw [if_neg (nI_ge (by omega) (by omega)), O_8 w, bd_some, go c (by omega) hx (by omega), bd2_some]
        by_cases c4 : G i x c
        · rw [dB_t c4, bI_t, if_neg (by decide), O_8 w, bd_some, la, bd2_some, show 1 + nI q = nI (1 + q) from nI_add 1 q]
          have qc : 1 ≤ q ∧ q ≤ most - (i + 1) ∧ CE G En q (i + 1) c v := by rcases q2 with z | z; omega; exact z
          refine nxt (1 + q) (Or.inr ⟨by omega, by omega, ?_⟩) (by omega) (fun v' h _ n hn hce => by rw [same v' h] at hce; have := q3 n hn hce; omega)
          rw [Nat.add_comm 1 q]
          exact Or.inr ⟨c, v, c4, hv, qc.2.2⟩
        · rw [dB_f c4, bI_f, if_pos rfl]
          exact nxt b i1 (Nat.le_refl _) (fun v' _ z => absurd z c4)
      rw [g_X8_leftFrom_33, gR_w (q := 74) (ci := 8) (j := 0) w (by decide) rfl rfl, bd_some, show tR 74 0 = some 75 from rfl, ln, bd_some, if_neg c1]
      by_cases cx : c = x
      · rw [if_neg (fun z => z (by rw [cx]))]
        by_cases c0 : o = 0
        · unfold j_X8_leftFrom_59
          rw [if_pos (by rw [c0]; decide), nI_1]
          exact nxt b i1 (Nat.le_refl _) (fun v' h => by rw [if_pos cx] at h; omega)
        · rw [show nI o - 1 = nI (o - 1) from pk_sub (b := 1) (by omega)]
          exact J (o - 1) (by rw [if_pos cx]; omega)
      · rw [if_pos (fun z => cx ((nI_eq (by omega) (by omega)).mp z))]
        exact J o (by rw [if_neg cx, Nat.add_zero])
  obtain ⟨F, hF⟩ := NN_ge nc (by omega)
  unfold f_X8_leftFrom
  rw [O_8 w, bd_some, tl, bd2_some, O_8 w, bd_some, nI_add, en, bd2_some, hF]
  by_cases ce : En i x
  · rw [dB_t ce, bI_t, if_neg (by decide)]
    exact lp nc 0 F 1 (by omega) (Or.inr ⟨by omega, by omega, CE_1.mpr ce⟩) (fun _ => Nat.le_refl _) (fun c' h => by omega)
  · rw [dB_f ce, bI_f, if_pos rfl]
    exact lp nc 0 F 1000 (by omega) (Or.inl rfl) (fun z => absurd z ce) (fun c' h => by omega)
theorem LV_end {most x o : Nat} : LV G En most most x o 1000 := ⟨Or.inl rfl, fun n hn hce => by
  have : n = 0 := by omega
  subst this; exact absurd hce (fun z => z)⟩
theorem t77 (X : MX N t nc l f mo G En) {i x : Nat} (hi : i ≤ min f (30 - l)) (hx : x ≤ 14) {x6 : Int32} (h6 : x6 = 0 ∨ (x6 = 1 ∧ (x < nc ∨ x = 14))) {k34 : AH → Option Nat → Int32 → Int32 → Int32 → Option (Int32 × AH)} {k42 : AH → Option Nat → Int32 → Int32 → Int32 → Int32 → Option (Int32 × AH)} :
    ∀ (m v F : Nat) (g : AH), v + m = 3 → WF g → hI g 75 = N → (i < min f (30 - l) → TB G En nc (min f (30 - l)) g (i + 1)) → ∃ g', g_X8_tell_77 k34 k42 (F + m + 1) g (some 74) (nI t) (nI (min f (30 - l))) (nI i) (nI x) x6 (nI v) = k42 g' (some 74) (nI t) (nI (min f (30 - l))) (nI i) (nI (x + 1)) ∧ Fr g g' [80] ∧ (∀ j, (j < 45 * i + 3 * x + v ∨ 45 * i + 3 * x + 3 ≤ j) → hI g' 80 j = hI g 80 j) ∧ (x6 = 1 → ∀ o, v ≤ o → o < 3 → ∃ w, hI g' 80 (45 * i + 3 * x + o) = nI w ∧ LV G En (min f (30 - l)) i x o w) := by
  intro m
  induction m with
  | zero =>
    intro v F g hv w hN T
    have e : v = 3 := by omega
    subst e
    refine ⟨g, ?_, Fr.rf _ _, fun j _ => rfl, fun _ o h1 h2 => by omega⟩
    rw [show F + 0 + 1 = F + 1 from rfl, g_X8_tell_77, if_pos (by decide), nI_1]
  | succ m ih =>
    intro v F g hv w hN T
    have m15 : min f (30 - l) ≤ 15 := by have := X.2.2.2.1; omega
    have c1 : ¬ (3 : Int32) ≤ nI v := nI_ge (b := 3) (by omega) (by omega)
    have ex : 45 * nI i + 3 * nI x + nI v = nI (45 * i + 3 * x + v) := by rw [show (45 : Int32) = nI 45 from rfl, show (3 : Int32) = nI 3 from rfl, pk_mul, pk_mul, nI_add, nI_add]
    have st : ∀ z, stI g (some 80) (nI (45 * i + 3 * x + v)) z = some (sI g 80 (upd (hI g 80) (45 * i + 3 * x + v) z)) := fun z => stI_w w (by decide) rfl (by show _ < 720; omega) (by decide)
    have fin : ∀ q : Nat, (x6 = 1 → LV G En (min f (30 - l)) i x v q) → ∃ g', g_X8_tell_77 k34 k42 (F + (m + 1)) (sI g 80 (upd (hI g 80) (45 * i + 3 * x + v) (nI q))) (some 74) (nI t) (nI (min f (30 - l))) (nI i) (nI x) x6 (nI (v + 1)) = k42 g' (some 74) (nI t) (nI (min f (30 - l))) (nI i) (nI (x + 1)) ∧ Fr g g' [80] ∧ (∀ j, (j < 45 * i + 3 * x + v ∨ 45 * i + 3 * x + 3 ≤ j) → hI g' 80 j = hI g 80 j) ∧ (x6 = 1 → ∀ o, v ≤ o → o < 3 → ∃ w, hI g' 80 (45 * i + 3 * x + o) = nI w ∧ LV G En (min f (30 - l)) i x o w) := by
      intro q hq
      obtain ⟨g', a1, a2, a3, a4⟩ := ih (v + 1) F (sI g 80 (upd (hI g 80) (45 * i + 3 * x + v) (nI q))) (by omega) ((WF_sI _ _ _).mpr w) (by rw [sI_ne (by decide)]; exact hN) (fun hi2 y hy o ho => by
        obtain ⟨w1, y1, y2⟩ := T hi2 y hy o ho
        exact ⟨w1, by rw [sI_eq, pk_un (by omega)]; exact y1, y2⟩)
      refine ⟨g', a1, (Fr.sI g (by decide)).trans a2, fun j hj => by rw [a3 j (by omega), sI_eq, pk_un (by omega)], fun h6 o ho1 ho2 => ?_⟩
      by_cases e : o = v
      · subst e
        exact ⟨q, by rw [a3 _ (by omega), sI_eq, pk_us], hq h6⟩
      · exact a4 h6 o (by omega) ho2
    rw [g_X8_tell_77, if_neg c1, gR_w (q := 74) (ci := 8) (j := 7) w (by decide) rfl rfl, bd_some, show tR 74 7 = some 80 from rfl]
    unfold j_X8_tell_125
    rw [ex, nI_1, show (1000 : Int32) = nI 1000 from rfl]
    rcases h6 with h6 | ⟨h6, hxx⟩
    · rw [if_pos h6, st, bd_some]
      exact fin 1000 (fun z => by rw [h6] at z; exact absurd z (by decide))
    · rw [if_neg (by rw [h6]; decide)]
      by_cases ci : i = min f (30 - l)
      · rw [if_pos (nI_le (by omega) (by omega)), st, bd_some]
        exact fin 1000 (fun _ => by rw [ci]; exact LV_end)
      · rw [if_neg (nI_ge (by omega) (by omega)), O_8 w, bd_some]
        obtain ⟨q, q1, q2⟩ := left_sp X w hN (i := i) (x := x) (o := v) (by omega) hxx (by omega) (T (by omega))
        rw [q1, bd2_some, st, bd_some]
        exact fin q (fun _ => q2)
theorem t42 (X : MX N t nc l f mo G En) {i : Nat} (hi : i ≤ min f (30 - l)) {k34 : AH → Option Nat → Int32 → Int32 → Int32 → Option (Int32 × AH)} :
    ∀ (m x F : Nat) (g : AH), x + m = 15 → WF g → hI g 75 = N → (i < min f (30 - l) → TB G En nc (min f (30 - l)) g (i + 1)) → ∃ g', g_X8_tell_42 k34 (F + m + 1) g (some 74) (nI t) (nI (min f (30 - l))) (nI i) (nI x) = k34 g' (some 74) (nI t) (nI (min f (30 - l))) (nI i + (-1)) ∧ Fr g g' [80] ∧ (∀ j, (j < 45 * i + 3 * x ∨ 45 * i + 45 ≤ j) → hI g' 80 j = hI g 80 j) ∧ (∀ y, x ≤ y → (y < nc ∨ y = 14) → ∀ o, o < 3 → ∃ w, hI g' 80 (45 * i + 3 * y + o) = nI w ∧ LV G En (min f (30 - l)) i y o w) := by
  intro m
  have hnc := X.2.1
  induction m with
  | zero =>
    intro x F g hx w hN T
    have e : x = 15 := by omega
    subst e
    refine ⟨g, ?_, Fr.rf _ _, fun j _ => rfl, fun y h1 h2 => by omega⟩
    rw [show F + 0 + 1 = F + 1 from rfl, g_X8_tell_42, if_pos (by decide)]
  | succ m ih =>
    intro x F g hx w hN T
    have c1 : ¬ (14 : Int32) < nI x := nI_nlt (a := 14) (by omega) (by omega)
    have ln : ldI g (some 75) 2 = some (nI nc) := by rw [← X.2.2.2.2.2.1, ← hN]; exact q75 w (i := 2) (by omega)
    obtain ⟨F2, hF2⟩ := NN_ge 3 (by omega)
    have fin : ∀ x6 : Int32, (x6 = 0 ∧ ¬ (x < nc ∨ x = 14)) ∨ (x6 = 1 ∧ (x < nc ∨ x = 14)) → ∃ g', g_X8_tell_77 k34 (fun h x0 x1 x3 x4 x5 => g_X8_tell_42 k34 (F + (m + 1)) h x0 x1 x3 x4 x5) NN g (some 74) (nI t) (nI (min f (30 - l))) (nI i) (nI x) x6 0 = k34 g' (some 74) (nI t) (nI (min f (30 - l))) (nI i + (-1)) ∧ Fr g g' [80] ∧ (∀ j, (j < 45 * i + 3 * x ∨ 45 * i + 45 ≤ j) → hI g' 80 j = hI g 80 j) ∧ (∀ y, x ≤ y → (y < nc ∨ y = 14) → ∀ o, o < 3 → ∃ w, hI g' 80 (45 * i + 3 * y + o) = nI w ∧ LV G En (min f (30 - l)) i y o w) := by
      intro x6 h6
      obtain ⟨g1, a1, a2, a3, a4⟩ := t77 X hi (x := x) (by omega) (x6 := x6) (h6.imp (fun z => z.1) id) (k34 := k34) (k42 := fun h x0 x1 x3 x4 x5 => g_X8_tell_42 k34 (F + (m + 1)) h x0 x1 x3 x4 x5) 3 0 F2 g rfl w hN T
      obtain ⟨g2, b1, b2, b3, b4⟩ := ih (x + 1) F g1 (by omega) (WF_fr a2 w) (by rw [a2.2.2.2.2 75 (by decide)]; exact hN) (fun hi2 y hy o ho => by
        obtain ⟨w1, y1, y2⟩ := T hi2 y hy o ho
        exact ⟨w1, by rw [a3 _ (by omega)]; exact y1, y2⟩)
      rw [← hF2] at a1
      refine ⟨g2, by rw [show (0 : Int32) = nI 0 from rfl, a1]; exact b1, a2.trans b2, fun j hj => by rw [b3 j (by omega), a3 j (by omega)], fun y hy1 hy2 o ho => ?_⟩
      by_cases e : y = x
      · subst e
        rcases h6 with ⟨-, z⟩ | ⟨z, -⟩
        · exact absurd hy2 z
        · obtain ⟨w1, y1, y2⟩ := a4 z o (by omega) ho
          exact ⟨w1, by rw [b3 _ (by omega)]; exact y1, y2⟩
      · exact b4 y (by omega) hy2 o ho
    rw [g_X8_tell_42, if_neg c1]
    unfold j_X8_tell_67
    by_cases c14 : x = 14
    · rw [if_pos (by rw [c14]; rfl)]
      exact fin 1 (Or.inr ⟨rfl, Or.inr c14⟩)
    · rw [if_neg (show ¬ nI x = 14 from fun z => c14 ((nI_eq (b := 14) (by omega) (by omega)).mp z)), gR_w (q := 74) (ci := 8) (j := 0) w (by decide) rfl rfl, bd_some, show tR 74 0 = some 75 from rfl, ln, bd_some]
      by_cases cx : x < nc
      · rw [if_neg (nI_ge cx (by omega))]
        exact fin 1 (Or.inr ⟨rfl, Or.inl cx⟩)
      · rw [if_pos (nI_le (by omega) (by omega))]
        exact fin 0 (Or.inl ⟨rfl, by omega⟩)
theorem t34 (X : MX N t nc l f mo G En) :
    ∀ (m F : Nat) (g : AH), m ≤ min f (30 - l) + 1 → WF g → hI g 75 = N → (∀ i, m ≤ i → i ≤ min f (30 - l) → TB G En nc (min f (30 - l)) g i) → ∃ g' v, g_X8_tell_34 (F + m + 1) g (some 74) (nI t) (nI (min f (30 - l))) (nI m + (-1)) = some (nI v, g') ∧ Fr g g' [80] ∧ (∀ i, i ≤ min f (30 - l) → TB G En nc (min f (30 - l)) g' i) ∧ LV G En (min f (30 - l)) 0 14 mo v := by
  intro m
  induction m with
  | zero =>
    intro F g hm w hN T
    have tmo : f_X8_told g (some 74) (nI t) 4 = some (nI mo, g) := by rw [show (4 : Int32) = nI 4 from rfl, e8_told w (by have := X.1; omega), hN, X.2.2.2.2.2.2.2.2.1]
    obtain ⟨v, v1, v2⟩ := T 0 (by omega) (by omega) 14 (Or.inr rfl) mo (by have := X.2.2.2.2.1; omega)
    refine ⟨g, v, ?_, Fr.rf _ _, fun i hi => T i (by omega) hi, v2⟩
    rw [show F + 0 + 1 = F + 1 from rfl, g_X8_tell_34, if_pos (by decide), O_8 w, bd_some, tmo, bd2_some, O_8 w, bd_some, show (0 : Int32) = nI 0 from rfl, show (14 : Int32) = nI 14 from rfl, e8_leftAt w (by have := X.2.2.2.2.1; omega), bd2_some, v1]
  | succ m ih =>
    intro F g hm w hN T
    obtain ⟨F2, hF2⟩ := NN_ge 15 (by omega)
    have m15 : min f (30 - l) ≤ 15 := by have := X.2.2.2.1; omega
    obtain ⟨g1, a1, a2, a3, a4⟩ := t42 X (i := m) (by omega) (k34 := fun h x0 x1 x3 x4 => g_X8_tell_34 (F + (m + 1)) h x0 x1 x3 x4) 15 0 F2 g rfl w hN (fun hi => T (m + 1) (by omega) (by omega))
    rw [← hF2] at a1
    obtain ⟨g2, v, b1, b2, b3, b4⟩ := ih F g1 (by omega) (WF_fr a2 w) (by rw [a2.2.2.2.2 75 (by decide)]; exact hN) (fun i h1 h2 y hy o ho => by
      by_cases e : i = m
      · subst e; exact a4 y (by omega) hy o ho
      · obtain ⟨w1, y1, y2⟩ := T i (by omega) h2 y hy o ho
        exact ⟨w1, by rw [a3 _ (by omega)]; exact y1, y2⟩)
    refine ⟨g2, v, ?_, a2.trans b2, b3, b4⟩
    rw [g_X8_tell_34, pk_m1, if_neg (nI_pos (by omega)), show (0 : Int32) = nI 0 from rfl, a1]
    exact b1
theorem tell_sp (X : MX N t nc l f mo G En) {g : AH} (w : WF g) (hN : hI g 75 = N) : ∃ g', f_X8_tell g (some 74) (nI t) = some (nI (if pn G En mo (min f (30 - l)) = 0 then 1000 else pn G En mo (min f (30 - l))), g') ∧ Fr g g' [80] ∧ (∀ i, i ≤ min f (30 - l) → TB G En nc (min f (30 - l)) g' i) := by
  have X4 := X.2.2.2.1
  have X3 := X.2.2.1
  have tl : f_X8_told g (some 74) (nI t) 1 = some (nI l, g) := by rw [show (1 : Int32) = nI 1 from rfl, e8_told w (by have := X.1; omega), hN, X.2.2.2.2.2.2.1]
  have tf : f_X8_told g (some 74) (nI t) 3 = some (nI f, g) := by rw [show (3 : Int32) = nI 3 from rfl, e8_told w (by have := X.1; omega), hN, X.2.2.2.2.2.2.2.1]
  obtain ⟨F, hF⟩ := NN_ge (min f (30 - l) + 1) (by omega)
  obtain ⟨g', v, a1, a2, a3, a4⟩ := t34 X (min f (30 - l) + 1) F g (Nat.le_refl _) w hN (fun i h1 h2 => by omega)
  rw [← hF, pk_m1] at a1
  refine ⟨g', ?_, a2, a3⟩
  rw [← LV_pn (by omega) a4]
  unfold f_X8_tell
  rw [O_8 w, bd_some, tl, bd2_some, O_8 w, bd_some, tf, bd2_some, show 30 - nI l = nI (30 - l) from pk_sub (a := 30) (by omega)]
  by_cases c : f ≤ 30 - l
  · rw [if_pos (nI_le c (by omega))]
    rw [Nat.min_eq_left c] at a1
    exact a1
  · rw [if_neg (nI_ge (by omega) (by omega))]
    rw [Nat.min_eq_right (by omega)] at a1
    exact a1
end Ref
