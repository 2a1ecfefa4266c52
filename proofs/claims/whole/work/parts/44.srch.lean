/-! the desk's planner -/
def Bs (D : Nat → Nat → Int32) (h : AH) : Prop := WF h ∧ ∀ q, q < 15 → hI h q = D q
theorem Bs_fr {D : Nat → Nat → Int32} {h h1 : AH} {S : List Nat} (b : Bs D h) (f : Fr h h1 S) (hS : ∀ k, k ∈ S → 15 ≤ k) : Bs D h1 := ⟨WF_fr f b.1, fun q hq => by rw [f.2.2.2.2 q (fun z => by have := hS q z; omega)]; exact b.2 q hq⟩
def DF (D : Nat → Nat → Int32) (t k l p : Nat) (gd : Nat → Prop) (G : Nat → Nat → Nat → Prop) (En : Nat → Nat → Prop) (fit : Int32) : Prop := ∀ i, l + i ≤ 29 → ∀ h, Bs D h → ∃ cl, f_X4_closedRapids h (some 1) (nI (l + i)) (nI k) = some (cl, h) ∧ (∀ h, Bs D h → ∀ x, x ≤ 14 → f_X4_leadsToEnd h (some 1) (nI x) (nI p) cl = some (bI (dB (En i x)), h)) ∧ ∀ h, Bs D h → ∃ T, f_X6_takenFrom h (some 11) (nI t) (nI (l + i)) = some (T, h) ∧ (∀ x, x < 32 → gd x → (bt (fit &&& (T ^^^ (-1))) x = true ↔ G i x x)) ∧ ∀ h, Bs D h → ∀ x, x ≤ 14 → ∃ Z, f_X4_campsAhead h (some 1) (nI x) (nI p) cl = some (Z, h) ∧ ∀ c, c < 32 → (bt (Z &&& (fit &&& (T ^^^ (-1)))) c = true ↔ c ≠ x ∧ G i x c)
def DX (D : Nat → Nat → Int32) (t nc k l p f mo : Nat) (gd : Nat → Prop) (G : Nat → Nat → Nat → Prop) (En : Nat → Nat → Prop) : Prop :=
  t < 10 ∧ nc ≤ 14 ∧ l ≤ 29 ∧ (1 ≤ f ∧ f ≤ 15) ∧ mo ≤ 2 ∧ D 13 (35 * t + 0) = nI k ∧ D 13 (35 * t + 1) = nI l ∧ D 13 (35 * t + 2) = nI p ∧ D 13 (35 * t + 3) = nI f ∧ D 13 (35 * t + 4) = nI mo ∧ (∀ i x c, G i x c → c < nc) ∧ (∀ i y x, G i y x → G i x x) ∧ (gd 14 ∧ ∀ i x c, gd x → G i x c → gd c) ∧
  ∀ h, Bs D h → ∃ fit, f_X4_campsFor h (some 1) (nI k) = some (fit, h) ∧ DF D t k l p gd G En fit
theorem RE_gd {G : Nat → Nat → Nat → Prop} {gd : Nat → Prop} {mo : Nat} (h : gd 14 ∧ ∀ i x c, gd x → G i x c → gd c) : ∀ i x u, RE G mo i x u → gd x := by
  intro i
  induction i with
  | zero => intro x u z; rw [z.1]; exact h.1
  | succ i ih => intro x u z; obtain ⟨y, v, z1, z2, -⟩ := z; exact h.2 _ _ _ (ih y v z1) z2
theorem ix17 (i u : Nat) : nI i * 3 + nI u = nI (3 * i + u) := by rw [show (3 : Int32) = nI 3 from rfl, pk_mul, nI_add, Nat.mul_comm]
theorem ix18 (i u : Nat) : nI i * 15 + nI u = nI (15 * i + u) := by rw [show (15 : Int32) = nI 15 from rfl, pk_mul, nI_add, Nat.mul_comm]
def AhOk (G : Nat → Nat → Nat → Prop) (mo : Nat) (h : AH) (j : Nat) : Prop := ∀ u, u < 3 → ∀ x, x < 32 → (bt (hI h 17 (3 * j + u)) x = true ↔ RE G mo j x u)
def LdOk (G : Nat → Nat → Nat → Prop) (mo : Nat) (h : AH) (j : Nat) : Prop := ∀ x, x ≤ 14 → (∃ u, RE G mo j x u) → ∀ c, c < 32 → (bt (hI h 18 (15 * j + x)) c = true ↔ c ≠ x ∧ G j x c)
section Srch
variable {h : AH} {D : Nat → Nat → Int32} {t nc k l p f mo : Nat} {gd : Nat → Prop} {G : Nat → Nat → Nat → Prop} {En : Nat → Nat → Prop}
theorem R15_1 (w : WF h) : gR h (some 15) 3 1 = some (some 16) := gR_w (q := 15) (ci := 3) (j := 1) w (by decide) rfl rfl
theorem R15_2 (w : WF h) : gR h (some 15) 3 2 = some (some 17) := gR_w (q := 15) (ci := 3) (j := 2) w (by decide) rfl rfl
theorem R15_3 (w : WF h) : gR h (some 15) 3 3 = some (some 18) := gR_w (q := 15) (ci := 3) (j := 3) w (by decide) rfl rfl
theorem O_15 (w : WF h) : isO h (some 15) 3 = some () := isO_w w (by decide) rfl
theorem O_1 (w : WF h) : isO h (some 1) 4 = some () := isO_w w (by decide) rfl
theorem O_11 (w : WF h) : isO h (some 11) 6 = some () := isO_w w (by decide) rfl
theorem g15 (w : WF h) (j : Nat) : gI h (some 15) 3 j = some (hI h 15 j) := gI_w w (by decide) rfl
theorem p15 (w : WF h) (j : Nat) (v : Int32) : pI h (some 15) 3 j v = some (sI h 15 (upd (hI h 15) j v)) := pI_w w (by decide) rfl
theorem l17 (w : WF h) {j : Nat} (hj : j < 48) : ldI h (some 17) (nI j) = some (hI h 17 j) := ldI_w w (by decide) rfl hj (by decide)
theorem l18 (w : WF h) {j : Nat} (hj : j < 225) : ldI h (some 18) (nI j) = some (hI h 18 j) := ldI_w w (by decide) rfl hj (by decide)
theorem s17 (w : WF h) {j : Nat} {v : Int32} (hj : j < 48) : stI h (some 17) (nI j) v = some (sI h 17 (upd (hI h 17) j v)) := stI_w w (by decide) rfl hj (by decide)
theorem s18 (w : WF h) {j : Nat} {v : Int32} (hj : j < 225) : stI h (some 18) (nI j) v = some (sI h 18 (upd (hI h 18) j v)) := stI_w w (by decide) rfl hj (by decide)
theorem places_sp (w : WF h) {i : Nat} (hi : i ≤ 15) : ∃ X, f_X3_placesAhead h (some 15) (nI i) = some (X, h) ∧ ∀ x, bt X x = true ↔ ∃ u, u < 3 ∧ bt (hI h 17 (3 * i + u)) x = true := by
  have lp : ∀ (m v F : Nat) (X : Int32), v + m = 3 → ∃ Y, g_X3_placesAhead_4 (F + m + 1) h (some 15) (nI i) X (nI v) = some (Y, h) ∧ ∀ x, (bt Y x = true ↔ bt X x = true ∨ ∃ u, v ≤ u ∧ u < 3 ∧ bt (hI h 17 (3 * i + u)) x = true) := by
    intro m
    induction m with
    | zero =>
      intro v F X hv
      refine ⟨X, ?_, fun x => ⟨Or.inl, fun z => z.elim id (fun ⟨u, a, b, _⟩ => by omega)⟩⟩
      rw [show F + 0 + 1 = F + 1 from rfl, g_X3_placesAhead_4, if_pos (show (3 : Int32) ≤ nI v from nI_le (a := 3) (by omega) (by omega))]
    | succ m ih =>
      intro v F X hv
      obtain ⟨Y, y1, y2⟩ := ih (v + 1) F (X ||| hI h 17 (3 * i + v)) (by omega)
      refine ⟨Y, ?_, fun x => (y2 x).trans ?_⟩
      · rw [g_X3_placesAhead_4, if_neg (show ¬ (3 : Int32) ≤ nI v from nI_ge (b := 3) (by omega) (by omega)), R15_2 w, bd_some, ix17, l17 w (by omega), bd_some, nI_1]
        exact y1
      · rw [bt_or, Bool.or_eq_true]
        constructor
        · rintro ((z | z) | ⟨u, a, b, c⟩)
          · exact Or.inl z
          · exact Or.inr ⟨v, Nat.le_refl _, by omega, z⟩
          · exact Or.inr ⟨u, by omega, b, c⟩
        · rintro (z | ⟨u, a, b, c⟩)
          · exact Or.inl (Or.inl z)
          · by_cases e : u = v
            · subst e; exact Or.inl (Or.inr c)
            · exact Or.inr ⟨u, by omega, b, c⟩
  obtain ⟨F, hF⟩ := NN_ge 3 (by omega)
  obtain ⟨Y, y1, y2⟩ := lp 3 0 F 0 rfl
  rw [← hF] at y1
  refine ⟨Y, y1, fun x => (y2 x).trans ?_⟩
  rw [bt_0]
  exact ⟨fun z => z.elim (fun q => absurd q (by decide)) (fun ⟨u, _, q⟩ => ⟨u, q⟩), fun ⟨u, q⟩ => Or.inr ⟨u, Nat.zero_le _, q⟩⟩
theorem places_re (w : WF h) {i : Nat} (hi : i ≤ 15) (hmo : mo ≤ 2) (A : AhOk G mo h i) : ∃ X, f_X3_placesAhead h (some 15) (nI i) = some (X, h) ∧ ∀ x, x < 32 → (bt X x = true ↔ ∃ u, RE G mo i x u) := by
  obtain ⟨X, x1, x2⟩ := places_sp w hi
  refine ⟨X, x1, fun x hx => (x2 x).trans ⟨fun ⟨u, a, b⟩ => ⟨u, (A u a x hx).mp b⟩, fun ⟨u, a⟩ => ?_⟩⟩
  have := RE_le _ _ _ a
  exact ⟨u, by omega, (A u (by omega) x hx).mpr a⟩
/-- who ends on a day -/
theorem enders_sp (b : Bs D h) {i : Nat} (hi : i ≤ 15) {cl : Int32} (hE : ∀ h, Bs D h → ∀ x, x ≤ 14 → f_X4_leadsToEnd h (some 1) (nI x) (nI p) cl = some (bI (dB (En i x)), h)) {P : Nat → Prop} (hP : ∃ X, f_X3_placesAhead h (some 15) (nI i) = some (X, h) ∧ ∀ x, x < 32 → (bt X x = true ↔ P x)) : ∃ h', f_X3_findEnders h (some 15) (some 1) (nI i) (nI p) cl = some h' ∧ Fr h h' [15] ∧ hI h' 15 0 = hI h 15 0 ∧ ∀ x, x < 32 → (bt (hI h' 15 4) x = true ↔ x ≤ 14 ∧ P x ∧ En i x) := by
  obtain ⟨X, x1, x2⟩ := hP
  have lp : ∀ (m x F : Nat) (h : AH), x + m = 15 → Bs D h → ∃ h', g_X3_findEnders_15 (F + m + 1) h (some 15) (some 1) (nI p) cl X (nI x) = some h' ∧ Fr h h' [15] ∧ hI h' 15 0 = hI h 15 0 ∧ ∀ y, y < 32 → (bt (hI h' 15 4) y = true ↔ bt (hI h 15 4) y = true ∨ (x ≤ y ∧ y < 15 ∧ (P y ∧ En i y))) := by
    intro m
    induction m with
    | zero =>
      intro x F h hx b
      refine ⟨h, ?_, Fr.rf _ _, rfl, fun y _ => ⟨Or.inl, fun z => z.elim id (fun ⟨a, b, _⟩ => by omega)⟩⟩
      rw [show F + 0 + 1 = F + 1 from rfl, g_X3_findEnders_15, if_pos (show (15 : Int32) ≤ nI x from nI_le (a := 15) (by omega) (by omega))]
    | succ m ih =>
      intro x F h hx b
      have w := b.1
      rw [g_X3_findEnders_15, if_neg (show ¬ (15 : Int32) ≤ nI x from nI_ge (b := 15) (by omega) (by omega)), e_holds X (by omega), bd2_some, nI_1]
      have skip : ¬ (P x ∧ En i x) → ∃ h', g_X3_findEnders_15 (F + (m + 1)) h (some 15) (some 1) (nI p) cl X (nI (x + 1)) = some h' ∧ Fr h h' [15] ∧ hI h' 15 0 = hI h 15 0 ∧ ∀ y, y < 32 → (bt (hI h' 15 4) y = true ↔ bt (hI h 15 4) y = true ∨ (x ≤ y ∧ y < 15 ∧ (P y ∧ En i y))) := by
        intro hno
        obtain ⟨h', a1, a2, a3, a4⟩ := ih (x + 1) F h (by omega) b
        exact ⟨h', a1, a2, a3, fun y hy => (a4 y hy).trans (bits_step (P := fun y => P y ∧ En i y) (by omega) ⟨Or.inl, fun z => z.elim id (fun e => absurd e.2 hno)⟩)⟩
      by_cases c1 : P x
      · rw [if_pos ((x2 x (by omega)).mpr c1), if_neg (by decide), O_1 w, bd_some, hE h b x (by omega), bd2_some]
        by_cases c2 : En i x
        · rw [dB_t c2, bI_t, if_neg (by decide), g15 w, bd_some, p15 w, bd_some]
          have f1 : Fr h (sI h 15 (upd (hI h 15) 4 (hI h 15 4 ||| (1 <<< (nI x &&& 31))))) [15] := Fr.sI h (by decide)
          obtain ⟨h', a1, a2, a3, a4⟩ := ih (x + 1) F _ (by omega) (Bs_fr b f1 (by decide))
          refine ⟨h', a1, f1.trans a2, by rw [a3, sI_eq, pk_un (by decide)], fun y hy => (a4 y hy).trans ?_⟩
          rw [sI_eq, pk_us]
          exact bits_step (P := fun y => P y ∧ En i y) (by omega) ((bt_set (by omega) y).trans ⟨fun z => z.imp id (fun e => ⟨e, c1, c2⟩), fun z => z.imp id (fun e => e.1)⟩)
        · rw [dB_f c2, bI_f, if_pos rfl]; exact skip (fun z => c2 z.2)
      · rw [if_neg (fun z => c1 ((x2 x (by omega)).mp z)), if_pos rfl]; exact skip (fun z => c1 z.1)
  obtain ⟨F, hF⟩ := NN_ge 15 (by omega)
  have f1 : Fr h (sI h 15 (upd (hI h 15) 4 0)) [15] := Fr.sI h (by decide)
  obtain ⟨h', a1, a2, a3, a4⟩ := lp 15 0 F _ rfl (Bs_fr b f1 (by decide))
  rw [← hF] at a1
  refine ⟨h', ?_, f1.trans a2, by rw [a3, sI_eq, pk_un (by decide)], fun y hy => (a4 y hy).trans ?_⟩
  · unfold f_X3_findEnders
    rw [O_15 b.1, bd_some, x1, bd2_some, p15 b.1, bd_some]
    exact a1
  · rw [sI_eq, pk_us, bt_0]
    exact ⟨fun z => z.elim (fun q => absurd q (by decide)) (fun ⟨_, q1, q2⟩ => ⟨by omega, q2⟩), fun ⟨q1, q2⟩ => Or.inr ⟨Nat.zero_le _, by omega, q2⟩⟩
/-- where a day leads -/
theorem leadsto_sp (b : Bs D h) {i : Nat} (hi : i < 15) {cl op : Int32} {Lq : Nat → Nat → Prop} (hA : ∀ h, Bs D h → ∀ x, x ≤ 14 → ∃ Z, f_X4_campsAhead h (some 1) (nI x) (nI p) cl = some (Z, h) ∧ ∀ c, c < 32 → (bt (Z &&& op) c = true ↔ Lq x c)) {P : Nat → Prop} (hP : ∃ X, f_X3_placesAhead h (some 15) (nI i) = some (X, h) ∧ ∀ x, x < 32 → (bt X x = true ↔ P x)) : ∃ h', f_X3_findLeads h (some 15) (some 1) (nI i) (nI p) cl op = some h' ∧ Fr h h' [18] ∧ (∀ j, (j < 15 * i ∨ 15 * i + 15 ≤ j) → hI h' 18 j = hI h 18 j) ∧ ∀ x, x ≤ 14 → P x → ∀ c, c < 32 → (bt (hI h' 18 (15 * i + x)) c = true ↔ Lq x c) := by
  obtain ⟨X, x1, x2⟩ := hP
  have lp : ∀ (m x F : Nat) (h : AH), x + m = 15 → Bs D h → ∃ h', g_X3_findLeads_10 (F + m + 1) h (some 15) (some 1) (nI i) (nI p) cl op X (nI x) = some h' ∧ Fr h h' [18] ∧ (∀ j, (j < 15 * i + x ∨ 15 * i + 15 ≤ j) → hI h' 18 j = hI h 18 j) ∧ ∀ y, x ≤ y → y ≤ 14 → P y → ∀ c, c < 32 → (bt (hI h' 18 (15 * i + y)) c = true ↔ Lq y c) := by
    intro m
    induction m with
    | zero =>
      intro x F h hx b
      refine ⟨h, ?_, Fr.rf _ _, fun j _ => rfl, fun y h1 h2 => by omega⟩
      rw [show F + 0 + 1 = F + 1 from rfl, g_X3_findLeads_10, if_pos (show (15 : Int32) ≤ nI x from nI_le (a := 15) (by omega) (by omega))]
    | succ m ih =>
      intro x F h hx b
      have w := b.1
      rw [g_X3_findLeads_10, if_neg (show ¬ (15 : Int32) ≤ nI x from nI_ge (b := 15) (by omega) (by omega)), R15_3 w, bd_some, e_holds X (by omega), bd2_some, nI_1, ix18]
      have fin : ∀ V : Int32, (P x → ∀ c, c < 32 → (bt V c = true ↔ Lq x c)) → ∃ h', g_X3_findLeads_10 (F + (m + 1)) (sI h 18 (upd (hI h 18) (15 * i + x) V)) (some 15) (some 1) (nI i) (nI p) cl op X (nI (x + 1)) = some h' ∧ Fr h h' [18] ∧ (∀ j, (j < 15 * i + x ∨ 15 * i + 15 ≤ j) → hI h' 18 j = hI h 18 j) ∧ ∀ y, x ≤ y → y ≤ 14 → P y → ∀ c, c < 32 → (bt (hI h' 18 (15 * i + y)) c = true ↔ Lq y c) := by
        intro V hV
        have f1 : Fr h (sI h 18 (upd (hI h 18) (15 * i + x) V)) [18] := Fr.sI h (by decide)
        obtain ⟨h', a1, a2, a3, a4⟩ := ih (x + 1) F _ (by omega) (Bs_fr b f1 (by decide))
        refine ⟨h', a1, f1.trans a2, fun j hj => by rw [a3 j (by omega), sI_eq, pk_un (by omega)], fun y h1 h2 h3 c hc => ?_⟩
        by_cases e : y = x
        · subst e; rw [a3 _ (by omega), sI_eq, pk_us]; exact hV h3 c hc
        · exact a4 y (by omega) h2 h3 c hc
      by_cases c1 : P x
      · obtain ⟨Z, z1, z2⟩ := hA h b x (by omega)
        rw [if_pos ((x2 x (by omega)).mpr c1), if_neg (by decide), O_1 w, bd_some, z1, bd2_some, s18 w (by omega), bd_some]
        exact fin _ (fun _ => z2)
      · rw [if_neg (fun z => c1 ((x2 x (by omega)).mp z)), if_pos rfl, s18 w (by omega), bd_some]
        exact fin _ (fun z => absurd z c1)
  obtain ⟨F, hF⟩ := NN_ge 15 (by omega)
  obtain ⟨h', a1, a2, a3, a4⟩ := lp 15 0 F h rfl b
  rw [← hF] at a1
  refine ⟨h', ?_, a2, a3, fun y hy => a4 y (Nat.zero_le _) hy⟩
  unfold f_X3_findLeads
  rw [O_15 b.1, bd_some, x1, bd2_some]
  exact a1
/-- the places of the next day -/
theorem spread_sp (w : WF h) {i : Nat} (hi : i < 15) (hmo : mo ≤ 2) {op : Int32} (hG : ∀ i x c, G i x c → c < 14) (hop : ∀ x u, RE G mo i x u → x < 32 → (bt op x = true ↔ G i x x)) (A : AhOk G mo h i) (L : LdOk G mo h i) (Z : ∀ u, u < 3 → hI h 17 (3 * (i + 1) + u) = 0) : ∃ h', f_X3_spread h (some 15) (nI i) (nI mo) op = some h' ∧ Fr h h' [17] ∧ (∀ j, (j < 3 * (i + 1) ∨ 3 * (i + 1) + 3 ≤ j) → hI h' 17 j = hI h 17 j) ∧ AhOk G mo h' (i + 1) := by
  have lp2 : ∀ (k3 : AH → Option Nat → Int32 → Int32 → Int32 → Int32 → Option AH) (h : AH), WF h → ∀ (u : Nat), u ≤ 2 → ∀ (fr : Int32) (m x F : Nat) (X : Int32), x + m = 15 → ∃ Y, g_X3_spread_28 k3 (F + m + 1) h (some 15) (nI i) (nI mo) op (nI u) fr X (nI x) = j_X3_spread_93 k3 h (some 15) (nI i) (nI mo) op (nI u) Y ∧ ∀ c, (bt Y c = true ↔ bt X c = true ∨ (∃ y, x ≤ y ∧ y < 15 ∧ bt fr y = true ∧ bt (hI h 18 (15 * i + y)) c = true) ∨ (0 < u ∧ bt (hI h 17 (3 * i + (u - 1))) c = true ∧ bt op c = true)) := by
    intro k3 h w u hu fr m
    induction m with
    | zero =>
      intro x F X hx
      rw [show F + 0 + 1 = F + 1 from rfl, g_X3_spread_28, if_pos (show (15 : Int32) ≤ nI x from nI_le (a := 15) (by omega) (by omega))]
      by_cases c : u = 0
      · rw [if_pos (by rw [c]; decide)]
        exact ⟨X, rfl, fun c => ⟨Or.inl, fun z => z.elim id (fun z => z.elim (fun ⟨y, a, b, _⟩ => by omega) (fun z => by omega))⟩⟩
      · rw [if_neg (nI_nle (by omega) (by omega)), R15_2 w, bd_some, ix17, show nI (3 * i + u) - 1 = nI (3 * i + (u - 1)) from by rw [show (1 : Int32) = nI 1 from rfl, pk_sub (by omega), show 3 * i + u - 1 = 3 * i + (u - 1) by omega], l17 w (by omega), bd_some]
        refine ⟨_, rfl, fun c => ?_⟩
        rw [bt_or, bt_and, Bool.or_eq_true, Bool.and_eq_true]
        exact ⟨fun z => z.imp id (fun q => Or.inr ⟨by omega, q⟩), fun z => z.imp id (fun z => z.elim (fun ⟨y, a, b, _⟩ => by omega) (fun q => q.2))⟩
    | succ m ih =>
      intro x F X hx
      rw [g_X3_spread_28, if_neg (show ¬ (15 : Int32) ≤ nI x from nI_ge (b := 15) (by omega) (by omega)), e_holds fr (by omega), bd2_some, nI_1]
      by_cases c : bt fr x = true
      · rw [if_pos c, if_neg (by decide), R15_3 w, bd_some, ix18, l18 w (by omega), bd_some]
        obtain ⟨Y, y1, y2⟩ := ih (x + 1) F (X ||| hI h 18 (15 * i + x)) (by omega)
        refine ⟨Y, y1, fun c' => (y2 c').trans ?_⟩
        rw [bt_or, Bool.or_eq_true]
        constructor
        · rintro ((z | z) | ⟨y, a, b, e⟩ | z)
          · exact Or.inl z
          · exact Or.inr (Or.inl ⟨x, Nat.le_refl _, by omega, c, z⟩)
          · exact Or.inr (Or.inl ⟨y, by omega, b, e⟩)
          · exact Or.inr (Or.inr z)
        · rintro (z | ⟨y, a, b, e1, e2⟩ | z)
          · exact Or.inl (Or.inl z)
          · by_cases e : y = x
            · subst e; exact Or.inl (Or.inr e2)
            · exact Or.inr (Or.inl ⟨y, by omega, b, e1, e2⟩)
          · exact Or.inr (Or.inr z)
      · rw [if_neg c, if_pos rfl]
        obtain ⟨Y, y1, y2⟩ := ih (x + 1) F X (by omega)
        refine ⟨Y, y1, fun c' => (y2 c').trans ?_⟩
        constructor
        · rintro (z | ⟨y, a, b, e⟩ | z)
          · exact Or.inl z
          · exact Or.inr (Or.inl ⟨y, by omega, b, e⟩)
          · exact Or.inr (Or.inr z)
        · rintro (z | ⟨y, a, b, e1, e2⟩ | z)
          · exact Or.inl z
          · by_cases e : y = x
            · subst e; exact absurd e1 c
            · exact Or.inr (Or.inl ⟨y, by omega, b, e1, e2⟩)
          · exact Or.inr (Or.inr z)
  have lp : ∀ (m u F : Nat) (h : AH), u + m = mo + 1 → WF h → AhOk G mo h i → LdOk G mo h i → (∀ v, u ≤ v → v < 3 → hI h 17 (3 * (i + 1) + v) = 0) → ∃ h', g_X3_spread_3 (F + m + 1) h (some 15) (nI i) (nI mo) op (nI u) = some h' ∧ Fr h h' [17] ∧ (∀ j, (j < 3 * (i + 1) + u ∨ 3 * (i + 1) + 3 ≤ j) → hI h' 17 j = hI h 17 j) ∧ ∀ v, u ≤ v → v < 3 → ∀ x, x < 32 → (bt (hI h' 17 (3 * (i + 1) + v)) x = true ↔ RE G mo (i + 1) x v) := by
    intro m
    induction m with
    | zero =>
      intro u F h hu w A L Z
      refine ⟨h, ?_, Fr.rf _ _, fun j _ => rfl, fun v h1 h2 x _ => ?_⟩
      · rw [show F + 0 + 1 = F + 1 from rfl, g_X3_spread_3, if_pos (nI_lt (by omega) (by omega))]
      · rw [Z v h1 h2, bt_0]
        exact ⟨fun z => absurd z (by decide), fun z => by have := RE_le _ _ _ z; omega⟩
    | succ m ih =>
      intro u F h hu w A L Z
      obtain ⟨F2, hF2⟩ := NN_ge 15 (by omega)
      obtain ⟨Y, y1, y2⟩ := lp2 (fun h x0 x1 x2 x3 x4 => g_X3_spread_3 (F + (m + 1)) h x0 x1 x2 x3 x4) h w u (by omega) (hI h 17 (3 * i + u)) 15 0 F2 0 rfl
      rw [← hF2] at y1
      have f1 : Fr h (sI h 17 (upd (hI h 17) (3 * (i + 1) + u) Y)) [17] := Fr.sI h (by decide)
      have hY : ∀ c, c < 32 → (bt Y c = true ↔ RE G mo (i + 1) c u) := by
        intro c hc
        rw [y2 c, bt_0]
        constructor
        · rintro (z | ⟨y, -, a, b, e⟩ | ⟨z1, z2, z3⟩)
          · exact absurd z (by decide)
          · have re := (A u (by omega) y (by omega)).mp b
            have := (L y (by omega) ⟨u, re⟩ c hc).mp e
            exact ⟨y, u, re, this.2, by rw [if_neg this.1, Nat.add_zero], by omega⟩
          · have re := (A (u - 1) (by omega) c hc).mp z2
            exact ⟨c, u - 1, re, (hop c (u - 1) re hc).mp z3, by rw [if_pos rfl]; omega, by omega⟩
        · rintro ⟨x, v, z1, z2, z3, z4⟩
          have xv : x < 14 ∨ x = 14 := RE_pl hG z1
          by_cases e : c = x
          · subst e
            rw [if_pos rfl] at z3
            refine Or.inr (Or.inr ⟨by omega, ?_, (hop c v z1 hc).mpr z2⟩)
            rw [show u - 1 = v by omega]; exact (A v (by omega) c hc).mpr z1
          · rw [if_neg e] at z3
            have : v = u := by omega
            subst this
            exact Or.inr (Or.inl ⟨x, Nat.zero_le _, by omega, (A v (by omega) x (by omega)).mpr z1, (L x (by omega) ⟨v, z1⟩ c hc).mpr ⟨e, z2⟩⟩)
      obtain ⟨h', a1, a2, a3, a4⟩ := ih (u + 1) F (sI h 17 (upd (hI h 17) (3 * (i + 1) + u) Y)) (by omega) ((WF_sI _ _ _).mpr w) (fun v hv x hx => by rw [sI_eq, pk_un (by omega)]; exact A v hv x hx) (fun x hx hr c hc => by rw [sI_ne (by decide)]; exact L x hx hr c hc) (fun v h1 h2 => by rw [sI_eq, pk_un (by omega)]; exact Z v (by omega) h2)
      refine ⟨h', ?_, f1.trans a2, fun j hj => by rw [a3 j (by omega), sI_eq, pk_un (by omega)], fun v h1 h2 x hx => ?_⟩
      · rw [g_X3_spread_3, if_neg (nI_nlt (by omega) (by omega)), R15_2 w, bd_some, ix17, l17 w (by omega), bd_some]
        refine Eq.trans y1 ?_
        unfold j_X3_spread_93
        rw [R15_2 w, bd_some, nI_1, ix17, s17 w (by omega), bd_some, nI_1]
        exact a1
      · by_cases e : v = u
        · subst e; rw [a3 _ (by omega), sI_eq, pk_us]; exact hY x hx
        · exact a4 v (by omega) h2 x hx
  obtain ⟨F, hF⟩ := NN_ge (mo + 1) (by omega)
  obtain ⟨h', a1, a2, a3, a4⟩ := lp (mo + 1) 0 F h (by omega) w A L (fun v _ hv => Z v hv)
  rw [← hF] at a1
  exact ⟨h', a1, a2, a3, fun v hv x hx => a4 v (Nat.zero_le _) hv x hx⟩
end Srch
