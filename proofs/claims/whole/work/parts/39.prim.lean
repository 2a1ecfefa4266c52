/-! what the planners ask: closed rapids, miles, camps ahead, camps taken -/
noncomputable def dB (P : Prop) : Bool := @decide P (Classical.propDecidable P)
theorem dB_iff {P : Prop} : dB P = true ↔ P := @decide_eq_true_iff P (Classical.propDecidable P)
theorem dB_t {P : Prop} (h : P) : dB P = true := dB_iff.mpr h
theorem dB_f {P : Prop} (h : ¬ P) : dB P = false := Bool.eq_false_iff.mpr (fun z => h (dB_iff.mp z))
def bI (b : Bool) : Int32 := if b = true then 1 else 0
theorem bI_t : bI true = 1 := rfl
theorem bI_f : bI false = 0 := rfl
theorem bt_set {X : Int32} {i : Nat} (hi : i < 32) (r : Nat) : bt (X ||| (1 <<< (nI i &&& 31))) r = true ↔ bt X r = true ∨ r = i := by
  rw [bt_or, bt_one hi, Bool.or_eq_true, decide_eq_true_eq]
  exact ⟨fun z => z.imp id Eq.symm, fun z => z.imp id Eq.symm⟩
theorem bits_step {B B' : Prop} {i n r : Nat} {P : Nat → Prop} (hi : i < n) (hB : B' ↔ B ∨ (r = i ∧ P i)) : (B' ∨ (i + 1 ≤ r ∧ r < n ∧ P r)) ↔ (B ∨ (i ≤ r ∧ r < n ∧ P r)) := by
  constructor
  · rintro (z | ⟨z1, z2, z3⟩)
    · rcases hB.mp z with z | ⟨rfl, z⟩
      · exact Or.inl z
      · exact Or.inr ⟨Nat.le_refl _, hi, z⟩
    · exact Or.inr ⟨by omega, z2, z3⟩
  · rintro (z | ⟨z1, z2, z3⟩)
    · exact Or.inl (hB.mpr (Or.inl z))
    · by_cases e : r = i
      · subst e; exact Or.inl (hB.mpr (Or.inr ⟨rfl, z3⟩))
      · exact Or.inr ⟨by omega, z2, z3⟩
/-- the first hour, counted -/
def fh (N : Nat → Int32) (m s d : Nat) (lst b : Int32) : Nat → Nat → Int32
  | 0, _ => -1
  | k + 1, i => if win (N (wi m s d i)) lst b = 0 then fh N m s d lst b k (i + 1) else nI i
def Rv (h : AH) (nc nr E s : Nat) (M sm mr ma mb : Nat → Nat) (WV : Nat → Int32) : Prop := nc ≤ 14 ∧ nr ≤ 10 ∧ (1 ≤ E ∧ E ≤ 250) ∧ (1 ≤ s ∧ s ≤ 9) ∧ hI h 2 0 = nI E ∧ hI h 2 1 = nI s ∧ hI h 3 0 = nI nc ∧ hI h 3 1 = nI nr ∧ (∀ c, c < nc → (1 ≤ M c ∧ M c ≤ 249) ∧ sm c ≤ 1 ∧ hI h 5 c = nI (M c) ∧ hI h 6 c = nI (sm c)) ∧ (∀ r, r < nr → (1 ≤ mr r ∧ mr r ≤ 249) ∧ hI h 7 r = nI (mr r) ∧ hI h 8 r = nI (ma r) ∧ hI h 9 r = nI (mb r)) ∧ ∀ q, q < 120 → hI h 4 q = WV q
def Rm (g : AH) (nc nr E s : Nat) (M sm mr ma mb : Nat → Nat) (WV : Nat → Int32) : Prop := nc ≤ 14 ∧ nr ≤ 10 ∧ (1 ≤ E ∧ E ≤ 250) ∧ (1 ≤ s ∧ s ≤ 9) ∧ hI g 75 0 = nI E ∧ hI g 75 1 = nI s ∧ hI g 75 2 = nI nc ∧ hI g 75 3 = nI nr ∧ (∀ c, c < nc → (1 ≤ M c ∧ M c ≤ 249) ∧ sm c ≤ 1 ∧ hI g 75 (8 + 2 * c) = nI (M c) ∧ hI g 75 (8 + 2 * c + 1) = nI (sm c)) ∧ (∀ r, r < nr → (1 ≤ mr r ∧ mr r ≤ 249) ∧ hI g 75 (36 + 3 * r) = nI (mr r) ∧ hI g 75 (36 + 3 * r + 1) = nI (ma r) ∧ hI g 75 (36 + 3 * r + 2) = nI (mb r)) ∧ ∀ q, q < 120 → hI g 75 (74 + q) = WV q
/-- a rapid that a kind can't run on a day -/
def CLp (s k : Nat) (mr ma mb : Nat → Nat) (WV : Nat → Int32) (d r : Nat) : Prop := fh WV (mr r) s d (if ¬ nI k = 3 then nI (ma r) - 0 else nI (ma r) - 50) (nI (mb r)) 10 8 < 0
def ml (nc : Nat) (M : Nat → Nat) (x : Nat) : Nat := if x < nc then M x else 0
section Prim
variable {h g : AH} {nc nr E s : Nat} {M sm mr ma mb : Nat → Nat} {WV : Nat → Int32}
theorem ml_le (R : Rv h nc nr E s M sm mr ma mb WV) (x : Nat) : ml nc M x ≤ 249 := by
  unfold ml
  split
  · rename_i c; exact ((R.2.2.2.2.2.2.2.2.1 x c).1).2
  · omega
theorem fh7 (w : WF h) (R : Rv h nc nr E s M sm mr ma mb WV) {q d : Nat} (hq : q < nr) (hd : d ≤ 29) (lst : Int32) : ∀ (k i F : Nat), i + k = 18 → g_X4_firstHour_24 (F + k + 1) h (some 1) (nI q) (nI d) lst (nI i) = some (fh WV (mr q) s d lst (nI (mb q)) k i, h) := by
  obtain ⟨r1, r2, r3, r4, r5, r6, r7, r8, r9, r10, r11⟩ := R
  obtain ⟨m1, m2, m3, m4⟩ := r10 q hq
  have k7 : ldI h (some 7) (nI q) = some (nI (mr q)) := by rw [← m2]; exact ldI_w w (by decide) rfl (by show q < 10; omega) (by decide)
  have k9 : ldI h (some 9) (nI q) = some (nI (mb q)) := by rw [← m4]; exact ldI_w w (by decide) rfl (by show q < 10; omega) (by decide)
  intro k
  induction k with
  | zero =>
    intro i F hi
    have c : (17 : Int32) < nI i := nI_lt (a := 17) (by omega) (by omega)
    rw [show F + 0 + 1 = F + 1 from rfl, g_X4_firstHour_24, if_pos c]; rfl
  | succ k ih =>
    intro i F hi
    have c : ¬ (17 : Int32) < nI i := nI_nlt (a := 17) (by omega) (by omega)
    rw [g_X4_firstHour_24, if_neg c, gR_w (q := 1) (ci := 4) (j := 5) w (by decide) rfl rfl, bd_some, show tR 1 5 = some 7 from rfl, k7, bd_some, isO_w (q := 1) (ci := 4) w (by decide) rfl, bd_some, e4_arriving w r4.1 r4.2 r6 (by omega) hd (by omega), bd2_some, gR_w (q := 1) (ci := 4) (j := 7) w (by decide) rfl rfl, bd_some, show tR 1 7 = some 9 from rfl, k9, bd_some, e7_within, bd2_some, r11 _ (wi_lt hd (by omega)), nI_1]
    unfold fh
    by_cases cw : win (WV (wi (mr q) s d i)) lst (nI (mb q)) = 0
    · rw [if_pos cw, if_pos cw]; exact ih (i + 1) F (by omega)
    · rw [if_neg cw, if_neg cw]
theorem fh8 (w : WF g) (R : Rm g nc nr E s M sm mr ma mb WV) {q d : Nat} (hq : q < nr) (hd : d ≤ 29) (lst : Int32) : ∀ (k i F : Nat), i + k = 18 → g_X8_hourOf_31 (F + k + 1) g (some 74) (nI q) (nI d) lst (nI i) = some (fh WV (mr q) s d lst (nI (mb q)) k i, g) := by
  obtain ⟨r1, r2, r3, r4, r5, r6, r7, r8, r9, r10, r11⟩ := R
  obtain ⟨m1, m2, m3, m4⟩ := r10 q hq
  have x1 : 36 + 3 * nI q = nI (36 + 3 * q) := by rw [show (3 : Int32) = nI 3 from rfl, show (36 : Int32) = nI 36 from rfl, pk_mul, nI_add]
  have n0 : ldI g (some 75) (nI (36 + 3 * q)) = some (nI (mr q)) := by rw [← m2]; exact q75 w (by omega)
  have n2 : ldI g (some 75) (nI (36 + 3 * q) + 2) = some (nI (mb q)) := by rw [← m4, show nI (36 + 3 * q) + 2 = nI (36 + 3 * q + 2) from nI_add _ 2]; exact q75 w (by omega)
  intro k
  induction k with
  | zero =>
    intro i F hi
    have c : (17 : Int32) < nI i := nI_lt (a := 17) (by omega) (by omega)
    rw [show F + 0 + 1 = F + 1 from rfl, g_X8_hourOf_31, if_pos c]; rfl
  | succ k ih =>
    intro i F hi
    have c : ¬ (17 : Int32) < nI i := nI_nlt (a := 17) (by omega) (by omega)
    rw [g_X8_hourOf_31, if_neg c, gR_w (q := 74) (ci := 8) (j := 0) w (by decide) rfl rfl, bd_some, show tR 74 0 = some 75 from rfl, x1, n0, bd_some, O_8 w, bd_some, e8_waterOf w r4.1 r4.2 r6 (by omega) hd (by omega), bd2_some, gR_w (q := 74) (ci := 8) (j := 0) w (by decide) rfl rfl, bd_some, show tR 74 0 = some 75 from rfl, n2, bd_some, e8_isIn, bd2_some, r11 _ (wi_lt hd (by omega)), nI_1]
    unfold fh
    by_cases cw : win (WV (wi (mr q) s d i)) lst (nI (mb q)) = 0
    · rw [if_pos cw, if_pos cw]; exact ih (i + 1) F (by omega)
    · rw [if_neg cw, if_neg cw]
theorem first7 (w : WF h) (R : Rv h nc nr E s M sm mr ma mb WV) {q d k : Nat} (hq : q < nr) (hd : d ≤ 29) : ∃ v, f_X4_firstHour h (some 1) (nI q) (nI d) (nI k) = some (v, h) ∧ (v < 0 ↔ CLp s k mr ma mb WV d q) := by
  obtain ⟨F, hF⟩ := NN_ge 10 (by omega)
  refine ⟨_, ?_, Iff.rfl⟩
  have k8 : ldI h (some 8) (nI q) = some (nI (ma q)) := by rw [← (R.2.2.2.2.2.2.2.2.2.1 q hq).2.2.1]; exact ldI_w w (by decide) rfl (by have := R.2.1; show q < 10; omega) (by decide)
  unfold f_X4_firstHour j_X4_firstHour_17
  rw [gR_w (q := 1) (ci := 4) (j := 6) w (by decide) rfl rfl, bd_some, show tR 1 6 = some 8 from rfl, k8, bd_some, hF]
  by_cases c : ¬ nI k = 3
  · rw [if_pos c, if_pos c]; exact fh7 w R hq hd _ 10 8 F rfl
  · rw [if_neg c, if_neg c]; exact fh7 w R hq hd _ 10 8 F rfl
theorem first8 (w : WF g) (R : Rm g nc nr E s M sm mr ma mb WV) {q d k : Nat} (hq : q < nr) (hd : d ≤ 29) : ∃ v, f_X8_hourOf g (some 74) (nI q) (nI d) (nI k) = some (v, g) ∧ (v < 0 ↔ CLp s k mr ma mb WV d q) := by
  obtain ⟨F, hF⟩ := NN_ge 10 (by omega)
  refine ⟨_, ?_, Iff.rfl⟩
  have hr := R.2.1
  have x1 : 36 + 3 * nI q + 1 = nI (36 + 3 * q + 1) := by rw [show (3 : Int32) = nI 3 from rfl, show (36 : Int32) = nI 36 from rfl, pk_mul, nI_add, nI_1]
  have n1 : ldI g (some 75) (nI (36 + 3 * q + 1)) = some (nI (ma q)) := by rw [← (R.2.2.2.2.2.2.2.2.2.1 q hq).2.2.1]; exact q75 w (by omega)
  unfold f_X8_hourOf j_X8_hourOf_24
  rw [gR_w (q := 74) (ci := 8) (j := 0) w (by decide) rfl rfl, bd_some, show tR 74 0 = some 75 from rfl, x1, n1, bd_some, hF]
  by_cases c : ¬ nI k = 3
  · rw [if_pos c, if_pos c]; exact fh8 w R hq hd _ 10 8 F rfl
  · rw [if_neg c, if_neg c]; exact fh8 w R hq hd _ 10 8 F rfl
/-- the closed rapids of a day -/
theorem closed_sp (w : WF h) (R : Rv h nc nr E s M sm mr ma mb WV) {d k : Nat} (hd : d ≤ 29) : ∃ X, f_X4_closedRapids h (some 1) (nI d) (nI k) = some (X, h) ∧ ∀ r, r < 32 → (bt X r = true ↔ r < nr ∧ CLp s k mr ma mb WV d r) := by
  have hr := R.2.1
  have ln : ldI h (some 3) 1 = some (nI nr) := by rw [← R.2.2.2.2.2.2.2.1]; exact ldI_w (i := 1) w (by decide) rfl (by decide) (by decide)
  have lp : ∀ (m i F : Nat) (X : Int32), i + m = nr → ∃ Y, g_X4_closedRapids_5 (F + m + 1) h (some 1) (nI d) (nI k) X (nI i) = some (Y, h) ∧ ∀ r, r < 32 → (bt Y r = true ↔ bt X r = true ∨ (i ≤ r ∧ r < nr ∧ CLp s k mr ma mb WV d r)) := by
    intro m
    induction m with
    | zero =>
      intro i F X hi
      have c1 : nI nr ≤ nI i := nI_le (by omega) (by omega)
      refine ⟨X, ?_, fun r _ => ⟨Or.inl, fun z => z.elim id (fun ⟨a, b, _⟩ => by omega)⟩⟩
      rw [show F + 0 + 1 = F + 1 from rfl, g_X4_closedRapids_5, gR_w (q := 1) (ci := 4) (j := 1) w (by decide) rfl rfl, bd_some, show tR 1 1 = some 3 from rfl, ln, bd_some, if_pos c1]
    | succ m ih =>
      intro i F X hi
      have c1 : ¬ nI nr ≤ nI i := nI_ge (by omega) (by omega)
      obtain ⟨v, v1, v2⟩ := first7 (k := k) w R (q := i) (d := d) (by omega) hd
      rw [g_X4_closedRapids_5, gR_w (q := 1) (ci := 4) (j := 1) w (by decide) rfl rfl, bd_some, show tR 1 1 = some 3 from rfl, ln, bd_some, if_neg c1, isO_w (q := 1) (ci := 4) w (by decide) rfl, bd_some, v1, bd2_some, nI_1]
      by_cases c : v < 0
      · rw [if_neg (Int32.not_le.mpr c)]
        obtain ⟨Y, y1, y2⟩ := ih (i + 1) F (X ||| (1 <<< (nI i &&& 31))) (by omega)
        exact ⟨Y, y1, fun r hr2 => (y2 r hr2).trans (bits_step (P := CLp s k mr ma mb WV d) (by omega) ((bt_set (by omega) r).trans ⟨fun z => z.imp id (fun e => ⟨e, v2.mp c⟩), fun z => z.imp id (fun e => e.1)⟩))⟩
      · rw [if_pos (Int32.not_lt.mp c)]
        obtain ⟨Y, y1, y2⟩ := ih (i + 1) F X (by omega)
        exact ⟨Y, y1, fun r hr2 => (y2 r hr2).trans (bits_step (P := CLp s k mr ma mb WV d) (by omega) ⟨Or.inl, fun z => z.elim id (fun e => absurd (v2.mpr e.2) c)⟩)⟩
  obtain ⟨F, hF⟩ := NN_ge nr (by omega)
  obtain ⟨Y, y1, y2⟩ := lp nr 0 F 0 (by omega)
  rw [← hF] at y1
  refine ⟨Y, y1, fun r hr2 => (y2 r hr2).trans ?_⟩
  rw [bt_0]
  exact ⟨fun z => z.elim (fun q => absurd q (by decide)) (fun q => q.2), fun z => Or.inr ⟨Nat.zero_le _, z⟩⟩
/-- the next closed rapid behind a mile -/
theorem next_sp (w : WF h) (R : Rv h nc nr E s M sm mr ma mb WV) {a : Nat} (ha : a ≤ 250) {X : Int32} {Q : Nat → Prop} (hX : ∀ r, r < nr → (bt X r = true ↔ Q r)) : ∃ v : Nat, f_X4_nextClosed h (some 1) (nI a) X = some (nI v, h) ∧ 1 ≤ v ∧ v ≤ 251 ∧ (∀ r, r < nr → Q r → a < mr r → v ≤ mr r) ∧ (v = 251 ∨ ∃ r, r < nr ∧ Q r ∧ a < mr r ∧ v = mr r) := by
  obtain ⟨r1, r2, r3, r4, r5, r6, r7, r8, r9, r10, r11⟩ := R
  have ln : ldI h (some 3) 1 = some (nI nr) := by rw [← r8]; exact ldI_w (i := 1) w (by decide) rfl (by decide) (by decide)
  have lp : ∀ (m i F u : Nat), i + m = nr → 1 ≤ u → u ≤ 251 → (∀ r, r < i → Q r → a < mr r → u ≤ mr r) → (u = 251 ∨ ∃ r, r < nr ∧ Q r ∧ a < mr r ∧ u = mr r) → ∃ v : Nat, g_X4_nextClosed_7 (F + m + 1) h (some 1) (nI a) X (nI u) (nI i) = some (nI v, h) ∧ 1 ≤ v ∧ v ≤ 251 ∧ (∀ r, r < nr → Q r → a < mr r → v ≤ mr r) ∧ (v = 251 ∨ ∃ r, r < nr ∧ Q r ∧ a < mr r ∧ v = mr r) := by
    intro m
    induction m with
    | zero =>
      intro i F u hi h1 h2 h3 h4
      have c1 : nI nr ≤ nI i := nI_le (by omega) (by omega)
      refine ⟨u, ?_, h1, h2, fun r hr => h3 r (by omega), h4⟩
      rw [show F + 0 + 1 = F + 1 from rfl, g_X4_nextClosed_7, gR_w (q := 1) (ci := 4) (j := 1) w (by decide) rfl rfl, bd_some, show tR 1 1 = some 3 from rfl, ln, bd_some, if_pos c1]
    | succ m ih =>
      intro i F u hi h1 h2 h3 h4
      have c1 : ¬ nI nr ≤ nI i := nI_ge (by omega) (by omega)
      obtain ⟨m1, m2, -, -⟩ := r10 i (by omega)
      have k7 : ldI h (some 7) (nI i) = some (nI (mr i)) := by rw [← m2]; exact ldI_w w (by decide) rfl (by show i < 10; omega) (by decide)
      rw [g_X4_nextClosed_7, gR_w (q := 1) (ci := 4) (j := 1) w (by decide) rfl rfl, bd_some, show tR 1 1 = some 3 from rfl, ln, bd_some, if_neg c1, e_holds X (by omega), bd2_some, nI_1]
      by_cases cb : bt X i = true
      · rw [if_pos cb, if_neg (show ¬ (1 : Int32) = 0 by decide), gR_w (q := 1) (ci := 4) (j := 5) w (by decide) rfl rfl, bd_some, show tR 1 5 = some 7 from rfl, k7, bd_some, bd_some, k7, bd_some]
        by_cases ca : mr i ≤ a
        · rw [if_pos (nI_le ca (by omega))]
          exact ih (i + 1) F u (by omega) h1 h2 (fun r hr q1 q2 => by
            by_cases e : r = i
            · subst e; omega
            · exact h3 r (by omega) q1 q2) h4
        · rw [if_neg (nI_ge (by omega) (by omega))]
          have e9 : (if nI (mr i) < nI u then nI (mr i) else nI u) = nI (min (mr i) u) := by
            by_cases c : mr i < u
            · rw [if_pos (nI_lt c (by omega)), Nat.min_eq_left (by omega)]
            · rw [if_neg (nI_nlt (by omega) (by omega)), Nat.min_eq_right (by omega)]
          rw [e9]
          refine ih (i + 1) F (min (mr i) u) (by omega) (by omega) (by omega) (fun r hr q1 q2 => ?_) ?_
          · by_cases e : r = i
            · subst e; omega
            · have := h3 r (by omega) q1 q2; omega
          · by_cases c : mr i < u
            · exact Or.inr ⟨i, by omega, (hX i (by omega)).mp cb, by omega, by omega⟩
            · rw [Nat.min_eq_right (by omega)]; exact h4
      · rw [if_neg cb, if_pos rfl]
        exact ih (i + 1) F u (by omega) h1 h2 (fun r hr q1 q2 => by
            by_cases e : r = i
            · subst e; exact absurd ((hX r (by omega)).mpr q1) cb
            · exact h3 r (by omega) q1 q2) h4
  obtain ⟨F, hF⟩ := NN_ge nr (by omega)
  obtain ⟨v, v1, v2⟩ := lp nr 0 F 251 (by omega) (by omega) (by omega) (fun r hr => by omega) (Or.inl rfl)
  rw [← hF] at v1
  exact ⟨v, v1, v2⟩
theorem mile7 (w : WF h) (R : Rv h nc nr E s M sm mr ma mb WV) {x : Nat} (hx : x ≤ 14) : f_X4_mileOf h (some 1) (nI x) = some (nI (ml nc M x), h) := by
  obtain ⟨r1, r2, r3, r4, r5, r6, r7, r8, r9, r10, r11⟩ := R
  have ln : ldI h (some 3) 0 = some (nI nc) := by rw [← r7]; exact ldI_w (i := 0) w (by decide) rfl (by decide) (by decide)
  unfold f_X4_mileOf ml
  rw [gR_w (q := 1) (ci := 4) (j := 1) w (by decide) rfl rfl, bd_some, show tR 1 1 = some 3 from rfl, ln, bd_some]
  by_cases c : x < nc
  · have k5 : ldI h (some 5) (nI x) = some (nI (M x)) := by rw [← (r9 x c).2.2.1]; exact ldI_w w (by decide) rfl (by show x < 14; omega) (by decide)
    rw [if_neg (nI_ge c (by omega)), if_pos c, gR_w (q := 1) (ci := 4) (j := 3) w (by decide) rfl rfl, bd_some, show tR 1 3 = some 5 from rfl, k5, bd_some]
  · rw [if_pos (nI_le (by omega) (by omega)), if_neg c]; rfl
/-- the camps that a kind may use -/
theorem camps_sp (w : WF h) (R : Rv h nc nr E s M sm mr ma mb WV) {k : Nat} (hk : k ≤ 3) : ∃ X, f_X4_campsFor h (some 1) (nI k) = some (X, h) ∧ ∀ c, c < 32 → (bt X c = true ↔ c < nc ∧ M c < E ∧ ¬ (k = 2 ∧ sm c = 1)) := by
  obtain ⟨r1, r2, r3, r4, r5, r6, r7, r8, r9, r10, r11⟩ := R
  have ln : ldI h (some 3) 0 = some (nI nc) := by rw [← r7]; exact ldI_w (i := 0) w (by decide) rfl (by decide) (by decide)
  have le : ldI h (some 2) 0 = some (nI E) := by rw [← r5]; exact ldI_w (i := 0) w (by decide) rfl (by decide) (by decide)
  have lp : ∀ (m i F : Nat) (X : Int32), i + m = nc → ∃ Y, g_X4_campsFor_4 (F + m + 1) h (some 1) (nI k) X (nI i) = some (Y, h) ∧ ∀ c, c < 32 → (bt Y c = true ↔ bt X c = true ∨ (i ≤ c ∧ c < nc ∧ (M c < E ∧ ¬ (k = 2 ∧ sm c = 1)))) := by
    intro m
    induction m with
    | zero =>
      intro i F X hi
      have c1 : nI nc ≤ nI i := nI_le (by omega) (by omega)
      refine ⟨X, ?_, fun r _ => ⟨Or.inl, fun z => z.elim id (fun ⟨a, b, _⟩ => by omega)⟩⟩
      rw [show F + 0 + 1 = F + 1 from rfl, g_X4_campsFor_4, gR_w (q := 1) (ci := 4) (j := 1) w (by decide) rfl rfl, bd_some, show tR 1 1 = some 3 from rfl, ln, bd_some, if_pos c1]
    | succ m ih =>
      intro i F X hi
      have c1 : ¬ nI nc ≤ nI i := nI_ge (by omega) (by omega)
      obtain ⟨m1, m2, m3, m4⟩ := r9 i (by omega)
      have k5 : ldI h (some 5) (nI i) = some (nI (M i)) := by rw [← m3]; exact ldI_w w (by decide) rfl (by show i < 14; omega) (by decide)
      have k6 : ldZ h (some 6) (nI i) = some (nI (sm i)) := by rw [← m4]; exact ldZ_w w (by decide) rfl (by show i < 14; omega) (by decide)
      have st : g_X4_campsFor_4 (F + (m + 1) + 1) h (some 1) (nI k) X (nI i) = if M i < E ∧ ¬ (k = 2 ∧ sm i = 1) then g_X4_campsFor_4 (F + m + 1) h (some 1) (nI k) (X ||| (1 <<< (nI i &&& 31))) (nI (i + 1)) else g_X4_campsFor_4 (F + m + 1) h (some 1) (nI k) X (nI (i + 1)) := by
        rw [g_X4_campsFor_4, gR_w (q := 1) (ci := 4) (j := 1) w (by decide) rfl rfl, bd_some, show tR 1 1 = some 3 from rfl, ln, bd_some, if_neg c1, gR_w (q := 1) (ci := 4) (j := 3) w (by decide) rfl rfl, bd_some, show tR 1 3 = some 5 from rfl, k5, bd_some, gR_w (q := 1) (ci := 4) (j := 0) w (by decide) rfl rfl, bd_some, show tR 1 0 = some 2 from rfl, le, bd_some]
        unfold j_X4_campsFor_43
        rw [nI_1]
        by_cases ca : M i < E
        · rw [if_neg (nI_ge ca (by omega))]
          by_cases ck : k = 2
          · rw [if_neg (fun q => q (by rw [ck]; rfl)), gR_w (q := 1) (ci := 4) (j := 4) w (by decide) rfl rfl, bd_some, show tR 1 4 = some 6 from rfl, k6, bd_some]
            by_cases cs : sm i = 1
            · rw [if_pos (by rw [cs]; decide), if_neg (fun q => q.2 ⟨ck, cs⟩)]; rfl
            · have : sm i = 0 := by omega
              rw [if_neg (fun q => q (by rw [this]; rfl)), if_pos ⟨ca, fun q => cs q.2⟩]; rfl
          · have : ¬ nI k = 2 := fun z => ck ((nI_eq (b := 2) (by omega) (by omega)).mp z)
            rw [if_pos this, if_pos ⟨ca, fun q => ck q.1⟩]; rfl
        · rw [if_pos (nI_le (by omega) (by omega)), if_neg (fun q => ca q.1)]; rfl
      rw [st]
      by_cases c : M i < E ∧ ¬ (k = 2 ∧ sm i = 1)
      · rw [if_pos c]
        obtain ⟨Y, y1, y2⟩ := ih (i + 1) F (X ||| (1 <<< (nI i &&& 31))) (by omega)
        exact ⟨Y, y1, fun r hr2 => (y2 r hr2).trans (bits_step (P := fun c => M c < E ∧ ¬ (k = 2 ∧ sm c = 1)) (by omega) ((bt_set (by omega) r).trans ⟨fun z => z.imp id (fun e => ⟨e, c⟩), fun z => z.imp id (fun e => e.1)⟩))⟩
      · rw [if_neg c]
        obtain ⟨Y, y1, y2⟩ := ih (i + 1) F X (by omega)
        exact ⟨Y, y1, fun r hr2 => (y2 r hr2).trans (bits_step (P := fun c => M c < E ∧ ¬ (k = 2 ∧ sm c = 1)) (by omega) ⟨Or.inl, fun z => z.elim id (fun e => absurd e.2 c)⟩)⟩
  obtain ⟨F, hF⟩ := NN_ge nc (by omega)
  obtain ⟨Y, y1, y2⟩ := lp nc 0 F 0 (by omega)
  rw [← hF] at y1
  refine ⟨Y, y1, fun r hr2 => (y2 r hr2).trans ?_⟩
  rw [bt_0]
  exact ⟨fun z => z.elim (fun q => absurd q (by decide)) (fun q => q.2), fun z => Or.inr ⟨Nat.zero_le _, z⟩⟩
/-- open between two miles -/
def opn (nr : Nat) (mr : Nat → Nat) (Q : Nat → Prop) (a b : Nat) : Prop := ∀ r, r < nr → mr r ≤ a ∨ b < mr r ∨ ¬ Q r
theorem next_opn {nr : Nat} {mr : Nat → Nat} {Q : Nat → Prop} {a v b : Nat} (h2 : ∀ r, r < nr → Q r → a < mr r → v ≤ mr r) (h3 : v = 251 ∨ ∃ r, r < nr ∧ Q r ∧ a < mr r ∧ v = mr r) (hb : b < 251) : b < v ↔ opn nr mr Q a b := by
  constructor
  · intro hb r hr
    by_cases c1 : mr r ≤ a
    · exact Or.inl c1
    by_cases c2 : Q r
    · exact Or.inr (Or.inl (by have := h2 r hr c2 (by omega); omega))
    · exact Or.inr (Or.inr c2)
  · intro ho
    rcases h3 with rfl | ⟨r, hr, q1, q2, rfl⟩
    · exact hb
    · rcases ho r hr with z | z | z
      · omega
      · exact z
      · exact absurd q1 z
/-- the camps ahead -/
theorem ahead_sp (w : WF h) (R : Rv h nc nr E s M sm mr ma mb WV) {x p : Nat} (hx : x ≤ 14) (hp : p ≤ 60) {X : Int32} {Q : Nat → Prop} (hX : ∀ r, r < nr → (bt X r = true ↔ Q r)) : ∃ Y, f_X4_campsAhead h (some 1) (nI x) (nI p) X = some (Y, h) ∧ ∀ c, c < 32 → (bt Y c = true ↔ c < nc ∧ ml nc M x < M c ∧ M c ≤ ml nc M x + p ∧ opn nr mr Q (ml nc M x) (M c)) := by
  have mx := ml_le R x
  obtain ⟨v, v1, v2, v3, v4, v5⟩ := next_sp w R (a := ml nc M x) (by omega) hX
  have hm := mile7 w R hx
  obtain ⟨r1, r2, r3, r4, r5, r6, r7, r8, r9, r10, r11⟩ := R
  have ln : ldI h (some 3) 0 = some (nI nc) := by rw [← r7]; exact ldI_w (i := 0) w (by decide) rfl (by decide) (by decide)
  generalize ml nc M x = a at *
  have e9 : (if (nI v - 1) < (nI a + nI p) then (nI v - 1) else (nI a + nI p)) = nI (min (v - 1) (a + p)) := by
    rw [nI_add, show nI v - 1 = nI (v - 1) from pk_sub (b := 1) v2]
    by_cases c : v - 1 < a + p
    · rw [if_pos (nI_lt c (by omega)), Nat.min_eq_left (by omega)]
    · rw [if_neg (nI_nlt (by omega) (by omega)), Nat.min_eq_right (by omega)]
  have lp : ∀ (m i F : Nat) (X : Int32), i + m = nc → ∃ Y, g_X4_campsAhead_31 (F + m + 1) h (some 1) (nI a) (nI (min (v - 1) (a + p))) X (nI i) = some (Y, h) ∧ ∀ c, c < 32 → (bt Y c = true ↔ bt X c = true ∨ (i ≤ c ∧ c < nc ∧ (a < M c ∧ M c ≤ a + p ∧ M c < v))) := by
    intro m
    induction m with
    | zero =>
      intro i F X hi
      have c1 : nI nc ≤ nI i := nI_le (by omega) (by omega)
      refine ⟨X, ?_, fun r _ => ⟨Or.inl, fun z => z.elim id (fun ⟨a, b, _⟩ => by omega)⟩⟩
      rw [show F + 0 + 1 = F + 1 from rfl, g_X4_campsAhead_31, gR_w (q := 1) (ci := 4) (j := 1) w (by decide) rfl rfl, bd_some, show tR 1 1 = some 3 from rfl, ln, bd_some, if_pos c1]
    | succ m ih =>
      intro i F X hi
      have c1 : ¬ nI nc ≤ nI i := nI_ge (by omega) (by omega)
      obtain ⟨m1, m2, m3, m4⟩ := r9 i (by omega)
      have k5 : ldI h (some 5) (nI i) = some (nI (M i)) := by rw [← m3]; exact ldI_w w (by decide) rfl (by show i < 14; omega) (by decide)
      have ew : win (nI (M i)) (nI a + 1) (nI (min (v - 1) (a + p))) = if a < M i ∧ M i ≤ a + p ∧ M i < v then 1 else 0 := by
        unfold win
        rw [nI_1]
        by_cases ca : M i < a + 1
        · rw [if_pos (nI_lt ca (by omega)), if_neg (by omega)]
        · rw [if_neg (nI_nlt (by omega) (by omega))]
          by_cases cb : min (v - 1) (a + p) < M i
          · rw [if_pos (nI_lt cb (by omega)), if_neg (by omega)]
          · rw [if_neg (nI_nlt (by omega) (by omega)), if_pos (by omega)]
      rw [g_X4_campsAhead_31, gR_w (q := 1) (ci := 4) (j := 1) w (by decide) rfl rfl, bd_some, show tR 1 1 = some 3 from rfl, ln, bd_some, if_neg c1, gR_w (q := 1) (ci := 4) (j := 3) w (by decide) rfl rfl, bd_some, show tR 1 3 = some 5 from rfl, k5, bd_some, e7_within, bd2_some, ew, nI_1]
      by_cases c : a < M i ∧ M i ≤ a + p ∧ M i < v
      · rw [if_pos c, if_neg (show ¬ (1 : Int32) = 0 by decide)]
        obtain ⟨Y, y1, y2⟩ := ih (i + 1) F (X ||| (1 <<< (nI i &&& 31))) (by omega)
        exact ⟨Y, y1, fun r hr2 => (y2 r hr2).trans (bits_step (P := fun c => a < M c ∧ M c ≤ a + p ∧ M c < v) (by omega) ((bt_set (by omega) r).trans ⟨fun z => z.imp id (fun e => ⟨e, c⟩), fun z => z.imp id (fun e => e.1)⟩))⟩
      · rw [if_neg c, if_pos rfl]
        obtain ⟨Y, y1, y2⟩ := ih (i + 1) F X (by omega)
        exact ⟨Y, y1, fun r hr2 => (y2 r hr2).trans (bits_step (P := fun c => a < M c ∧ M c ≤ a + p ∧ M c < v) (by omega) ⟨Or.inl, fun z => z.elim id (fun e => absurd e.2 c)⟩)⟩
  obtain ⟨F, hF⟩ := NN_ge nc (by omega)
  obtain ⟨Y, y1, y2⟩ := lp nc 0 F 0 (by omega)
  rw [← hF] at y1
  refine ⟨Y, ?_, fun r hr2 => (y2 r hr2).trans ?_⟩
  · unfold f_X4_campsAhead
    rw [isO_w (q := 1) (ci := 4) w (by decide) rfl, bd_some, hm, bd2_some, isO_w (q := 1) (ci := 4) w (by decide) rfl, bd_some, v1, bd2_some, e9]
    exact y1
  · rw [bt_0]
    constructor
    · rintro (q | ⟨-, q1, q2, q3, q4⟩)
      · exact absurd q (by decide)
      · exact ⟨q1, q2, q3, (next_opn v4 v5 (by have := (r9 r q1).1; omega)).mp q4⟩
    · rintro ⟨q1, q2, q3, q4⟩
      exact Or.inr ⟨Nat.zero_le _, q1, q2, q3, (next_opn v4 v5 (by have := (r9 r q1).1; omega)).mpr q4⟩
/-- whether a day leads to the end -/
theorem leads_sp (w : WF h) (R : Rv h nc nr E s M sm mr ma mb WV) {x p : Nat} (hx : x ≤ 14) (hp : p ≤ 60) {X : Int32} {Q : Nat → Prop} (hX : ∀ r, r < nr → (bt X r = true ↔ Q r)) : f_X4_leadsToEnd h (some 1) (nI x) (nI p) X = some (bI (dB (E ≤ ml nc M x + p ∧ opn nr mr Q (ml nc M x) (E - 1))), h) := by
  have mx := ml_le R x
  obtain ⟨v, v1, v2, v3, v4, v5⟩ := next_sp w R (a := ml nc M x) (by omega) hX
  have hm := mile7 w R hx
  obtain ⟨r1, r2, r3, r4, r5, r6, r7, r8, r9, r10, r11⟩ := R
  have le : ldI h (some 2) 0 = some (nI E) := by rw [← r5]; exact ldI_w (i := 0) w (by decide) rfl (by decide) (by decide)
  have no := next_opn (b := E - 1) v4 v5 (by omega)
  generalize ml nc M x = a at *
  unfold f_X4_leadsToEnd
  rw [isO_w (q := 1) (ci := 4) w (by decide) rfl, bd_some, hm, bd2_some, gR_w (q := 1) (ci := 4) (j := 0) w (by decide) rfl rfl, bd_some, show tR 1 0 = some 2 from rfl, le, bd_some, nI_add]
  by_cases c : a + p < E
  · rw [if_pos (nI_lt c (by omega)), dB_f (by omega)]; rfl
  · rw [if_neg (nI_nlt (by omega) (by omega)), bd_some, le, bd_some, isO_w (q := 1) (ci := 4) w (by decide) rfl, bd_some, v1, bd2_some]
    by_cases c2 : v < E
    · rw [if_pos (nI_lt c2 (by omega)), dB_f (fun q => by have := no.mpr q.2; omega)]; rfl
    · rw [if_neg (nI_nlt (by omega) (by omega)), dB_t ⟨by omega, no.mp (by omega)⟩]; rfl
end Prim
/-- the camps that others have -/
theorem taken_sp {h : AH} (w : WF h) {nt t d nc : Nat} (hn : nt ≤ 10) (ht : t < nt) (hd : d < 30) (t2 : hI h 12 0 = nI nt) (hc : nc ≤ 14) (hv : ∀ u, u < nt → hI h 13 (35 * u + (5 + d)) = -1 ∨ ∃ c, c < nc ∧ hI h 13 (35 * u + (5 + d)) = nI c) : ∃ X, f_X6_takenFrom h (some 11) (nI t) (nI d) = some (X, h) ∧ ∀ c, c < 32 → (bt X c = true ↔ ∃ u, u < nt ∧ u ≠ t ∧ hI h 13 (35 * u + (5 + d)) = nI c) := by
  have lp : ∀ (m i F : Nat) (X : Int32), i + m = nt → ∃ Y, g_X6_takenFrom_5 (F + m + 1) h (some 11) (nI t) (nI d) X (nI i) = some (Y, h) ∧ ∀ c, c < 32 → (bt Y c = true ↔ bt X c = true ∨ ∃ u, i ≤ u ∧ u < nt ∧ u ≠ t ∧ hI h 13 (35 * u + (5 + d)) = nI c) := by
    intro m
    induction m with
    | zero =>
      intro i F X hi
      have c1 : nI nt ≤ nI i := nI_le (by omega) (by omega)
      refine ⟨X, ?_, fun r _ => ⟨Or.inl, fun z => z.elim id (fun ⟨u, a, b, _⟩ => by omega)⟩⟩
      rw [show F + 0 + 1 = F + 1 from rfl, g_X6_takenFrom_5, isO_w (q := 11) (ci := 6) w (by decide) rfl, bd_some, e7_size w, bd2_some, t2, if_pos c1]
    | succ m ih =>
      intro i F X hi
      have c1 : ¬ nI nt ≤ nI i := nI_ge (by omega) (by omega)
      have rd : f_X6_read h (some 11) (nI i) (5 + nI d) = some (hI h 13 (35 * i + (5 + d)), h) := by
        rw [show 5 + nI d = nI (5 + d) from nI_add 5 d]; exact e6_read w (by omega)
      rw [g_X6_takenFrom_5, isO_w (q := 11) (ci := 6) w (by decide) rfl, bd_some, e7_size w, bd2_some, t2, if_neg c1, isO_w (q := 11) (ci := 6) w (by decide) rfl, bd_some, rd, bd2_some, nI_1]
      have skip : (i = t ∨ hI h 13 (35 * i + (5 + d)) = -1) → ∃ Y, g_X6_takenFrom_5 (F + (m + 1)) h (some 11) (nI t) (nI d) X (nI (i + 1)) = some (Y, h) ∧ ∀ c, c < 32 → (bt Y c = true ↔ bt X c = true ∨ ∃ u, i ≤ u ∧ u < nt ∧ u ≠ t ∧ hI h 13 (35 * u + (5 + d)) = nI c) := by
        intro hh
        obtain ⟨Y, y1, y2⟩ := ih (i + 1) F X (by omega)
        refine ⟨Y, y1, fun c hc2 => (y2 c hc2).trans ⟨fun z => z.imp id (fun ⟨u, a, b⟩ => ⟨u, by omega, b⟩), fun z => z.imp id (fun ⟨u, a, b, e1, e2⟩ => ⟨u, ?_, b, e1, e2⟩)⟩⟩
        by_cases e : u = i
        · subst e
          rcases hh with q | q
          · exact absurd q e1
          · rw [q] at e2; exact absurd e2.symm (ne_m1 (by omega))
        · omega
      by_cases ct : i = t
      · rw [if_pos (by rw [ct])]; exact skip (Or.inl ct)
      · rw [if_neg (fun z => ct ((nI_eq (by omega) (by omega)).mp z))]
        rcases hv i (by omega) with q | ⟨c, hc1, q⟩
        · rw [if_pos q]; exact skip (Or.inr q)
        · rw [q, if_neg (ne_m1 (by omega))]
          obtain ⟨Y, y1, y2⟩ := ih (i + 1) F (X ||| (1 <<< (nI c &&& 31))) (by omega)
          refine ⟨Y, y1, fun c' hc2 => (y2 c' hc2).trans ?_⟩
          rw [bt_set (by omega)]
          constructor
          · rintro ((z | z) | ⟨u, a, b, e1, e2⟩)
            · exact Or.inl z
            · exact Or.inr ⟨i, Nat.le_refl _, by omega, ct, by rw [q, z]⟩
            · exact Or.inr ⟨u, by omega, b, e1, e2⟩
          · rintro (z | ⟨u, a, b, e1, e2⟩)
            · exact Or.inl (Or.inl z)
            · by_cases e : u = i
              · subst e
                rw [q] at e2
                exact Or.inl (Or.inr ((nI_eq (by omega) (by omega)).mp e2).symm)
              · exact Or.inr ⟨u, by omega, b, e1, e2⟩
  obtain ⟨F, hF⟩ := NN_ge nt (by omega)
  obtain ⟨Y, y1, y2⟩ := lp nt 0 F 0 (by omega)
  rw [← hF] at y1
  refine ⟨Y, y1, fun r hr2 => (y2 r hr2).trans ?_⟩
  rw [bt_0]
  exact ⟨fun z => z.elim (fun q => absurd q (by decide)) (fun ⟨u, _, q⟩ => ⟨u, q⟩), fun ⟨u, q⟩ => Or.inr ⟨u, Nat.zero_le _, q⟩⟩
