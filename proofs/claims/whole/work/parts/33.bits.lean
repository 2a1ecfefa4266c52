/-! sets as bits; weights together; chance -/
def bt (x : Int32) (i : Nat) : Bool := x.toBitVec.getLsbD i
theorem bt_or (x y : Int32) (i : Nat) : bt (x ||| y) i = (bt x i || bt y i) := by
  unfold bt; rw [Int32.toBitVec_or, BitVec.getLsbD_or]
theorem bt_and (x y : Int32) (i : Nat) : bt (x &&& y) i = (bt x i && bt y i) := by
  unfold bt; rw [Int32.toBitVec_and, BitVec.getLsbD_and]
theorem bt_0 (i : Nat) : bt 0 i = false := by
  unfold bt
  rw [show (0 : Int32).toBitVec = 0#32 from rfl, BitVec.getLsbD_zero]
theorem bt_xor (x : Int32) {i : Nat} (hi : i < 32) : bt (x ^^^ (-1)) i = !bt x i := by
  unfold bt
  rw [Int32.toBitVec_xor, BitVec.getLsbD_xor, show (-1 : Int32).toBitVec = BitVec.allOnes 32 from rfl, BitVec.getLsbD_allOnes, decide_eq_true hi, Bool.xor_true]
theorem one_sh : ∀ c, c < 32 → ((1 : Int32) <<< (nI c &&& 31)).toBitVec = BitVec.twoPow 32 c := by decide +kernel
theorem bt_one {c : Nat} (hc : c < 32) (i : Nat) : bt ((1 : Int32) <<< (nI c &&& 31)) i = decide (c = i) := by
  unfold bt
  rw [one_sh c hc, BitVec.getLsbD_twoPow, decide_eq_true hc, Bool.true_and]
theorem bt_ext {x y : Int32} (h : ∀ i, i < 32 → bt x i = bt y i) : x = y := by
  refine Int32.toBitVec_inj.mp (BitVec.eq_of_getLsbD_eq (fun i hi => h i hi))
theorem bt_z {x : Int32} : x = 0 ↔ ∀ i, i < 32 → bt x i = false := by
  constructor
  · intro h i _; rw [h]; exact bt_0 i
  · intro h; exact bt_ext (fun i hi => by rw [h i hi, bt_0])
theorem e_holds {h : AH} (x : Int32) {i : Nat} (hi : i < 32) : f_X7_holds h x (nI i) = some (if bt x i = true then 1 else 0, h) := by
  unfold f_X7_holds
  by_cases c : bt x i = true
  · have : ¬ (x &&& ((1 : Int32) <<< (nI i &&& 31))) = 0 := by
      intro z
      have := bt_z.mp z i hi
      rw [bt_and, bt_one hi, c, decide_eq_true rfl] at this
      exact absurd this (by decide)
    rw [if_neg this, if_pos c]
  · have : (x &&& ((1 : Int32) <<< (nI i &&& 31))) = 0 := by
      refine bt_z.mpr (fun j hj => ?_)
      rw [bt_and, bt_one hi]
      by_cases e : i = j
      · subst e; rw [Bool.not_eq_true] at c; rw [c]; rfl
      · rw [decide_eq_false e, Bool.and_false]
    rw [if_pos this, if_neg c]
theorem bt_all : ∀ n, n < 13 → ∀ i, i < 32 → bt (((1 : Int32) <<< (nI n &&& 31)) - 1) i = decide (i < n) := by decide +kernel
/-- the weights of those from a on, k of them, that are not gone -/
def sw (W : Nat → Nat) (gn : Nat → Bool) : Nat → Nat → Nat
  | 0, _ => 0
  | k + 1, a => (if gn a = true then 0 else W a) + sw W gn k (a + 1)
theorem sw_le {W : Nat → Nat} {gn : Nat → Bool} : ∀ k a, (∀ b, a ≤ b → b < a + k → W b ≤ 99) → sw W gn k a ≤ 99 * k := by
  intro k
  induction k with
  | zero => intro a _; exact Nat.le_refl _
  | succ k ih =>
    intro a h
    have h1 := ih (a + 1) (fun b h1 h2 => h b (by omega) (by omega))
    have h2 := h a (Nat.le_refl _) (by omega)
    unfold sw
    split <;> omega
theorem sw_mem {W : Nat → Nat} {gn : Nat → Bool} : ∀ k a b, a ≤ b → b < a + k → gn b = false → W b ≤ sw W gn k a := by
  intro k
  induction k with
  | zero => intro a b h1 h2; omega
  | succ k ih =>
    intro a b h1 h2 h3
    unfold sw
    by_cases e : b = a
    · subst e; rw [h3, if_neg (by decide)]; omega
    · have := ih (a + 1) b (by omega) (by omega) h3; omega
def gnu (gn : Nat → Bool) (b : Nat) : Nat → Bool := fun a => if a = b then true else gn a
theorem sw_out {W : Nat → Nat} {gn : Nat → Bool} {b : Nat} : ∀ k a, (b < a ∨ a + k ≤ b) → sw W (gnu gn b) k a = sw W gn k a := by
  intro k
  induction k with
  | zero => intro a _; rfl
  | succ k ih =>
    intro a h
    unfold sw
    have e : gnu gn b a = gn a := by unfold gnu; rw [if_neg (by omega)]
    rw [ih (a + 1) (by omega), e]
theorem sw_in {W : Nat → Nat} {gn : Nat → Bool} {b : Nat} (hb : gn b = false) : ∀ k a, a ≤ b → b < a + k → sw W (gnu gn b) k a + W b = sw W gn k a := by
  intro k
  induction k with
  | zero => intro a h1 h2; omega
  | succ k ih =>
    intro a h1 h2
    unfold sw
    by_cases e : a = b
    · subst e
      have e : gnu gn a a = true := by unfold gnu; rw [if_pos rfl]
      rw [sw_out k (a + 1) (by omega), hb, e, if_pos rfl, if_neg (by decide)]; omega
    · have := ih (a + 1) (by omega) (by omega)
      have e2 : gnu gn b a = gn a := by unfold gnu; rw [if_neg e]
      rw [e2]; omega
theorem sw_one {gn : Nat → Bool} : ∀ k a, 0 < sw (fun _ => 1) gn k a → ∃ b, a ≤ b ∧ b < a + k ∧ gn b = false := by
  intro k
  induction k with
  | zero => intro a h; exact absurd h (by unfold sw; omega)
  | succ k ih =>
    intro a h
    by_cases c : gn a = true
    · unfold sw at h
      rw [if_pos c] at h
      obtain ⟨b, h1, h2, h3⟩ := ih (a + 1) (by omega)
      exact ⟨b, by omega, by omega, h3⟩
    · exact ⟨a, Nat.le_refl _, by omega, Bool.eq_false_iff.mpr c⟩
theorem sw_zero {gn : Nat → Bool} : ∀ k a, sw (fun _ => 1) gn k a = 0 → ∀ b, a ≤ b → b < a + k → gn b = true := by
  intro k
  induction k with
  | zero => intro a _ b h1 h2; omega
  | succ k ih =>
    intro a h b h1 h2
    unfold sw at h
    by_cases c : gn a = true
    · rw [if_pos c] at h
      by_cases e : b = a
      · rw [e]; exact c
      · exact ih (a + 1) (by omega) b (by omega) (by omega)
    · rw [if_neg c] at h; omega
theorem sw_all : ∀ k a, sw (fun _ => 1) (fun _ => false) k a = k := by
  intro k
  induction k with
  | zero => intro a; rfl
  | succ k ih => intro a; unfold sw; rw [ih, if_neg (by decide)]; omega
/-- what the weights of both are -/
def Wt (h : AH) (na : Nat) (W : Nat → Nat) : Prop := na ≤ 12 ∧ hI h 20 0 = nI na ∧ ∀ a, a < na → 1 ≤ W a ∧ W a ≤ 99 ∧ hI h 21 a = nI (W a)
def Wm (h : AH) (na : Nat) (W : Nat → Nat) : Prop := na ≤ 12 ∧ hI h 75 6 = nI na ∧ ∀ a, a < na → 1 ≤ W a ∧ W a ≤ 99 ∧ hI h 75 (544 + a) = nI (W a)
theorem W_of {D : RW} {n : Nat → Int32} {na : Nat} (ra : rA D n na) : ∃ W : Nat → Nat, ∀ a, a < na → 1 ≤ W a ∧ W a ≤ 99 ∧ D 21 a = nI (W a) ∧ n (544 + a) = nI (W a) := by
  refine ⟨fun a => (D 21 a).toNatClampNeg, fun a ha => ?_⟩
  obtain ⟨v, ⟨h1, h2⟩, h3, h4⟩ := ra.2.2.2 a ha
  show 1 ≤ (D 21 a).toNatClampNeg ∧ (D 21 a).toNatClampNeg ≤ 99 ∧ D 21 a = nI (D 21 a).toNatClampNeg ∧ n (544 + a) = nI (D 21 a).toNatClampNeg
  rw [h3, nI_clamp (by omega)]
  exact ⟨h1, h2, rfl, h4⟩
theorem tog_sp {h : AH} (w : WF h) {na : Nat} {W : Nat → Nat} (hw : Wt h na W) {gn : Nat → Bool} {L : Int32} (hL : ∀ a, a < na → bt L a = !gn a) :
    ∀ (k i F s : Nat), i + k = na → g_X0_together_4 (F + k + 1) h (some 19) L (nI s) (nI i) = some (nI (s + sw W gn k i), h) := by
  obtain ⟨h12, w2, w3⟩ := hw
  intro k
  induction k with
  | zero =>
    intro i F s hi
    have c1 : nI na ≤ nI i := nI_le (by omega) (by omega)
    rw [show F + 0 + 1 = F + 1 from rfl, g_X0_together_4, isO_w (q := 19) (ci := 0) w (by decide) rfl, bd_some, e7_sizeA w, bd2_some, w2, if_pos c1]; rfl
  | succ k ih =>
    intro i F s hi
    have c1 : ¬ nI na ≤ nI i := nI_ge (by omega) (by omega)
    have ld : ldI h (some 21) (nI i) = some (nI (W i)) := by rw [← (w3 i (by omega)).2.2]; exact ldI_w w (by decide) rfl (by show i < 12; omega) (by decide)
    rw [g_X0_together_4, isO_w (q := 19) (ci := 0) w (by decide) rfl, bd_some, e7_sizeA w, bd2_some, w2, if_neg c1, e_holds L (by omega), bd2_some, hL i (by omega), gR_w (q := 19) (ci := 0) (j := 1) w (by decide) rfl rfl, bd_some, show tR 19 1 = some 21 from rfl, ld, bd_some, nI_1, nI_add]
    unfold sw
    by_cases c : gn i = true
    · rw [c, if_neg (show ¬ (!true) = true by decide), if_pos rfl, if_pos rfl, Nat.zero_add]
      exact ih (i + 1) F s (by omega)
    · have c' : gn i = false := Bool.eq_false_iff.mpr c
      rw [c', if_pos (show (!false) = true by decide), if_neg (by decide), if_neg (by decide)]
      rw [show s + (W i + sw W gn k (i + 1)) = s + W i + sw W gn k (i + 1) by omega]
      exact ih (i + 1) F (s + W i) (by omega)
theorem e0_tog {h : AH} (w : WF h) {na : Nat} {W : Nat → Nat} (hw : Wt h na W) {gn : Nat → Bool} {L : Int32} (hL : ∀ a, a < na → bt L a = !gn a) : f_X0_together h (some 19) L = some (nI (sw W gn na 0), h) := by
  obtain ⟨F, hF⟩ := NN_ge na (by have := hw.1; omega)
  have := tog_sp w hw hL na 0 F 0 (by omega)
  rw [← hF, Nat.zero_add] at this
  exact this
theorem e0_every {h : AH} (w : WF h) {na : Nat} (h12 : na ≤ 12) (e : hI h 20 0 = nI na) : ∃ L, f_X0_everybody h (some 19) = some (L, h) ∧ ∀ a, a < 32 → bt L a = decide (a < na) := by
  refine ⟨_, ?_, bt_all na (by omega)⟩
  unfold f_X0_everybody
  rw [isO_w (q := 19) (ci := 0) w (by decide) rfl, bd_some, e7_sizeA w, bd2_some, e]
theorem wts_sp {h : AH} (w : WF h) {na : Nat} {W : Nat → Nat} (hw : Wm h na W) :
    ∀ (k i F s : Nat), i + k = na → g_X8_weights_4 (F + k + 1) h (some 74) (nI s) (nI i) = some (nI (s + sw W (fun _ => false) k i), h) := by
  obtain ⟨h12, w2, w3⟩ := hw
  have m6 : ldI h (some 75) 6 = some (nI na) := by rw [← w2]; exact q75 w (i := 6) (by omega)
  intro k
  induction k with
  | zero =>
    intro i F s hi
    have c1 : nI na ≤ nI i := nI_le (by omega) (by omega)
    rw [show F + 0 + 1 = F + 1 from rfl, g_X8_weights_4, gR_w (q := 74) (ci := 8) (j := 0) w (by decide) rfl rfl, bd_some, show tR 74 0 = some 75 from rfl, m6, bd_some, if_pos c1]; rfl
  | succ k ih =>
    intro i F s hi
    have c1 : ¬ nI na ≤ nI i := nI_ge (by omega) (by omega)
    have ld : ldI h (some 75) (544 + nI i) = some (nI (W i)) := by rw [← (w3 i (by omega)).2.2, show 544 + nI i = nI (544 + i) from nI_add 544 i]; exact q75 w (by omega)
    rw [g_X8_weights_4, gR_w (q := 74) (ci := 8) (j := 0) w (by decide) rfl rfl, bd_some, show tR 74 0 = some 75 from rfl, m6, bd_some, if_neg c1, bd_some, ld, bd_some, nI_1, nI_add]
    unfold sw
    rw [if_neg (by decide), show s + (W i + sw W (fun _ => false) k (i + 1)) = s + W i + sw W (fun _ => false) k (i + 1) by omega]
    exact ih (i + 1) F (s + W i) (by omega)
theorem e8_wts {h : AH} (w : WF h) {na : Nat} {W : Nat → Nat} (hw : Wm h na W) : f_X8_weights h (some 74) = some (nI (sw W (fun _ => false) na 0), h) := by
  obtain ⟨F, hF⟩ := NN_ge na (by have := hw.1; omega)
  have := wts_sp w hw na 0 F 0 (by omega)
  rw [← hF, Nat.zero_add] at this
  exact this
theorem rm_nI {a b : Nat} (ha : a < 2 ^ 31) (h0 : 0 < b) (hb : b < 2 ^ 31) : rm (nI a) (nI b) = some (nI (a % b)) := by
  unfold rm
  rw [if_pos (nI_ne0 h0 hb), pk_rem ha h0 hb]
theorem gd_sp {h : AH} {a b : Nat} (ha : 1 ≤ a) (ha2 : a ≤ 99) (hb : b ≤ 2000) :
    ∀ (d F : Nat), Nat.gcd a b ≤ d → d ≤ 99 → g_X7_greatestDivisor_2 (F + d + 1) h (nI a) (nI b) (nI d) = some (nI (Nat.gcd a b), h) := by
  have g1 : 0 < Nat.gcd a b := Nat.gcd_pos_of_pos_left b ha
  intro d
  induction d with
  | zero => intro F h1 _; omega
  | succ d ih =>
    intro F h1 h2
    rw [g_X7_greatestDivisor_2]
    by_cases c : d = 0
    · subst c
      rw [if_pos (show nI (0 + 1) ≤ 1 by decide), show Nat.gcd a b = 1 by omega]; rfl
    · have c1 : ¬ nI (d + 1) ≤ 1 := nI_ge (a := 1) (by omega) (by omega)
      rw [if_neg c1, rm_nI (by omega) (by omega) (by omega), bd_some, rm_nI (by omega) (by omega) (by omega), bd_some, pk_m1]
      by_cases c2 : a % (d + 1) = 0
      · rw [c2, if_neg (fun z => z rfl)]
        by_cases c3 : b % (d + 1) = 0
        · rw [c3, if_neg (fun z => z rfl)]
          have d1 := Nat.dvd_gcd (Nat.dvd_of_mod_eq_zero c2) (Nat.dvd_of_mod_eq_zero c3)
          have := Nat.le_of_dvd g1 d1
          rw [show Nat.gcd a b = d + 1 by omega]
        · have := Nat.mod_lt b (show 0 < d + 1 by omega)
          rw [if_pos (nI_ne0 (by omega) (by omega))]
          refine ih F ?_ (by omega)
          by_cases e : Nat.gcd a b = d + 1
          · exact absurd (Nat.mod_eq_zero_of_dvd (e ▸ Nat.gcd_dvd_right a b)) c3
          · omega
      · have := Nat.mod_lt a (show 0 < d + 1 by omega)
        rw [if_pos (nI_ne0 (by omega) (by omega))]
        refine ih F ?_ (by omega)
        by_cases e : Nat.gcd a b = d + 1
        · exact absurd (Nat.mod_eq_zero_of_dvd (e ▸ Nat.gcd_dvd_left a b)) c2
        · omega
theorem eu_sp {h : AH} {xa xb : Int32} : ∀ (n y x F : Nat), y ≤ n → x ≤ 2000 → n ≤ 2000 → g_X8_chance_32 (F + n + 1) h (some 74) xa xb (nI x) (nI y) = g_X8_chance_32 1 h (some 74) xa xb (nI (Nat.gcd x y)) 0 := by
  intro n
  induction n with
  | zero =>
    intro y x F h1 _ _
    have : y = 0 := by omega
    subst this
    rw [Nat.gcd_zero_right, show F + 0 + 1 = F + 1 from rfl, g_X8_chance_32, g_X8_chance_32, if_pos (show nI 0 = 0 from rfl), if_pos rfl]
  | succ n ih =>
    intro y x F h1 h2 h3
    by_cases c : y = 0
    · subst c
      rw [Nat.gcd_zero_right, g_X8_chance_32, g_X8_chance_32, if_pos (show nI 0 = 0 from rfl), if_pos rfl]
    · rw [g_X8_chance_32, if_neg (nI_ne0 (by omega) (by omega)), rm_nI (by omega) (by omega) (by omega), bd_some]
      have := Nat.mod_lt x (show 0 < y by omega)
      have hh := ih (x % y) y F (by omega) (by omega) (by omega)
      rw [show F + (n + 1) = F + n + 1 by omega, hh, Nat.gcd_comm y (x % y), ← Nat.gcd_rec y x, Nat.gcd_comm]
theorem op_chance (x y : Int32) : OpOk (fun h => f_X7_chance h (some 0) x y) (fun h => f_X8_chance h (some 74) x y) := by
  intro h w r
  obtain ⟨C, r1, -, r3, -⟩ := id r
  obtain ⟨-, -, -, -, -, -, ra⟩ := id r1
  obtain ⟨W, hW⟩ := W_of ra
  obtain ⟨a1, a2, a3, -⟩ := ra
  have h100 : C.2.2.2.2 ≤ 100 := by omega
  have t3' : ∀ f, hI (sI h 0 f) 75 6 = nI C.2.2.2.2 := fun f => by rw [sI_ne (by decide)]; exact a3
  rcases ixw_cases x (k := C.2.2.2.2) (by omega) with e | ⟨e, a, ha, rfl⟩
  · exact fin_ok (a := fun h => f_X7_chance h (some 0) x y) (b := fun h => f_X8_chance h (some 74) x y) (x := -100001) w r (by show f_X7_chance h (some 0) x y = _; simp (disch := first | (simp only [WF_sI]; exact w) | exact (w) | decide | (simp only [shq]; omega)) only [bd_some, bd2_some, bd2_id, i10, i00, not_true_eq_false, not_false_eq_true, if_true, if_false, ↓reduceIte, gR_w, gI_w, pI_w, isO_w, ldI_w, stI_w, ldZ_w, stZ_w, lenA_w, tR, f_X7_chance, e7_isApp w a2 h100, e]) (fun f => by show f_X8_chance (sI h 0 f) (some 74) x y = _; simp (disch := first | (simp only [WF_sI]; exact w0 w f) | exact (w0 w f) | decide | (simp only [shq]; omega)) only [bd_some, bd2_some, bd2_id, i10, i00, not_true_eq_false, not_false_eq_true, if_true, if_false, ↓reduceIte, gR_w, gI_w, pI_w, isO_w, ldI_w, stI_w, ldZ_w, stZ_w, lenA_w, tR, f_X8_chance, e8_isApp (w0 w f) (t3' f), e])
  have e' : ¬ ixw (nI a) C.2.2.2.2 = 0 := by rw [e]; decide
  have hw : Wt h C.2.2.2.2 W := ⟨a1, a2, fun b hb => ⟨(hW b hb).1, (hW b hb).2.1, (hW b hb).2.2.1⟩⟩
  have hm : Wm h C.2.2.2.2 W := ⟨a1, a3, fun b hb => ⟨(hW b hb).1, (hW b hb).2.1, (hW b hb).2.2.2⟩⟩
  obtain ⟨b1, b2, b3, b4⟩ := hW a ha
  obtain ⟨L, l1, l2⟩ := e0_every w a1 a2
  have tg := e0_tog w hw (gn := fun _ => false) (L := L) (fun b hb => by rw [l2 b (by omega), decide_eq_true hb]; rfl)
  have wm := e8_wts w hm
  have s1 := sw_le (W := W) (gn := fun _ => false) C.2.2.2.2 0 (fun b _ hb => (hW b (by omega)).2.1)
  have s2 := sw_mem (W := W) (gn := fun _ => false) C.2.2.2.2 0 a (by omega) (by omega) rfl
  generalize sw W (fun _ => false) C.2.2.2.2 0 = s at *
  have g1 : 0 < Nat.gcd (W a) s := Nat.gcd_pos_of_pos_left s b1
  have g2 : Nat.gcd (W a) s ≤ W a := Nat.le_of_dvd b1 (Nat.gcd_dvd_left _ _)
  have kw : ldI h (some 21) (nI a) = some (nI (W a)) := by rw [← b3]; exact ldI_w w (by decide) rfl (by show a < 12; omega) (by decide)
  have mw : ldI h (some 75) (544 + nI a) = some (nI (W a)) := by rw [← b4, show 544 + nI a = nI (544 + a) from nI_add 544 a]; exact q75 w (by omega)
  obtain ⟨F, hF⟩ := NN_ge (W a) (by omega)
  have gd : f_X7_greatestDivisor h (nI (W a)) (nI s) = some (nI (Nat.gcd (W a) s), h) := by
    unfold f_X7_greatestDivisor
    rw [hF]
    exact gd_sp b1 b2 (by omega) (W a) F g2 b2
  obtain ⟨F2, hF2⟩ := NN_ge s (by omega)
  have eu : g_X8_chance_32 NN h (some 74) (nI a) y (nI (W a)) (nI s) = g_X8_chance_32 1 h (some 74) (nI a) y (nI (Nat.gcd (W a) s)) 0 := by
    rw [hF2]
    exact eu_sp s s (W a) F2 (Nat.le_refl _) (by omega) (by omega)
  have z7 : f_X7_chance h (some 0) (nI a) y = some (nI ((if y = 0 then W a else s) / Nat.gcd (W a) s), h) := by
    unfold f_X7_chance
    rw [isO_w (q := 0) (ci := 7) w (by decide) rfl, bd_some, e7_isApp w a2 h100, bd2_some, if_pos e', gR_w (q := 0) (ci := 7) (j := 3) w (by decide) rfl rfl, bd_some, show tR 0 3 = some 19 from rfl, gR_w (q := 19) (ci := 0) (j := 1) w (by decide) rfl rfl, bd_some, show tR 19 1 = some 21 from rfl, kw, bd_some, bd_some, bd_some, isO_w (q := 19) (ci := 0) w (by decide) rfl, bd_some, l1, bd2_some, isO_w (q := 19) (ci := 0) w (by decide) rfl, bd_some, tg, bd2_some, gd, bd2_some, dv_nI (by omega) g1 (by omega), bd_some, dv_nI (by omega) g1 (by omega), bd_some]
    split <;> rfl
  have z8 : f_X8_chance h (some 74) (nI a) y = some (nI ((if y = 0 then W a else s) / Nat.gcd (W a) s), h) := by
    unfold f_X8_chance
    rw [isO_w (q := 74) (ci := 8) w (by decide) rfl, bd_some, e8_isApp w a3, bd2_some, if_pos e', gR_w (q := 74) (ci := 8) (j := 0) w (by decide) rfl rfl, bd_some, show tR 74 0 = some 75 from rfl, mw, bd_some, isO_w (q := 74) (ci := 8) w (by decide) rfl, bd_some, wm, bd2_some, eu]
    unfold g_X8_chance_32
    rw [if_pos rfl, gR_w (q := 74) (ci := 8) (j := 0) w (by decide) rfl rfl, bd_some, show tR 74 0 = some 75 from rfl, mw, bd_some, isO_w (q := 74) (ci := 8) w (by decide) rfl, bd_some, wm, bd2_some, dv_nI (by omega) g1 (by omega), bd_some, dv_nI (by omega) g1 (by omega), bd_some]
    split <;> rfl
  exact qry_ok (a := fun h => f_X7_chance h (some 0) (nI a) y) (b := fun h => f_X8_chance h (some 74) (nI a) y) w r z7 z8
