/-! the reference's questions -/
theorem bl_bI (y : Bool) : bl (bI y) = some (bI y) := by cases y <;> rfl
theorem bI_and1 (y : Bool) : bI y &&& 1 = bI y := by cases y <;> rfl
theorem bI_and0 (y : Bool) : bI y &&& 0 = bI false := by cases y <;> rfl
theorem dB_cg {P Q : Prop} (h : P ↔ Q) : dB P = dB Q := by rw [propext h]
section Prim8
variable {g : AH} {nc nr E s : Nat} {M sm mr ma mb : Nat → Nat} {WV : Nat → Int32}
theorem ml8_le (R : Rm g nc nr E s M sm mr ma mb WV) (x : Nat) : ml nc M x ≤ 249 := by
  unfold ml
  split
  · rename_i c; exact ((R.2.2.2.2.2.2.2.2.1 x c).1).2
  · omega
theorem mile8 (w : WF g) (R : Rm g nc nr E s M sm mr ma mb WV) {x : Nat} (hx : x < nc ∨ x = 14) : f_X8_mileOf g (some 74) (nI x) = some (nI (ml nc M x), g) := by
  have r1 := R.1
  rcases hx with hx | rfl
  · rw [e8_mileOf w (by omega), (R.2.2.2.2.2.2.2.2.1 x hx).2.2.1]
    unfold ml
    rw [if_pos hx]
  · unfold f_X8_mileOf ml
    rw [if_neg (fun q => q rfl), if_neg (by omega)]; rfl
theorem open_sp (w : WF g) (R : Rm g nc nr E s M sm mr ma mb WV) {t k d a b : Nat} (ht : t < 10) (hk : k ≤ 3) (hd : d ≤ 29) (ha : a ≤ 1000) (hb : b ≤ 1000) (ek : hI g 75 (194 + 5 * t + 0) = nI k) : f_X8_isOpen g (some 74) (nI t) (nI a) (nI b) (nI d) = some (bI (dB (opn nr mr (CLp s k mr ma mb WV d) a b)), g) := by
  have r2 := R.2.1
  have r10 := R.2.2.2.2.2.2.2.2.2.1
  have ln : ldI g (some 75) 3 = some (nI nr) := by rw [← R.2.2.2.2.2.2.2.1]; exact q75 w (i := 3) (by omega)
  have tk : f_X8_told g (some 74) (nI t) 0 = some (nI k, g) := by rw [show (0 : Int32) = nI 0 from rfl, e8_told w (by omega), ek]
  have lp : ∀ (m i F : Nat) (y : Bool), i + m = nr → g_X8_isOpen_6 (F + m + 1) g (some 74) (nI t) (nI a) (nI b) (nI d) (bI y) (nI i) = some (bI (dB (y = true ∧ ∀ r, i ≤ r → r < nr → mr r ≤ a ∨ b < mr r ∨ ¬ CLp s k mr ma mb WV d r)), g) := by
    intro m
    induction m with
    | zero =>
      intro i F y hi
      have c1 : nI nr ≤ nI i := nI_le (by omega) (by omega)
      rw [show F + 0 + 1 = F + 1 from rfl, g_X8_isOpen_6, gR_w (q := 74) (ci := 8) (j := 0) w (by decide) rfl rfl, bd_some, show tR 74 0 = some 75 from rfl, ln, bd_some, if_pos c1, bl_bI, bd_some]
      cases y
      · rw [dB_f (fun q => absurd q.1 (by decide))]
      · rw [dB_t ⟨rfl, fun r h1 h2 => by omega⟩]
    | succ m ih =>
      intro i F y hi
      have c1 : ¬ nI nr ≤ nI i := nI_ge (by omega) (by omega)
      obtain ⟨m1, m2, m3, m4⟩ := r10 i (by omega)
      have x1 : 36 + 3 * nI i = nI (36 + 3 * i) := by rw [show (3 : Int32) = nI 3 from rfl, show (36 : Int32) = nI 36 from rfl, pk_mul, nI_add]
      have n0 : ldI g (some 75) (nI (36 + 3 * i)) = some (nI (mr i)) := by rw [← m2]; exact q75 w (by omega)
      obtain ⟨v, v1, v2⟩ := first8 (k := k) w R (q := i) (d := d) (by omega) hd
      rw [g_X8_isOpen_6, gR_w (q := 74) (ci := 8) (j := 0) w (by decide) rfl rfl, bd_some, show tR 74 0 = some 75 from rfl, ln, bd_some, if_neg c1, bd_some, x1, n0, bd_some, O_8 w, bd_some, tk, bd2_some, O_8 w, bd_some, v1, bd2_some]
      unfold j_X8_isOpen_62 j_X8_isOpen_67
      rw [bI_and1, bI_and0, nI_1]
      have good : (mr i ≤ a ∨ b < mr i ∨ ¬ CLp s k mr ma mb WV d i) → g_X8_isOpen_6 (F + (m + 1)) g (some 74) (nI t) (nI a) (nI b) (nI d) (bI y) (nI (i + 1)) = some (bI (dB (y = true ∧ ∀ r, i ≤ r → r < nr → mr r ≤ a ∨ b < mr r ∨ ¬ CLp s k mr ma mb WV d r)), g) := by
        intro hh
        have := ih (i + 1) F y (by omega)
        rw [show F + (m + 1) = F + m + 1 from rfl, this]
        refine congrArg (fun q => some (bI q, g)) (dB_cg ⟨fun z => ⟨z.1, fun r h1 h2 => ?_⟩, fun z => ⟨z.1, fun r h1 h2 => z.2 r (by omega) h2⟩⟩)
        by_cases e : r = i
        · rw [e]; exact hh
        · exact z.2 r (by omega) h2
      by_cases ca : mr i ≤ a
      · rw [if_pos (nI_le ca (by omega))]; exact good (Or.inl ca)
      rw [if_neg (nI_ge (by omega) (by omega))]
      by_cases cb : b < mr i
      · rw [if_pos (nI_lt cb (by omega))]; exact good (Or.inr (Or.inl cb))
      rw [if_neg (nI_nlt (by omega) (by omega))]
      by_cases cv : v < 0
      · rw [if_pos cv]
        have := ih (i + 1) F false (by omega)
        rw [dB_f (fun q => absurd q.1 (by decide))] at this
        rw [dB_f (fun q => (q.2 i (Nat.le_refl _) (by omega)).elim ca (fun z => z.elim cb (fun z => z (v2.mp cv))))]
        exact this
      · rw [if_neg cv]; exact good (Or.inr (Or.inr (fun z => cv (v2.mpr z))))
  obtain ⟨F, hF⟩ := NN_ge nr (by omega)
  have := lp nr 0 F true (by omega)
  rw [← hF] at this
  have e : dB (true = true ∧ ∀ r, 0 ≤ r → r < nr → mr r ≤ a ∨ b < mr r ∨ ¬ CLp s k mr ma mb WV d r) = dB (opn nr mr (CLp s k mr ma mb WV d) a b) := by
    exact dB_cg ⟨fun z r hr => z.2 r (Nat.zero_le _) hr, fun z => ⟨rfl, fun r _ hr => z r hr⟩⟩
  rw [e] at this
  exact this
theorem canEnd_sp (w : WF g) (R : Rm g nc nr E s M sm mr ma mb WV) {t k d p x : Nat} (ht : t < 10) (hk : k ≤ 3) (hd : d ≤ 29) (hp : p ≤ 60) (hx : x < nc ∨ x = 14) (ek : hI g 75 (194 + 5 * t + 0) = nI k) (ep : hI g 75 (194 + 5 * t + 2) = nI p) : f_X8_canEnd g (some 74) (nI t) (nI x) (nI d) = some (bI (dB (E ≤ ml nc M x + p ∧ opn nr mr (CLp s k mr ma mb WV d) (ml nc M x) (E - 1))), g) := by
  have mx := ml8_le R x
  have r3 := R.2.2.1
  have le : ldI g (some 75) 0 = some (nI E) := by rw [← R.2.2.2.2.1]; exact q75 w (i := 0) (by omega)
  have tp : f_X8_told g (some 74) (nI t) 2 = some (nI p, g) := by rw [show (2 : Int32) = nI 2 from rfl, e8_told w (by omega), ep]
  have op := open_sp w R (t := t) (k := k) (d := d) (a := ml nc M x) (b := E - 1) ht hk hd (by omega) (by omega) ek
  unfold f_X8_canEnd
  rw [O_8 w, bd_some, mile8 w R hx, bd2_some, gR_w (q := 74) (ci := 8) (j := 0) w (by decide) rfl rfl, bd_some, show tR 74 0 = some 75 from rfl, le, bd_some, O_8 w, bd_some, tp, bd2_some, nI_add]
  generalize ml nc M x = a at *
  by_cases c : a + p < E
  · rw [if_pos (nI_lt c (by omega)), dB_f (by omega)]; rfl
  · rw [if_neg (nI_nlt (by omega) (by omega)), gR_w (q := 74) (ci := 8) (j := 0) w (by decide) rfl rfl, bd_some, show tR 74 0 = some 75 from rfl, le, bd_some, O_8 w, bd_some, show nI E - 1 = nI (E - 1) from pk_sub (b := 1) r3.1, op, bd2_some]
    by_cases c2 : opn nr mr (CLp s k mr ma mb WV d) a (E - 1)
    · rw [dB_t c2, bI_t, if_neg (by decide), dB_t ⟨by omega, c2⟩]; rfl
    · rw [dB_f c2, bI_f, if_pos rfl, dB_f (fun q => c2 q.2)]; rfl
theorem canGo_sp (w : WF g) (R : Rm g nc nr E s M sm mr ma mb WV) {t k d p x c nt : Nat} (hn : nt ≤ 10) (ht : t < nt) (hk : k ≤ 3) (hd : d ≤ 29) (hp : p ≤ 60) (hx : x < nc ∨ x = 14) (hc : c < nc) (t3 : hI g 75 5 = nI nt) (ek : hI g 75 (194 + 5 * t + 0) = nI k) (ep : hI g 75 (194 + 5 * t + 2) = nI p) : f_X8_canGo g (some 74) (nI t) (nI x) (nI c) (nI d) = some (bI (dB ((x = c ∨ (ml nc M x < M c ∧ M c ≤ ml nc M x + p ∧ M c < E ∧ opn nr mr (CLp s k mr ma mb WV d) (ml nc M x) (M c))) ∧ ¬ (k = 2 ∧ sm c = 1) ∧ ∀ u, u < nt → u ≠ t → hI g 75 (244 + 30 * u + d) ≠ nI c)), g) := by
  have mx := ml8_le R x
  have r1 := R.1
  have r3 := R.2.2.1
  obtain ⟨m1, m2, m3, m4⟩ := R.2.2.2.2.2.2.2.2.1 c hc
  have le : ldI g (some 75) 0 = some (nI E) := by rw [← R.2.2.2.2.1]; exact q75 w (i := 0) (by omega)
  have tp : f_X8_told g (some 74) (nI t) 2 = some (nI p, g) := by rw [show (2 : Int32) = nI 2 from rfl, e8_told w (by omega), ep]
  have op := open_sp w R (t := t) (k := k) (d := d) (a := ml nc M x) (b := M c) (by omega) hk hd (by omega) (by omega) ek
  have mc := e8_mayCamp w (t := t) (c := c) (k := k) (b := sm c) (by omega) (by omega) hk m2 ek m4
  obtain ⟨F, hF⟩ := NN_ge nt (by omega)
  obtain ⟨v, o1, o2⟩ := other_sp w (c := c) (d := d) (t := t) hn t3 (by omega) (by omega) nt 0 F (by omega)
  rw [← hF] at o1
  have ot : f_X8_other g (some 74) (nI c) (nI d) (nI t) = some (v, g) := o1
  have mlc : ml nc M c = M c := by unfold ml; rw [if_pos hc]
  have m8 := mile8 w R (Or.inl hc)
  have m8x := mile8 w R hx
  rw [mlc] at m8
  -- the second half
  have j70 : ∀ y : Bool, j_X8_canGo_70 g (some 74) (nI t) (nI c) (nI d) (bI y) = some (bI (dB (y = true ∧ ¬ (k = 2 ∧ sm c = 1) ∧ ∀ u, u < nt → u ≠ t → hI g 75 (244 + 30 * u + d) ≠ nI c)), g) := by
    intro y
    unfold j_X8_canGo_70
    cases y with
    | false => rw [bI_f, if_pos rfl, dB_f (fun q => absurd q.1 (by decide))]; rfl
    | true =>
      rw [bI_t, if_neg (by decide), O_8 w, bd_some, mc, bd2_some]
      by_cases c1 : k = 2 ∧ sm c = 1
      · rw [if_pos c1, if_pos rfl, dB_f (fun q => q.2.1 c1)]; rfl
      · rw [if_neg c1, if_neg (by decide), O_8 w, bd_some, ot, bd2_some]
        rcases o2 with ⟨rfl, q⟩ | ⟨u, q1, rfl, q2, q3⟩
        · rw [if_neg (by decide), dB_t ⟨rfl, c1, fun u h1 h2 => q u (Nat.zero_le _) h1 h2⟩]; rfl
        · rw [if_pos (nI_pos' (by omega)), dB_f (fun q => q.2.2 u q1 q2 q3)]; rfl
  have fin : ∀ (y : Bool) (P : Prop), (y = true ↔ P) → j_X8_canGo_70 g (some 74) (nI t) (nI c) (nI d) (bI y) = some (bI (dB (P ∧ ¬ (k = 2 ∧ sm c = 1) ∧ ∀ u, u < nt → u ≠ t → hI g 75 (244 + 30 * u + d) ≠ nI c)), g) := by
    intro y P hP
    rw [j70 y]
    have e : (y = true) = P := propext hP
    rw [e]
  unfold f_X8_canGo j_X8_canGo_65 j_X8_canGo_69
  rw [O_8 w, bd_some, m8x, bd2_some, O_8 w, bd_some, m8, bd2_some]
  generalize ml nc M x = a at *
  by_cases cx : x = c
  · rw [if_pos (by rw [cx])]; exact fin true _ ⟨fun _ => Or.inl cx, fun _ => rfl⟩
  rw [if_neg (fun z => cx ((nI_eq (by omega) (by omega)).mp z))]
  by_cases c1 : M c ≤ a
  · rw [if_pos (nI_le c1 (by omega))]; exact fin false _ ⟨fun z => absurd z (by decide), fun z => z.elim (fun q => absurd q cx) (fun q => by omega)⟩
  rw [if_neg (nI_ge (by omega) (by omega)), O_8 w, bd_some, tp, bd2_some, nI_add]
  by_cases c2 : a + p < M c
  · rw [if_pos (nI_lt c2 (by omega))]; exact fin false _ ⟨fun z => absurd z (by decide), fun z => z.elim (fun q => absurd q cx) (fun q => by omega)⟩
  rw [if_neg (nI_nlt (by omega) (by omega)), gR_w (q := 74) (ci := 8) (j := 0) w (by decide) rfl rfl, bd_some, show tR 74 0 = some 75 from rfl, le, bd_some]
  by_cases c3 : E ≤ M c
  · rw [if_pos (nI_le c3 (by omega))]; exact fin false _ ⟨fun z => absurd z (by decide), fun z => z.elim (fun q => absurd q cx) (fun q => by omega)⟩
  rw [if_neg (nI_ge (by omega) (by omega)), O_8 w, bd_some, op, bd2_some]
  by_cases c4 : opn nr mr (CLp s k mr ma mb WV d) a (M c)
  · rw [dB_t c4, bI_t, if_neg (by decide)]; exact fin true _ ⟨fun _ => Or.inr ⟨by omega, by omega, by omega, c4⟩, fun _ => rfl⟩
  · rw [dB_f c4, bI_f, if_pos rfl]; exact fin false _ ⟨fun z => absurd z (by decide), fun z => z.elim (fun q => absurd q cx) (fun q => absurd q.2.2.2 c4)⟩
end Prim8
