/-! calendars of launches -/
theorem bt_nI (m i : Nat) : bt (nI m) i = (decide (i < 32) && m.testBit i) := by
  show (BitVec.ofNat 32 m).getLsbD i = _
  rw [BitVec.getLsbD_ofNat]
theorem set_bits : ∀ n, n < 11 → ∀ i, i < 32 → bt (-((1 : Int32) <<< (nI n &&& 31))) i = decide (n ≤ i) := by decide +kernel
theorem set_top : ∀ n, n < 11 → ((1 : Int32) <<< (nI n &&& 31)) - 1 = nI (2 ^ n - 1) := by decide +kernel
theorem set_lt {n : Nat} (hn : n < 11) {x : Int32} (h : (x &&& (-((1 : Int32) <<< (nI n &&& 31)))) = 0) : ∃ m, m < 2 ^ n ∧ x = nI m := by
  refine ⟨x.toBitVec.toNat, Nat.lt_pow_two_of_testBit _ (fun i hi => ?_), Int32.toBitVec_inj.mp (BitVec.eq_of_toNat_eq (pk_tn x.toBitVec.isLt).symm)⟩
  rw [BitVec.testBit_toNat]
  by_cases c : i < 32
  · have z := bt_z.mp h i c
    rw [bt_and, set_bits n hn i c, decide_eq_true hi, Bool.and_true] at z
    exact z
  · exact BitVec.getLsbD_of_ge _ _ (by omega)
theorem set_z {n m : Nat} (hn : n < 11) (hm : m < 2 ^ n) : (nI m &&& (-((1 : Int32) <<< (nI n &&& 31)))) = 0 := by
  refine bt_z.mpr (fun i hi => ?_)
  rw [bt_and, set_bits n hn i hi, bt_nI]
  by_cases c : n ≤ i
  · rw [Nat.testBit_lt_two_pow (Nat.lt_of_lt_of_le hm (Nat.pow_le_pow_right (by omega) c)), Bool.and_false, Bool.false_and]
  · rw [decide_eq_false c, Bool.and_false]
theorem sh_t : ∀ t, t < 10 → ((nI t &&& 31).toBitVec.smod 32).toNat = t := by decide +kernel
theorem refbit {m t : Nat} (hm : m < 2 ^ 31) (ht : t < 10) : ((nI m >>> (nI t &&& 31)) &&& 1) = 1 ↔ bt (nI m) t = true := by
  have d := Nat.div_le_self m (2 ^ t)
  rw [pk_shrN hm _ t (sh_t t ht), pk_andN (m := 1) (by omega) 1 rfl, bt_nI, decide_eq_true (show t < 32 by omega), Bool.true_and, Nat.testBit_eq_decide_div_mod_eq, decide_eq_true_eq]
  exact nI_eq (b := 1) (by have := Nat.mod_lt (m / 2 ^ t) (show 0 < 2 ^ 1 by omega); omega) (by omega)
theorem e7_isSet {h : AH} (w : WF h) {n : Nat} (hk : hI h 12 0 = nI n) (x : Int32) : f_X7_isSet h (some 0) x = some (if (x &&& (-((1 : Int32) <<< (nI n &&& 31)))) = 0 then 1 else 0, h) := by
  unfold f_X7_isSet
  rw [P_11 w, bd_some, O_11 w, bd_some, e7_size w, bd2_some, hk]
  by_cases c : (x &&& (-((1 : Int32) <<< (nI n &&& 31)))) = 0
  · rw [if_neg (fun q => q c), if_pos c]
  · rw [if_pos c, if_neg c]
theorem e8_isSet {g : AH} (w : WF g) {n : Nat} (hn : n < 11) (hk : hI g 75 5 = nI n) (x : Int32) : f_X8_isSet g (some 74) x = some (win x 0 (nI (2 ^ n - 1)), g) := by
  have l5 : ldI g (some 75) 5 = some (nI n) := by rw [← hk]; exact q75 w (i := 5) (by omega)
  unfold f_X8_isSet
  rw [M_75 w, bd_some, l5, bd_some, e8_isIn, bd2_some, set_top n hn, bl_win, bd_some]
/-- both say the same of a set -/
theorem set_cases {n : Nat} (hn : n < 11) (x : Int32) : (¬ (x &&& (-((1 : Int32) <<< (nI n &&& 31)))) = 0 ∧ win x 0 (nI (2 ^ n - 1)) = 0) ∨ ((x &&& (-((1 : Int32) <<< (nI n &&& 31)))) = 0 ∧ win x 0 (nI (2 ^ n - 1)) = 1 ∧ ∃ m, m < 2 ^ n ∧ x = nI m) := by
  have p2 : 2 ^ n ≤ 2 ^ 10 := Nat.pow_le_pow_right (by omega) (by omega)
  have p1 : 1 ≤ 2 ^ n := Nat.one_le_two_pow
  rcases win_nI (x := x) (a := 0) (b := 2 ^ n - 1) (by omega) (by omega) with e | ⟨e, j, j1, j2, rfl⟩
  · refine Or.inl ⟨fun z => ?_, e⟩
    obtain ⟨m, hm, rfl⟩ := set_lt hn z
    have e2 : win (nI m) 0 (nI (2 ^ n - 1)) = 0 := e
    unfold win at e2
    rw [if_neg (nI_pos (by omega)), if_neg (nI_nlt (by omega) (by omega))] at e2
    exact absurd e2 (by decide)
  · exact Or.inr ⟨set_z hn (by omega), e, j, by omega, rfl⟩
section Sched
variable {C : CT} {set : Int32}
theorem sch39 (hbit : ∀ t, t < 10 → (((set >>> (nI t &&& 31)) &&& 1) = 1 ↔ bt set t = true)) :
    ∀ (m t : Nat) (D : RW) (N : Nat → Int32) (got : Nat), t + m = C.2.2.2.1 → Rd D N C → (∀ u, t ≤ u → u < C.2.2.2.1 → bt set u = true → ∀ d, d < 30 → D 13 (35 * u + (5 + d)) = -1) → ∃ (D' : RW) (N' : Nat → Int32) (got' : Nat), Rd D' N' C ∧ (∀ k, k ≠ 13 → D' k = D k) ∧ (∀ j, 35 * C.2.2.2.1 ≤ j → D' 13 j = D 13 j) ∧ (∀ j, (j < 244 ∨ 244 + 30 * C.2.2.2.1 ≤ j) → N' j = N j) ∧
      (∀ (F : Nat) (h : AH), Bs D h → ∃ h', g_X3_schedule_39 (F + m + 1) h (some 15) (some 1) (some 11) set (nI got) (nI t) = some (nI got', h') ∧ Fr h h' [13, 15, 16, 17, 18] ∧ Bs D' h') ∧
      (∀ (F : Nat) (g : AH), WF g → hI g 75 = N → ∃ g', g_X8_calendarOf_36 (F + m + 1) g (some 74) set (nI got) (nI t) = some (nI got', g') ∧ Fr g g' [75, 80, 81] ∧ hI g' 75 = N') := by
  intro m
  induction m with
  | zero =>
    intro t D N got ht R Z
    have rt := R.2.2.2.2.2.1
    have t10 := rt.1
    refine ⟨D, N, got, R, fun _ _ => rfl, fun _ _ => rfl, fun _ _ => rfl, fun F h b => ⟨h, ?_, Fr.rf _ _, b⟩, fun F g w hg => ⟨g, ?_, Fr.rf _ _, hg⟩⟩
    · rw [show F + 0 + 1 = F + 1 from rfl, g_X3_schedule_39, O_11 b.1, bd_some, e7_size b.1, bd2_some, b.2 12 (by omega), rt.2.1, if_pos (nI_le (by omega) (by omega))]
    · have l5 : ldI g (some 75) 5 = some (nI C.2.2.2.1) := by rw [← rt.2.2.1, ← hg]; exact q75 w (i := 5) (by omega)
      rw [show F + 0 + 1 = F + 1 from rfl, g_X8_calendarOf_36, M_75 w, bd_some, l5, bd_some, if_pos (nI_le (by omega) (by omega))]
  | succ m ih =>
    intro t D N got ht R Z
    have rt := R.2.2.2.2.2.1
    have t10 := rt.1
    have s7 : ∀ (F : Nat) (h : AH), Bs D h → g_X3_schedule_39 (F + (m + 1) + 1) h (some 15) (some 1) (some 11) set (nI got) (nI t) = if bt set t = true then (bd2 (f_X3_search h (some 15) (some 1) (some 11) (nI t)) fun v62 h62 => if v62 = 0 then g_X3_schedule_39 (F + m + 1) h62 (some 15) (some 1) (some 11) set (nI got) (nI (t + 1)) else bd (isO h62 (some 15) 3) fun _ => bd (f_X3_writeNights h62 (some 15) (some 11) (nI t)) fun h72 => g_X3_schedule_39 (F + m + 1) h72 (some 15) (some 1) (some 11) set (nI got + 1) (nI (t + 1))) else g_X3_schedule_39 (F + m + 1) h (some 15) (some 1) (some 11) set (nI got) (nI (t + 1)) := by
      intro F h b
      rw [g_X3_schedule_39, O_11 b.1, bd_some, e7_size b.1, bd2_some, b.2 12 (by omega), rt.2.1, if_neg (nI_ge (by omega) (by omega)), e_holds set (by omega), bd2_some, O_15 b.1, bd_some, nI_1]
      by_cases c : bt set t = true
      · rw [if_pos c, if_pos c, if_neg (by decide)]; rfl
      · rw [if_neg c, if_neg c, if_pos rfl]; rfl
    have s8 : ∀ (F : Nat) (g : AH), WF g → hI g 75 = N → g_X8_calendarOf_36 (F + (m + 1) + 1) g (some 74) set (nI got) (nI t) = if bt set t = true then (bd2 (f_X8_planOf g (some 74) (nI t)) fun v57 h57 => if 1000 ≤ v57 then j_X8_calendarOf_76 (fun h x0 x1 x2 x3 => g_X8_calendarOf_36 (F + m + 1) h x0 x1 x2 x3) h57 (some 74) set (nI t) v57 (nI got) 0 else j_X8_calendarOf_76 (fun h x0 x1 x2 x3 => g_X8_calendarOf_36 (F + m + 1) h x0 x1 x2 x3) h57 (some 74) set (nI t) v57 (nI got) 1) else g_X8_calendarOf_36 (F + m + 1) g (some 74) set (nI got) (nI (t + 1)) := by
      intro F g w hg
      have l5 : ldI g (some 75) 5 = some (nI C.2.2.2.1) := by rw [← rt.2.2.1, ← hg]; exact q75 w (i := 5) (by omega)
      rw [g_X8_calendarOf_36, M_75 w, bd_some, l5, bd_some, if_neg (nI_ge (by omega) (by omega)), O_8 w, bd_some, nI_1]
      by_cases c : bt set t = true
      · rw [if_pos c, if_neg (fun q => q ((hbit t (by omega)).mpr c))]; rfl
      · rw [if_neg c, if_pos (fun q => c ((hbit t (by omega)).mp q))]; rfl
    by_cases c : bt set t = true
    · obtain ⟨l, n, Pt, p1, p2, p3, p4, p5, p6, p7, p8, p9⟩ := plan_both R (t := t) (by omega)
      by_cases cn : n = 0
      · obtain ⟨D', N', got', a1, a2, a3, a4, a5, a6⟩ := ih (t + 1) D N got (by omega) R (fun u h1 h2 => Z u (by omega) h2)
        refine ⟨D', N', got', a1, a2, a3, a4, fun F h b => ?_, fun F g w hg => ?_⟩
        · obtain ⟨h1, b1, f1, -, -⟩ := p7 h b
          obtain ⟨h2, c1, f2, c2⟩ := a5 F h1 (Bs_fr b f1 (by decide))
          refine ⟨h2, ?_, (f1.mono (by decide)).trans f2, c2⟩
          rw [s7 F h b, if_pos c, b1, bd2_some, if_pos cn, if_pos rfl]
          exact c1
        · obtain ⟨g1, b1, f1, b2⟩ := p9 g w hg
          have w1 := WF_fr f1 w
          have n1 : hI g1 75 = N := by rw [f1.2.2.2.2 75 (by decide)]; exact hg
          obtain ⟨g2, d1, f2, d2⟩ := lay_sp w1 (t := t) (l := l) (n := 0) (Pt := Pt) (by omega) (by omega) (by omega) (by rw [n1]; exact p3) (fun j hj => by omega)
          have n2 : hI g2 75 = N := by
            rw [d2, n1]
            refine funext fun j => ?_
            unfold ly75
            rw [if_neg (by omega)]
            by_cases q : 244 + 30 * t ≤ j ∧ j < 244 + 30 * t + 30
            · rw [if_pos q]
              have := ((rt.2.2.2 t (by omega)).2.2 (j - (244 + 30 * t)) (by omega)).1
              rw [show 244 + 30 * t + (j - (244 + 30 * t)) = j by omega, Z t (Nat.le_refl _) (by omega) c _ (by omega)] at this
              exact this.symm
            · rw [if_neg q]
          obtain ⟨g3, e1, f3, e2⟩ := a6 F g2 (WF_fr f2 w1) n2
          refine ⟨g3, ?_, (f1.mono (by decide)).trans ((f2.mono (by decide)).trans f3), e2⟩
          rw [s8 F g w hg, if_pos c, b1, bd2_some, if_pos cn, if_pos (by decide)]
          unfold j_X8_calendarOf_76
          rw [if_pos (by decide), O_8 w1, bd_some, show (0 : Int32) = nI 0 from rfl, d1, bd_some, nI_1, show nI got + nI 0 = nI got from Int32.add_zero _]
          exact e1
      · have R1 : Rd (va_up D 13 (ly13 t l n Pt (D 13))) (ly75 t l n Pt N) C := Rd_ly R (by omega) p5 p6 (fun k hk => by unfold va_up; rw [if_neg (by simp at hk; omega)]) (fun j => by unfold va_up; rw [if_pos rfl]) (fun j => rfl)
        have e13 : va_up D 13 (ly13 t l n Pt (D 13)) 13 = ly13 t l n Pt (D 13) := by unfold va_up; rw [if_pos rfl]
        have eo : ∀ k, k ≠ 13 → va_up D 13 (ly13 t l n Pt (D 13)) k = D k := fun k hk => by unfold va_up; rw [if_neg hk]
        obtain ⟨D', N', got', a1, a2, a3, a4, a5, a6⟩ := ih (t + 1) _ _ (got + 1) (by omega) R1 (fun u h1 h2 h3 d hd => by
          rw [e13]; unfold ly13; rw [if_neg (by omega), if_neg (by omega)]; exact Z u (by omega) h2 h3 d hd)
        refine ⟨D', N', got', a1, fun k hk => (a2 k hk).trans (eo k hk), fun j hj => ?_, fun j hj => ?_, fun F h b => ?_, fun F g w hg => ?_⟩
        · rw [a3 j hj, e13]; unfold ly13; rw [if_neg (by omega), if_neg (by omega)]
        · rw [a4 j hj]; unfold ly75; rw [if_neg (by omega), if_neg (by omega)]
        · obtain ⟨h1, b1, f1, b2, b3⟩ := p7 h b
          have bb := Bs_fr b f1 (by decide)
          obtain ⟨h2, d1, f2, d2⟩ := writeN_sp bb.1 (t := t) (l := l) (n := n) (Pt := Pt) (by omega) p5 ⟨by omega, p4⟩ (by rw [bb.2 13 (by omega)]; exact p2) b2 b3
          have b4 : Bs (va_up D 13 (ly13 t l n Pt (D 13))) h2 := ⟨WF_fr f2 bb.1, fun q hq => by
            by_cases e : q = 13
            · subst e; rw [d2, e13, bb.2 13 (by omega)]
            · rw [eo q e, f2.2.2.2.2 q (by simp [e])]; exact bb.2 q hq⟩
          obtain ⟨h3, e1, f3, e2⟩ := a5 F h2 b4
          refine ⟨h3, ?_, (f1.mono (by decide)).trans ((f2.mono (by decide)).trans f3), e2⟩
          rw [s7 F h b, if_pos c, b1, bd2_some, if_neg cn, if_neg (by decide), O_15 bb.1, bd_some, d1, bd_some, nI_1]
          exact e1
        · obtain ⟨g1, b1, f1, b2⟩ := p9 g w hg
          have w1 := WF_fr f1 w
          have n1 : hI g1 75 = N := by rw [f1.2.2.2.2 75 (by decide)]; exact hg
          obtain ⟨g2, d1, f2, d2⟩ := lay_sp w1 (t := t) (l := l) (n := n) (Pt := Pt) (by omega) p5 p4 (by rw [n1]; exact p3) b2
          rw [n1] at d2
          obtain ⟨g3, e1, f3, e2⟩ := a6 F g2 (WF_fr f2 w1) d2
          refine ⟨g3, ?_, (f1.mono (by decide)).trans ((f2.mono (by decide)).trans f3), e2⟩
          have k0 : ¬ (1000 : Int32) ≤ nI n := nI_ge (b := 1000) (by omega) (by omega)
          rw [s8 F g w hg, if_pos c, b1, bd2_some, if_neg cn, if_neg k0]
          unfold j_X8_calendarOf_76
          rw [if_neg k0, O_8 w1, bd_some, d1, bd_some, nI_1, nI_1]
          exact e1
    · obtain ⟨D', N', got', a1, a2, a3, a4, a5, a6⟩ := ih (t + 1) D N got (by omega) R (fun u h1 h2 => Z u (by omega) h2)
      refine ⟨D', N', got', a1, a2, a3, a4, fun F h b => ?_, fun F g w hg => ?_⟩
      · rw [s7 F h b, if_neg c]; exact a5 F h b
      · rw [s8 F g w hg, if_neg c]; exact a6 F g w hg
theorem sch3 (hbit : ∀ t, t < 10 → (((set >>> (nI t &&& 31)) &&& 1) = 1 ↔ bt set t = true)) :
    ∀ (m t : Nat) (D : RW) (N : Nat → Int32), t + m = C.2.2.2.1 → Rd D N C → ∃ (D' : RW) (N' : Nat → Int32), Rd D' N' C ∧ (∀ k, k ≠ 13 → D' k = D k) ∧ (∀ j, (j < 35 * t ∨ 35 * C.2.2.2.1 ≤ j) → D' 13 j = D 13 j) ∧ (∀ j, (j < 244 ∨ 244 + 30 * C.2.2.2.1 ≤ j) → N' j = N j) ∧ (∀ u, t ≤ u → u < C.2.2.2.1 → bt set u = true → ∀ d, d < 30 → D' 13 (35 * u + (5 + d)) = -1) ∧
      (∀ (F : Nat) (h : AH), Bs D h → ∃ h', g_X3_schedule_3 (F + m + 1) h (some 15) (some 1) (some 11) set (nI t) = g_X3_schedule_39 NN h' (some 15) (some 1) (some 11) set 0 0 ∧ Fr h h' [13] ∧ Bs D' h') ∧
      (∀ (F : Nat) (g : AH), WF g → hI g 75 = N → ∃ g', g_X8_calendarOf_2 (F + m + 1) g (some 74) set (nI t) = g_X8_calendarOf_36 NN g' (some 74) set 0 0 ∧ Fr g g' [75] ∧ hI g' 75 = N') := by
  intro m
  induction m with
  | zero =>
    intro t D N ht R
    have rt := R.2.2.2.2.2.1
    have t10 := rt.1
    refine ⟨D, N, R, fun _ _ => rfl, fun _ _ => rfl, fun _ _ => rfl, fun u h1 h2 => by omega, fun F h b => ⟨h, ?_, Fr.rf _ _, b⟩, fun F g w hg => ⟨g, ?_, Fr.rf _ _, hg⟩⟩
    · rw [show F + 0 + 1 = F + 1 from rfl, g_X3_schedule_3, O_11 b.1, bd_some, e7_size b.1, bd2_some, b.2 12 (by omega), rt.2.1, if_pos (nI_le (by omega) (by omega))]
    · have l5 : ldI g (some 75) 5 = some (nI C.2.2.2.1) := by rw [← rt.2.2.1, ← hg]; exact q75 w (i := 5) (by omega)
      rw [show F + 0 + 1 = F + 1 from rfl, g_X8_calendarOf_2, M_75 w, bd_some, l5, bd_some, if_pos (nI_le (by omega) (by omega))]
  | succ m ih =>
    intro t D N ht R
    have rt := R.2.2.2.2.2.1
    have t10 := rt.1
    have s7 : ∀ (F : Nat) (h : AH), Bs D h → g_X3_schedule_3 (F + (m + 1) + 1) h (some 15) (some 1) (some 11) set (nI t) = if bt set t = true then (bd (f_X6_clearNights h (some 11) (nI t)) fun h24 => g_X3_schedule_3 (F + m + 1) h24 (some 15) (some 1) (some 11) set (nI (t + 1))) else g_X3_schedule_3 (F + m + 1) h (some 15) (some 1) (some 11) set (nI (t + 1)) := by
      intro F h b
      rw [g_X3_schedule_3, O_11 b.1, bd_some, e7_size b.1, bd2_some, b.2 12 (by omega), rt.2.1, if_neg (nI_ge (by omega) (by omega)), e_holds set (by omega), bd2_some, O_11 b.1, bd_some, nI_1]
      by_cases c : bt set t = true
      · rw [if_pos c, if_pos c, if_neg (by decide)]; rfl
      · rw [if_neg c, if_neg c, if_pos rfl]; rfl
    have s8 : ∀ (F : Nat) (g : AH), WF g → hI g 75 = N → g_X8_calendarOf_2 (F + (m + 1) + 1) g (some 74) set (nI t) = if bt set t = true then (bd (f_X8_noNights g (some 74) (nI t)) fun h23 => g_X8_calendarOf_2 (F + m + 1) h23 (some 74) set (nI (t + 1))) else g_X8_calendarOf_2 (F + m + 1) g (some 74) set (nI (t + 1)) := by
      intro F g w hg
      have l5 : ldI g (some 75) 5 = some (nI C.2.2.2.1) := by rw [← rt.2.2.1, ← hg]; exact q75 w (i := 5) (by omega)
      rw [g_X8_calendarOf_2, M_75 w, bd_some, l5, bd_some, if_neg (nI_ge (by omega) (by omega)), O_8 w, bd_some, nI_1]
      by_cases c : bt set t = true
      · rw [if_pos c, if_neg (fun q => q ((hbit t (by omega)).mpr c))]; rfl
      · rw [if_neg c, if_pos (fun q => c ((hbit t (by omega)).mp q))]; rfl
    by_cases c : bt set t = true
    · have R1 : Rd (va_up D 13 (ly13 t 0 0 (fun _ => 0) (D 13))) (ly75 t 0 0 (fun _ => 0) N) C := Rd_ly R (l := 0) (n := 0) (Pt := fun _ => 0) (by omega) (by omega) (fun j hj => by omega) (fun k hk => by unfold va_up; rw [if_neg (by simp at hk; omega)]) (fun j => by unfold va_up; rw [if_pos rfl]) (fun j => rfl)
      have e13 : va_up D 13 (ly13 t 0 0 (fun _ => 0) (D 13)) 13 = ly13 t 0 0 (fun _ => 0) (D 13) := by unfold va_up; rw [if_pos rfl]
      have eo : ∀ k, k ≠ 13 → va_up D 13 (ly13 t 0 0 (fun _ => 0) (D 13)) k = D k := fun k hk => by unfold va_up; rw [if_neg hk]
      obtain ⟨D', N', a1, a2, a3, a4, a7, a5, a6⟩ := ih (t + 1) _ _ (by omega) R1
      refine ⟨D', N', a1, fun k hk => (a2 k hk).trans (eo k hk), fun j hj => ?_, fun j hj => ?_, fun u h1 h2 h3 d hd => ?_, fun F h b => ?_, fun F g w hg => ?_⟩
      · rw [a3 j (by omega), e13]; unfold ly13; rw [if_neg (by omega), if_neg (by omega)]
      · rw [a4 j hj]; unfold ly75; rw [if_neg (by omega), if_neg (by omega)]
      · by_cases e : u = t
        · subst e
          rw [a3 _ (by omega), e13]; unfold ly13; rw [if_neg (by omega), if_pos (by omega)]
        · exact a7 u (by omega) h2 h3 d hd
      · obtain ⟨h1, b1, f1, n1⟩ := e6_clear b.1 (t := t) (by omega)
        obtain ⟨h2, e1, f2, e2⟩ := a5 F h1 ⟨WF_fr f1 b.1, fun q hq => by
          by_cases e : q = 13
          · subst e
            rw [e13]
            refine funext fun j => ?_
            rw [n1 j, b.2 13 (by omega)]
            unfold ly13
            rw [if_neg (show ¬ (35 * t + (5 + 0) ≤ j ∧ j + 1 < 35 * t + (5 + (0 + 0))) by omega)]
          · rw [eo q e, f1.2.2.2.2 q (by simp [e])]; exact b.2 q hq⟩
        refine ⟨h2, ?_, f1.trans f2, e2⟩
        rw [s7 F h b, if_pos c, b1, bd_some]
        exact e1
      · obtain ⟨g1, b1, f1, n1⟩ := e8_clear w (t := t) (by omega)
        obtain ⟨g2, e1, f2, e2⟩ := a6 F g1 (WF_fr f1 w) (by
          refine funext fun j => ?_
          rw [n1 j, hg]
          unfold ly75
          rw [if_neg (show ¬ (244 + 30 * t + 0 ≤ j ∧ j + 1 < 244 + 30 * t + (0 + 0)) by omega)])
        refine ⟨g2, ?_, f1.trans f2, e2⟩
        rw [s8 F g w hg, if_pos c, b1, bd_some]
        exact e1
    · obtain ⟨D', N', a1, a2, a3, a4, a7, a5, a6⟩ := ih (t + 1) D N (by omega) R
      refine ⟨D', N', a1, a2, fun j hj => a3 j (by omega), a4, fun u h1 h2 h3 d hd => ?_, fun F h b => ?_, fun F g w hg => ?_⟩
      · by_cases e : u = t
        · subst e; exact absurd h3 c
        · exact a7 u (by omega) h2 h3 d hd
      · rw [s7 F h b, if_neg c]; exact a5 F h b
      · rw [s8 F g w hg, if_neg c]; exact a6 F g w hg
theorem sched_both (hbit : ∀ t, t < 10 → (((set >>> (nI t &&& 31)) &&& 1) = 1 ↔ bt set t = true)) {D : RW} {N : Nat → Int32} (R : Rd D N C) : ∃ (D' : RW) (N' : Nat → Int32) (got : Nat), Rd D' N' C ∧ (∀ k, k ≠ 13 → D' k = D k) ∧ (∀ j, 35 * C.2.2.2.1 ≤ j → D' 13 j = D 13 j) ∧ (∀ j, (j < 244 ∨ 244 + 30 * C.2.2.2.1 ≤ j) → N' j = N j) ∧
      (∀ h : AH, Bs D h → ∃ h', f_X3_schedule h (some 15) (some 1) (some 11) set = some (nI got, h') ∧ Fr h h' [13, 15, 16, 17, 18] ∧ Bs D' h') ∧
      (∀ g : AH, WF g → hI g 75 = N → ∃ g', f_X8_calendarOf g (some 74) set = some (nI got, g') ∧ Fr g g' [75, 80, 81] ∧ hI g' 75 = N') := by
  have t10 := R.2.2.2.2.2.1.1
  obtain ⟨D1, N1, a1, a2, a3, a4, a5, a6, a7⟩ := sch3 hbit C.2.2.2.1 0 D N (by omega) R
  obtain ⟨D2, N2, got, b1, b2, b3, b4, b5, b6⟩ := sch39 hbit C.2.2.2.1 0 D1 N1 0 (by omega) a1 a5
  obtain ⟨F, hF⟩ := NN_ge C.2.2.2.1 (by omega)
  refine ⟨D2, N2, got, b1, fun k hk => (b2 k hk).trans (a2 k hk), fun j hj => (b3 j hj).trans (a3 j (Or.inr hj)), fun j hj => (b4 j hj).trans (a4 j hj), fun h b => ?_, fun g w hg => ?_⟩
  · obtain ⟨h1, c1, f1, c2⟩ := a6 F h b
    obtain ⟨h2, d1, f2, d2⟩ := b5 F h1 c2
    refine ⟨h2, ?_, (f1.mono (by decide)).trans f2, d2⟩
    unfold f_X3_schedule
    rw [hF, show (0 : Int32) = nI 0 from rfl, c1, hF, show (0 : Int32) = nI 0 from rfl, d1]
  · obtain ⟨g1, c1, f1, c2⟩ := a7 F g w hg
    obtain ⟨g2, d1, f2, d2⟩ := b6 F g1 (WF_fr f1 w) c2
    refine ⟨g2, ?_, (f1.mono (by decide)).trans f2, d2⟩
    unfold f_X8_calendarOf
    rw [hF, show (0 : Int32) = nI 0 from rfl, c1, hF, show (0 : Int32) = nI 0 from rfl, d1]
end Sched
