/-! the draw -/
theorem ush (z : Int32) : ∃ m : Nat, m < 65536 ∧ ((z : Int32).toUInt32 >>> ((16 : Int32).toUInt32 &&& Int32.toUInt32 31)).toInt32 = nI m := by
  refine ⟨z.toBitVec.toNat / 2 ^ 16, ?_, ?_⟩
  · have := z.toBitVec.isLt; omega
  · refine Int32.toBitVec_inj.mp (BitVec.eq_of_toNat_eq ?_)
    rw [pk_ushr z 16 16 (by decide), pk_tn (by have := z.toBitVec.isLt; omega)]
theorem own_both {hc hm : AH} (wc : WF hc) (wm : WF hm) {na : Nat} {W : Nat → Nat} (hw : Wt hc na W) (hmw : Wm hm na W) {gn : Nat → Bool} {L : Int32} (hL : ∀ a, a < na → bt L a = !gn a) (hg : ∀ a, a < na → hI hm 84 a = if gn a = true then 1 else 0) (k34 : AH → Option Nat → Int32 → Int32 → Int32 → Option AH) {x s : Int32} {i : Nat} (hi : i < 12) :
    ∀ (k a F G v : Nat), a + k = na → v < sw W gn k a → v < 70000 → ∃ wn, a ≤ wn ∧ wn < na ∧ gn wn = false ∧ g_X0_owner_5 (F + k + 1) hc (some 19) L (nI v) (nI a) = some (nI wn, hc) ∧ g_X8_draw_66 k34 (G + k + 1) hm (some 74) x s (nI i) (nI v) (nI a) = k34 (sI (sI hm 83 (upd (hI hm 83) i (nI wn))) 84 (upd (hI hm 84) wn 1)) (some 74) x (s - nI (W wn)) (nI (i + 1)) := by
  obtain ⟨h12, w2, w3⟩ := hw
  obtain ⟨-, -, w4⟩ := hmw
  intro k
  induction k with
  | zero => intro a F G v h1 h2; exact absurd h2 (by unfold sw; omega)
  | succ k ih =>
    intro a F G v h1 h2 h3
    have c1 : ¬ nI na ≤ nI a := nI_ge (by omega) (by omega)
    have ld : ldI hc (some 21) (nI a) = some (nI (W a)) := by rw [← (w3 a (by omega)).2.2]; exact ldI_w wc (by decide) rfl (by show a < 12; omega) (by decide)
    have ldm : ldI hm (some 75) (544 + nI a) = some (nI (W a)) := by rw [← (w4 a (by omega)).2.2, show 544 + nI a = nI (544 + a) from nI_add 544 a]; exact q75 wm (by omega)
    have lz : ldZ hm (some 84) (nI a) = some (if gn a = true then 1 else 0) := by rw [← hg a (by omega)]; exact ldZ_w wm (by decide) rfl (by show a < 12; omega) (by decide)
    have bw := w3 a (by omega)
    unfold sw at h2
    rw [g_X0_owner_5, isO_w (q := 19) (ci := 0) wc (by decide) rfl, bd_some, e7_sizeA wc, bd2_some, w2, if_neg c1, e_holds L (by omega), bd2_some, hL a (by omega), gR_w (q := 19) (ci := 0) (j := 1) wc (by decide) rfl rfl, bd_some, show tR 19 1 = some 21 from rfl, ld, bd_some, bd_some, ld, bd_some, nI_1]
    rw [g_X8_draw_66, gR_w (q := 74) (ci := 8) (j := 11) wm (by decide) rfl rfl, bd_some, show tR 74 11 = some 84 from rfl, lz, bd_some, gR_w (q := 74) (ci := 8) (j := 0) wm (by decide) rfl rfl, bd_some, show tR 74 0 = some 75 from rfl, ldm, bd_some]
    unfold j_X8_draw_92 j_X8_draw_119
    rw [gR_w (q := 74) (ci := 8) (j := 11) wm (by decide) rfl rfl, bd_some, show tR 74 11 = some 84 from rfl, lz, bd_some, gR_w (q := 74) (ci := 8) (j := 0) wm (by decide) rfl rfl, bd_some, show tR 74 0 = some 75 from rfl, ldm, bd_some, nI_1]
    by_cases c : gn a = true
    · rw [if_pos c, Nat.zero_add] at h2
      rw [c, if_neg (show ¬ (!true) = true by decide), if_pos rfl, if_pos rfl, if_pos (by decide), if_neg (by decide), Int32.sub_zero]
      obtain ⟨wn, a1, a2, a3, a4, a5⟩ := ih (a + 1) F G v (by omega) h2 h3
      exact ⟨wn, by omega, a2, a3, a4, a5⟩
    · have c' : gn a = false := Bool.eq_false_iff.mpr c
      rw [if_neg c] at h2
      rw [c', if_pos (show (!false) = true by decide), if_neg (show ¬ (1 : Int32) = 0 by decide), if_neg (show ¬ false = true by decide), if_neg (show ¬ ¬ (0 : Int32) = 0 by decide), if_pos (show (0 : Int32) = 0 from rfl)]
      by_cases cv : v < W a
      · refine ⟨a, Nat.le_refl _, by omega, c', ?_, ?_⟩
        · rw [if_neg (nI_ge cv (by omega))]
        · have s83 : stI hm (some 83) (nI i) (nI a) = some (sI hm 83 (upd (hI hm 83) i (nI a))) := stI_w wm (by decide) rfl (by show i < 12; omega) (by decide)
          have wm2 : WF (sI hm 83 (upd (hI hm 83) i (nI a))) := (WF_sI _ _ _).mpr wm
          have s84 : stZ (sI hm 83 (upd (hI hm 83) i (nI a))) (some 84) (nI a) 1 = some (sI (sI hm 83 (upd (hI hm 83) i (nI a))) 84 (upd (hI hm 84) a 1)) := by
            rw [stZ_w wm2 (q := 84) (by decide) rfl (by show a < 12; omega) (by decide) (Or.inr rfl), sI_ne (by decide)]
          have wm3 : WF (sI (sI hm 83 (upd (hI hm 83) i (nI a))) 84 (upd (hI hm 84) a 1)) := (WF_sI _ _ _).mpr wm2
          have ld3 : ldI (sI (sI hm 83 (upd (hI hm 83) i (nI a))) 84 (upd (hI hm 84) a 1)) (some 75) (544 + nI a) = some (nI (W a)) := by
            rw [show 544 + nI a = nI (544 + a) from nI_add 544 a, q75 wm3 (by omega), sI_ne (by decide), sI_ne (by decide), (w4 a (by omega)).2.2]
          rw [if_pos (nI_lt cv (by omega)), gR_w (q := 74) (ci := 8) (j := 10) wm (by decide) rfl rfl, bd_some, show tR 74 10 = some 83 from rfl, s83, bd_some, gR_w (q := 74) (ci := 8) (j := 11) wm2 (by decide) rfl rfl, bd_some, show tR 74 11 = some 84 from rfl, s84, bd_some, gR_w (q := 74) (ci := 8) (j := 0) wm3 (by decide) rfl rfl, bd_some, show tR 74 0 = some 75 from rfl, ld3, bd_some, nI_1]
      · rw [if_pos (nI_le (by omega) (by omega)), if_neg (nI_nlt (by omega) (by omega)), pk_sub (by omega)]
        obtain ⟨wn, a1, a2, a3, a4, a5⟩ := ih (a + 1) F G (v - W a) (by omega) (by omega) (by omega)
        exact ⟨wn, by omega, a2, a3, a4, a5⟩
def DrF (hc hm : AH) (na : Nat) : Prop := (∀ j, j < na → hI hc 22 j = hI hm 83 j) ∧ (∀ a, a < na → ∃ j, j < na ∧ hI hc 22 j = nI a) ∧ ∀ j j2, j < na → j2 < na → hI hc 22 j = hI hc 22 j2 → j = j2
theorem draw_both {na : Nat} {W : Nat → Nat} (h12 : na ≤ 12) : ∀ (k i F G : Nat) (x L : Int32) (gn : Nat → Bool) (hc hm : AH), i + k = na → WF hc → WF hm → Wt hc na W → Wm hm na W → (∀ a, a < na → bt L a = !gn a) → (∀ a, a < na → hI hm 84 a = if gn a = true then 1 else 0) → sw (fun _ => 1) gn na 0 = k →
    (∀ j, j < i → hI hc 22 j = hI hm 83 j) → (∀ a, a < na → gn a = true → ∃ j, j < i ∧ hI hc 22 j = nI a) → (∀ j, j < i → ∃ a, a < na ∧ gn a = true ∧ hI hc 22 j = nI a) → (∀ j j2, j < i → j2 < i → hI hc 22 j = hI hc 22 j2 → j = j2) →
    ∃ hc2 hm2, g_X0_draw_10 (F + k + 1) hc (some 19) x L (nI i) = some hc2 ∧ g_X8_draw_34 (G + k + 1) hm (some 74) x (nI (sw W gn na 0)) (nI i) = some hm2 ∧ Fr hc hc2 [22] ∧ Fr hm hm2 [83, 84] ∧ DrF hc2 hm2 na := by
  intro k
  induction k with
  | zero =>
    intro i F G x L gn hc hm hi wc wm hw hmw hL hg hk o1 o2 o3 o4
    have ei : i = na := by omega
    subst ei
    have c1 : nI i ≤ nI i := nI_le (by omega) (by omega)
    have m6 : ldI hm (some 75) 6 = some (nI i) := by rw [← hmw.2.1]; exact q75 wm (i := 6) (by omega)
    refine ⟨hc, hm, ?_, ?_, Fr.rf _ _, Fr.rf _ _, o1, fun a ha => o2 a ha (sw_zero i 0 hk a (by omega) (by omega)), o4⟩
    · rw [show F + 0 + 1 = F + 1 from rfl, g_X0_draw_10, isO_w (q := 19) (ci := 0) wc (by decide) rfl, bd_some, e7_sizeA wc, bd2_some, hw.2.1, if_pos c1]
    · rw [show G + 0 + 1 = G + 1 from rfl, g_X8_draw_34, gR_w (q := 74) (ci := 8) (j := 0) wm (by decide) rfl rfl, bd_some, show tR 74 0 = some 75 from rfl, m6, bd_some, if_pos c1]
  | succ k ih =>
    intro i F G x L gn hc hm hi wc wm hw hmw hL hg hk o1 o2 o3 o4
    have c1 : ¬ nI na ≤ nI i := nI_ge (by omega) (by omega)
    have m6 : ldI hm (some 75) 6 = some (nI na) := by rw [← hmw.2.1]; exact q75 wm (i := 6) (by omega)
    obtain ⟨b0, x1, x2, x3⟩ := sw_one (gn := gn) na 0 (by omega)
    have sp := sw_mem (W := W) (gn := gn) na 0 b0 x1 x2 x3
    have b0w := (hw.2.2 b0 (by omega)).1
    have sl := sw_le (W := W) (gn := gn) na 0 (fun b _ hb => (hw.2.2 b (by omega)).2.1)
    obtain ⟨m, hm1, hm2⟩ := ush (1103515245 * x + 12345)
    obtain ⟨Fi, hFi⟩ := NN_ge na (by omega)
    have tg := e0_tog wc hw hL
    generalize hS : sw W gn na 0 = S at *
    have mx : (if 1 < nI S then nI S else 1) = nI S := by
      by_cases c : S = 1
      · subst c; rfl
      · rw [if_pos (show (1 : Int32) < nI S from nI_lt (a := 1) (by omega) (by omega))]
    have r1 : rm (nI m) (nI S) = some (nI (m % S)) := rm_nI (by omega) (by omega) (by omega)
    have ml := Nat.mod_lt m (show 0 < S by omega)
    obtain ⟨wn, a1, a2, a3, a4, a5⟩ := own_both wc wm hw hmw hL hg (fun h x0 x2 x3 x4 => g_X8_draw_34 (G + (k + 1)) h x0 x2 x3 x4) (x := 1103515245 * x + 12345) (s := nI S) (i := i) (by omega) na 0 Fi Fi (m % S) (by omega) (by rw [hS]; exact ml) (by omega)
    have sn := sw_in (W := W) a3 na 0 (by omega) (by omega)
    have sn1 := sw_in (W := fun _ => 1) a3 na 0 (by omega) (by omega)
    have dS : nI S - nI (W wn) = nI (sw W (gnu gn wn) na 0) := by rw [pk_sub (by omega)]; congr 1; omega
    have st22 : stI hc (some 22) (nI i) (nI wn) = some (sI hc 22 (upd (hI hc 22) i (nI wn))) := stI_w wc (by decide) rfl (by show i < 12; omega) (by decide)
    rw [← hFi] at a4 a5
    have ow : f_X0_owner hc (some 19) L (nI (m % S)) = some (nI wn, hc) := a4
    have cc2 : ∀ j, hI (sI hc 22 (upd (hI hc 22) i (nI wn))) 22 j = if j = i then nI wn else hI hc 22 j := fun j => by rw [sI_eq]; rfl
    obtain ⟨hc2, hm2', z1, z2, z3, z4, z5⟩ := ih (i + 1) F G (1103515245 * x + 12345) (L &&& ((1 <<< (nI wn &&& 31)) ^^^ (-1))) (gnu gn wn) (sI hc 22 (upd (hI hc 22) i (nI wn))) (sI (sI hm 83 (upd (hI hm 83) i (nI wn))) 84 (upd (hI hm 84) wn 1)) (by omega) ((WF_sI _ _ _).mpr wc) (by rw [WF_sI, WF_sI]; exact wm)
      ⟨h12, by rw [sI_ne (by decide)]; exact hw.2.1, fun a ha => by rw [sI_ne (by decide)]; exact hw.2.2 a ha⟩ ⟨h12, by rw [sI_ne (by decide), sI_ne (by decide)]; exact hmw.2.1, fun a ha => by rw [sI_ne (by decide), sI_ne (by decide)]; exact hmw.2.2 a ha⟩
      (fun a ha => by
        rw [bt_and, bt_xor _ (by omega), bt_one (by omega), hL a ha]
        unfold gnu
        by_cases e : a = wn
        · rw [if_pos e, decide_eq_true e.symm]; simp
        · rw [if_neg e, decide_eq_false (fun z => e z.symm)]; simp)
      (fun a ha => by
        rw [sI_eq]
        unfold gnu upd
        by_cases e : a = wn
        · rw [if_pos e, if_pos e, if_pos rfl]
        · rw [if_neg e, if_neg e]; exact hg a ha)
      (by omega)
      (fun j hj => by
        rw [cc2, sI_ne (by decide), sI_eq]
        unfold upd
        by_cases e : j = i
        · rw [if_pos e, if_pos e]
        · rw [if_neg e, if_neg e]; exact o1 j (by omega))
      (fun a ha hga => by
        unfold gnu at hga
        by_cases e : a = wn
        · exact ⟨i, by omega, by rw [cc2, if_pos rfl, e]⟩
        · rw [if_neg e] at hga
          obtain ⟨j, j1, j2⟩ := o2 a ha hga
          exact ⟨j, by omega, by rw [cc2, if_neg (by omega)]; exact j2⟩)
      (fun j hj => by
        by_cases e : j = i
        · exact ⟨wn, a2, by unfold gnu; rw [if_pos rfl], by rw [cc2, if_pos e]⟩
        · obtain ⟨a, y1, y2, y3⟩ := o3 j (by omega)
          refine ⟨a, y1, ?_, by rw [cc2, if_neg e]; exact y3⟩
          unfold gnu
          split
          · rfl
          · exact y2)
      (fun j j2 hj hj2 q => by
        rw [cc2, cc2] at q
        by_cases e : j = i
        · by_cases e2 : j2 = i
          · omega
          · rw [if_pos e, if_neg e2] at q
            obtain ⟨a, y1, y2, y3⟩ := o3 j2 (by omega)
            rw [y3] at q
            have := (nI_eq (by omega) (by omega)).mp q
            subst this
            rw [a3] at y2; exact absurd y2 (by decide)
        · by_cases e2 : j2 = i
          · rw [if_neg e, if_pos e2] at q
            obtain ⟨a, y1, y2, y3⟩ := o3 j (by omega)
            rw [y3] at q
            have := (nI_eq (by omega) (by omega)).mp q
            subst this
            rw [a3] at y2; exact absurd y2 (by decide)
          · rw [if_neg e, if_neg e2] at q
            exact o4 j j2 (by omega) (by omega) q)
    refine ⟨hc2, hm2', ?_, ?_, (Fr.sI hc (by decide)).trans z3, ((Fr.sI hm (by decide)).trans (Fr.sI _ (by decide))).trans z4, z5⟩
    · rw [g_X0_draw_10, isO_w (q := 19) (ci := 0) wc (by decide) rfl, bd_some, e7_sizeA wc, bd2_some, hw.2.1, if_neg c1, isO_w (q := 19) (ci := 0) wc (by decide) rfl, bd_some, tg, bd2_some, hm2, mx, r1, bd_some, isO_w (q := 19) (ci := 0) wc (by decide) rfl, bd_some, ow, bd2_some, gR_w (q := 19) (ci := 0) (j := 2) wc (by decide) rfl rfl, bd_some, show tR 19 2 = some 22 from rfl, st22, bd_some, nI_1]
      exact z1
    · rw [g_X8_draw_34, gR_w (q := 74) (ci := 8) (j := 0) wm (by decide) rfl rfl, bd_some, show tR 74 0 = some 75 from rfl, m6, bd_some, if_neg c1, hm2, r1, bd_some, show (0 : Int32) = nI 0 from rfl, a5, dS]
      exact z2
theorem gone0 {x s : Int32} : ∀ (d i F : Nat) (h : AH), i + d = 12 → WF h → ∃ h1, g_X8_draw_10 (F + d + 1) h (some 74) x s (nI i) = g_X8_draw_34 NN h1 (some 74) x s 0 ∧ Fr h h1 [84] ∧ ∀ j, hI h1 84 j = if i ≤ j ∧ j < 12 then 0 else hI h 84 j := by
  intro d
  induction d with
  | zero =>
    intro i F h hi w
    have : i = 12 := by omega
    subst this
    refine ⟨h, ?_, Fr.rf h _, fun j => by rw [if_neg (by omega)]⟩
    rw [show F + 0 + 1 = F + 1 from rfl, g_X8_draw_10, if_pos (by decide)]
  | succ d ih =>
    intro i F h hi w
    have c : ¬ (12 : Int32) ≤ nI i := nI_ge (b := 12) (by omega) (by omega)
    have sz : stZ h (some 84) (nI i) 0 = some (sI h 84 (upd (hI h 84) i 0)) := stZ_w w (q := 84) (by decide) rfl (by show i < 12; omega) (by decide) (Or.inl rfl)
    obtain ⟨h1, a1, a2, a3⟩ := ih (i + 1) F (sI h 84 (upd (hI h 84) i 0)) (by omega) ((WF_sI _ _ _).mpr w)
    refine ⟨h1, ?_, (Fr.sI h (by decide)).trans a2, fun j => ?_⟩
    · rw [g_X8_draw_10, if_neg c, gR_w (q := 74) (ci := 8) (j := 11) w (by decide) rfl rfl, bd_some, show tR 74 11 = some 84 from rfl, sz, bd_some, nI_1]
      exact a1
    · rw [a3 j, sI_eq]
      unfold upd
      by_cases c1 : i + 1 ≤ j ∧ j < 12
      · rw [if_pos c1, if_pos (by omega)]
      · rw [if_neg c1]
        by_cases c2 : j = i
        · rw [if_pos c2, if_pos (by omega)]
        · rw [if_neg c2, if_neg (by omega)]
/-- both draw -/
theorem draw_ok {h : AH} (w : WF h) {C : CT} (R : Rd (hI h) (hI h 75) C) (x : Int32) : ∃ h1 h2, f_X0_draw h (some 19) x = some h1 ∧ f_X8_draw h1 (some 74) x = some h2 ∧ WF h1 ∧ WF h2 ∧ Fr h h1 [22] ∧ Fr h1 h2 [83, 84] ∧ DrF h1 h2 C.2.2.2.2 := by
  obtain ⟨-, -, -, -, -, -, ra⟩ := R
  obtain ⟨W, hW⟩ := W_of ra
  obtain ⟨a1, a2, a3, -⟩ := ra
  have hw : Wt h C.2.2.2.2 W := ⟨a1, a2, fun b hb => ⟨(hW b hb).1, (hW b hb).2.1, (hW b hb).2.2.1⟩⟩
  have hmw : Wm h C.2.2.2.2 W := ⟨a1, a3, fun b hb => ⟨(hW b hb).1, (hW b hb).2.1, (hW b hb).2.2.2⟩⟩
  obtain ⟨L, l1, l2⟩ := e0_every w a1 a2
  generalize C.2.2.2.2 = na at *
  obtain ⟨F, hF⟩ := NN_ge na (by omega)
  obtain ⟨F3, hF3⟩ := NN_ge 12 (by omega)
  -- the class alone first: it does not read the reference, so run both from h, then move the reference behind the class
  have run : ∀ g : AH, WF g → hI g 75 = hI h 75 → ∃ hc2 hm2, f_X0_draw h (some 19) x = some hc2 ∧ f_X8_draw g (some 74) x = some hm2 ∧ Fr h hc2 [22] ∧ Fr g hm2 [83, 84] ∧ DrF hc2 hm2 na := by
    intro g wg hg
    have gmw : Wm g na W := ⟨a1, by rw [hg]; exact a3, fun b hb => by rw [hg]; exact hmw.2.2 b hb⟩
    obtain ⟨g1, e1, f1, n1⟩ := gone0 (x := x) (s := nI (sw W (fun _ => false) na 0)) 12 0 F3 g rfl wg
    rw [← hF3] at e1
    have n75 : hI g1 75 = hI g 75 := f1.2.2.2.2 75 (by decide)
    obtain ⟨hc2, hm2, z1, z2, z3, z4, z5⟩ := draw_both (W := W) a1 na 0 F F x L (fun _ => false) h g1 (by omega) w (WF_fr f1 wg) hw ⟨a1, by rw [n75]; exact gmw.2.1, fun b hb => by rw [n75]; exact gmw.2.2 b hb⟩ (fun a ha => by rw [l2 a (by omega), decide_eq_true ha]; rfl) (fun a ha => by rw [n1, if_pos (by omega), if_neg (by decide)]) (sw_all na 0) (fun j hj => by omega) (fun a _ z => absurd z (by decide)) (fun j hj => by omega) (fun j _ hj => by omega)
    rw [← hF] at z1 z2
    refine ⟨hc2, hm2, ?_, ?_, z3, (f1.mono (by decide)).trans z4, z5⟩
    · unfold f_X0_draw
      rw [isO_w (q := 19) (ci := 0) w (by decide) rfl, bd_some, l1, bd2_some]
      exact z1
    · unfold f_X8_draw
      rw [isO_w (q := 74) (ci := 8) wg (by decide) rfl, bd_some, e8_wts wg gmw, bd2_some, show (0 : Int32) = nI 0 from rfl, e1, show (0 : Int32) = nI 0 from rfl]
      exact z2
  obtain ⟨h1, -, y1, -, y3, -⟩ := run h w rfl
  have w1 : WF h1 := WF_fr y3 w
  obtain ⟨hc2, h2, v1, v2, v3, v4, v5⟩ := run h1 w1 (y3.2.2.2.2 75 (by decide))
  have e : hc2 = h1 := Option.some.inj (v1.symm.trans y1)
  subst e
  exact ⟨hc2, h2, v1, v2, w1, WF_fr v4 w1, v3, v4, v5⟩
theorem draw_rel {h h1 h2 : AH} (w : WF h) (r : Rel h) (f1 : Fr h h1 [22]) (f2 : Fr h1 h2 [83, 84]) : Rel h2 ∧ hn h2 ≤ hn h + 1 ∧ hs h2 ≤ hs h + 350 := by
  have ek : ∀ k, k ≠ 22 → k ≠ 83 → k ≠ 84 → hI h2 k = hI h k := fun k a b c => by rw [f2.2.2.2.2 k (by simp [b, c]), f1.2.2.2.2 k (by simp [a])]
  obtain ⟨C, r1, r2, r3, r4⟩ := id r
  refine ⟨Rel_of w r (fun k hk => ek k ?_ ?_ ?_) (by rw [f2.1, f1.1]) (by rw [f2.2.1, f1.2.1]) (Sh_of r2 (fun k hk => ek k (by omega) (by omega) (by omega))) (by rw [ek 0 (by omega) (by omega) (by omega), ek 74 (by omega) (by omega) (by omega)]; exact r3) (by rw [ek 74 (by omega) (by omega) (by omega)]), by rw [f2.2.2.1, f1.2.2.1]; omega, by rw [f2.2.2.2.1, f1.2.2.2.1]; omega⟩
  all_goals (intro e; subst e; exact absurd hk (by decide))
theorem op_drawn (x y : Int32) : OpOk (fun h => f_X7_drawn h (some 0) x y) (fun h => f_X8_drawn h (some 74) x y) := by
  intro h w r
  obtain ⟨C, r1, -, r3, -⟩ := id r
  obtain ⟨-, -, -, -, -, -, ⟨a1, a2, a3, -⟩⟩ := id r1
  have h100 : C.2.2.2.2 ≤ 100 := by omega
  have m6 : ∀ g, WF g → hI g 75 = hI h 75 → ldI g (some 75) 6 = some (nI C.2.2.2.2) := fun g wg hg => by rw [← a3, ← hg]; exact q75 wg (i := 6) (by omega)
  rcases ixw_cases y (k := C.2.2.2.2) (by omega) with e | ⟨e, a, ha, rfl⟩
  · exact fin_ok (a := fun h => f_X7_drawn h (some 0) x y) (b := fun h => f_X8_drawn h (some 74) x y) (x := -100001) w r (by show f_X7_drawn h (some 0) x y = _; simp (disch := first | (simp only [WF_sI]; exact w) | exact (w) | decide | (simp only [shq]; omega)) only [bd_some, bd2_some, bd2_id, i10, i00, not_true_eq_false, not_false_eq_true, if_true, if_false, ↓reduceIte, gR_w, gI_w, pI_w, isO_w, ldI_w, stI_w, ldZ_w, stZ_w, lenA_w, tR, f_X7_drawn, e7_isApp w a2 h100, e]) (fun f => by show f_X8_drawn (sI h 0 f) (some 74) x y = _; unfold f_X8_drawn; rw [isO_w (q := 74) (ci := 8) (w0 w f) (by decide) rfl, bd_some, gR_w (q := 74) (ci := 8) (j := 0) (w0 w f) (by decide) rfl rfl, bd_some, show tR 74 0 = some 75 from rfl, m6 _ (w0 w f) (sI_ne (by decide)), bd_some, bd2_id]; unfold ixw at e; split at e; rename_i c; rw [if_pos c]; rename_i c; split at e; rename_i c2; rw [if_neg c, if_neg (Int32.not_lt.mpr c2)]; exact absurd e (by decide))
  have e' : ¬ ixw (nI a) C.2.2.2.2 = 0 := by rw [e]; decide
  obtain ⟨h1, h2, y1, y2, w1, w2, f1, f2, d1, d2, d3⟩ := draw_ok w r1 x
  have z := draw_rel w r f1 f2
  refine ⟨hI h1 22 a, h1, h2, ?_, ?_, w2, z⟩
  · show f_X7_drawn h (some 0) x (nI a) = _
    unfold f_X7_drawn
    rw [isO_w (q := 0) (ci := 7) w (by decide) rfl, bd_some, e7_isApp w a2 h100, bd2_some, if_pos e', gR_w (q := 0) (ci := 7) (j := 3) w (by decide) rfl rfl, bd_some, show tR 0 3 = some 19 from rfl, isO_w (q := 19) (ci := 0) w (by decide) rfl, bd_some, y1, bd_some, gR_w (q := 0) (ci := 7) (j := 3) w1 (by decide) rfl rfl, bd_some, show tR 0 3 = some 19 from rfl, gR_w (q := 19) (ci := 0) (j := 2) w1 (by decide) rfl rfl, bd_some, show tR 19 2 = some 22 from rfl, ldI_w (q := 22) w1 (by decide) rfl (by show a < 12; omega) (by decide), bd_some]
  · show f_X8_drawn h1 (some 74) x (nI a) = _
    unfold f_X8_drawn
    rw [if_neg (nI_pos (by omega)), gR_w (q := 74) (ci := 8) (j := 0) w1 (by decide) rfl rfl, bd_some, show tR 74 0 = some 75 from rfl, m6 _ w1 (f1.2.2.2.2 75 (by decide)), bd_some, if_pos (nI_lt ha (by omega)), isO_w (q := 74) (ci := 8) w1 (by decide) rfl, bd_some, y2, bd_some, gR_w (q := 74) (ci := 8) (j := 10) w2 (by decide) rfl rfl, bd_some, show tR 74 10 = some 83 from rfl, ldI_w (q := 83) w2 (by decide) rfl (by show a < 12; omega) (by decide), bd_some, d1 a ha]
theorem place_sp {h : AH} (w : WF h) {na j0 a : Nat} (h12 : na ≤ 12) (a2 : hI h 20 0 = nI na) (hj : j0 < na) (e0 : hI h 22 j0 = nI a) (un : ∀ j, j < na → hI h 22 j = nI a → j = j0) :
    ∀ (k i F : Nat) (p : Int32), i + k = na → (j0 < i → p = nI j0) → g_X0_placeOf_4 (F + k + 1) h (some 19) (nI a) p (nI i) = some (nI j0, h) := by
  intro k
  induction k with
  | zero =>
    intro i F p hi hp
    have c1 : nI na ≤ nI i := nI_le (by omega) (by omega)
    rw [show F + 0 + 1 = F + 1 from rfl, g_X0_placeOf_4, isO_w (q := 19) (ci := 0) w (by decide) rfl, bd_some, e7_sizeA w, bd2_some, a2, if_pos c1, hp (by omega)]
  | succ k ih =>
    intro i F p hi hp
    have c1 : ¬ nI na ≤ nI i := nI_ge (by omega) (by omega)
    rw [g_X0_placeOf_4, isO_w (q := 19) (ci := 0) w (by decide) rfl, bd_some, e7_sizeA w, bd2_some, a2, if_neg c1, gR_w (q := 19) (ci := 0) (j := 2) w (by decide) rfl rfl, bd_some, show tR 19 2 = some 22 from rfl, ldI_w (q := 22) w (by decide) rfl (by show i < 12; omega) (by decide), bd_some, nI_1]
    by_cases c : i = j0
    · rw [c, e0, if_neg (fun z => z rfl)]
      exact ih (j0 + 1) F (nI j0) (by omega) (fun _ => rfl)
    · have n1 : ¬ hI h 22 i = nI a := fun z => c (un i (by omega) z)
      rw [if_pos n1]
      exact ih (i + 1) F p (by omega) (fun z => hp (by omega))
theorem turn_sp {h : AH} (w : WF h) {na j0 a : Nat} (h12 : na ≤ 12) (hj : j0 < na) (e0 : hI h 83 j0 = nI a) (un : ∀ j, j < na → hI h 83 j = nI a → j = j0) :
    ∀ (k i F : Nat), i + k = j0 → g_X8_turn_22 (F + k + 1) h (some 74) (nI a) (nI i) = some (nI j0, h) := by
  intro k
  induction k with
  | zero =>
    intro i F hi
    have : i = j0 := by omega
    subst this
    rw [show F + 0 + 1 = F + 1 from rfl, g_X8_turn_22, gR_w (q := 74) (ci := 8) (j := 10) w (by decide) rfl rfl, bd_some, show tR 74 10 = some 83 from rfl, ldI_w (q := 83) w (by decide) rfl (by show i < 12; omega) (by decide), bd_some, if_pos e0]
  | succ k ih =>
    intro i F hi
    have n1 : ¬ hI h 83 i = nI a := fun z => by have := un i (by omega) z; omega
    rw [g_X8_turn_22, gR_w (q := 74) (ci := 8) (j := 10) w (by decide) rfl rfl, bd_some, show tR 74 10 = some 83 from rfl, ldI_w (q := 83) w (by decide) rfl (by show i < 12; omega) (by decide), bd_some, if_neg n1, nI_1]
    exact ih (i + 1) F (by omega)
theorem op_turn (x y : Int32) : OpOk (fun h => f_X7_turn h (some 0) x y) (fun h => f_X8_turn h (some 74) x y) := by
  intro h w r
  obtain ⟨C, r1, -, r3, -⟩ := id r
  obtain ⟨-, -, -, -, -, -, ⟨a1, a2, a3, -⟩⟩ := id r1
  have h100 : C.2.2.2.2 ≤ 100 := by omega
  have t3' : ∀ f, hI (sI h 0 f) 75 6 = nI C.2.2.2.2 := fun f => by rw [sI_ne (by decide)]; exact a3
  rcases ixw_cases y (k := C.2.2.2.2) (by omega) with e | ⟨e, a, ha, rfl⟩
  · exact fin_ok (a := fun h => f_X7_turn h (some 0) x y) (b := fun h => f_X8_turn h (some 74) x y) (x := -100001) w r (by show f_X7_turn h (some 0) x y = _; simp (disch := first | (simp only [WF_sI]; exact w) | exact (w) | decide | (simp only [shq]; omega)) only [bd_some, bd2_some, bd2_id, i10, i00, not_true_eq_false, not_false_eq_true, if_true, if_false, ↓reduceIte, gR_w, gI_w, pI_w, isO_w, ldI_w, stI_w, ldZ_w, stZ_w, lenA_w, tR, f_X7_turn, e7_isApp w a2 h100, e]) (fun f => by show f_X8_turn (sI h 0 f) (some 74) x y = _; simp (disch := first | (simp only [WF_sI]; exact w0 w f) | exact (w0 w f) | decide | (simp only [shq]; omega)) only [bd_some, bd2_some, bd2_id, i10, i00, not_true_eq_false, not_false_eq_true, if_true, if_false, ↓reduceIte, gR_w, gI_w, pI_w, isO_w, ldI_w, stI_w, ldZ_w, stZ_w, lenA_w, tR, f_X8_turn, e8_isApp (w0 w f) (t3' f), e])
  have e' : ¬ ixw (nI a) C.2.2.2.2 = 0 := by rw [e]; decide
  obtain ⟨h1, h2, y1, y2, w1, w2, f1, f2, d1, d2, d3⟩ := draw_ok w r1 x
  have z := draw_rel w r f1 f2
  obtain ⟨j0, j1, j2⟩ := d2 a ha
  obtain ⟨F, hF⟩ := NN_ge C.2.2.2.2 (by omega)
  have p1 := place_sp w1 (na := C.2.2.2.2) (j0 := j0) (a := a) a1 (by rw [f1.2.2.2.2 20 (by decide)]; exact a2) j1 j2 (fun j hj q => d3 j j0 hj j1 (by rw [q, j2])) C.2.2.2.2 0 F 0 (by omega) (fun z => by omega)
  obtain ⟨F2, hF2⟩ := NN_ge j0 (by omega)
  have p2 := turn_sp w2 (na := C.2.2.2.2) (j0 := j0) (a := a) a1 j1 (by rw [← d1 j0 j1]; exact j2) (fun j hj q => d3 j j0 hj j1 (by rw [d1 j hj, q, j2])) j0 0 F2 (by omega)
  rw [← hF] at p1
  rw [← hF2] at p2
  have p1' : f_X0_placeOf h1 (some 19) (nI a) = some (nI j0, h1) := p1
  refine ⟨nI j0, h1, h2, ?_, ?_, w2, z⟩
  · show f_X7_turn h (some 0) x (nI a) = _
    unfold f_X7_turn
    rw [isO_w (q := 0) (ci := 7) w (by decide) rfl, bd_some, e7_isApp w a2 h100, bd2_some, if_pos e', gR_w (q := 0) (ci := 7) (j := 3) w (by decide) rfl rfl, bd_some, show tR 0 3 = some 19 from rfl, isO_w (q := 19) (ci := 0) w (by decide) rfl, bd_some, y1, bd_some, gR_w (q := 0) (ci := 7) (j := 3) w1 (by decide) rfl rfl, bd_some, show tR 0 3 = some 19 from rfl, isO_w (q := 19) (ci := 0) w1 (by decide) rfl, bd_some, p1', bd2_some]
  · show f_X8_turn h1 (some 74) x (nI a) = _
    unfold f_X8_turn
    rw [isO_w (q := 74) (ci := 8) w1 (by decide) rfl, bd_some, e8_isApp w1 (k := C.2.2.2.2) (by rw [f1.2.2.2.2 75 (by decide)]; exact a3), bd2_some, if_pos e', isO_w (q := 74) (ci := 8) w1 (by decide) rfl, bd_some, y2, bd_some, show (0 : Int32) = nI 0 from rfl, p2]
