/-! frames; the reference's keep, becomes -/
def Fr (h h1 : AH) (S : List Nat) : Prop := hR h1 = hR h ∧ hS h1 = hS h ∧ hn h1 = hn h ∧ hs h1 = hs h ∧ ∀ k, k ∉ S → hI h1 k = hI h k
theorem Fr.rf (h : AH) (S : List Nat) : Fr h h S := ⟨rfl, rfl, rfl, rfl, fun _ _ => rfl⟩
theorem Fr.trans {h h1 h2 : AH} {S : List Nat} (a : Fr h h1 S) (b : Fr h1 h2 S) : Fr h h2 S :=
  ⟨b.1.trans a.1, b.2.1.trans a.2.1, b.2.2.1.trans a.2.2.1, b.2.2.2.1.trans a.2.2.2.1, fun k hk => (b.2.2.2.2 k hk).trans (a.2.2.2.2 k hk)⟩
theorem Fr.mono {h h1 : AH} {S S2 : List Nat} (a : Fr h h1 S) (hs : ∀ k, k ∈ S → k ∈ S2) : Fr h h1 S2 := ⟨a.1, a.2.1, a.2.2.1, a.2.2.2.1, fun k hk => a.2.2.2.2 k (fun z => hk (hs k z))⟩
theorem Fr.sI (h : AH) {k : Nat} {f : Nat → Int32} {S : List Nat} (hk : k ∈ S) : Fr h (sI h k f) S := ⟨rfl, rfl, rfl, rfl, fun j hj => sI_ne (fun e => hj (e ▸ hk))⟩
theorem WF_fr {h h1 : AH} {S : List Nat} (a : Fr h h1 S) (w : WF h) : WF h1 := by
  obtain ⟨a1, a2, a3, -⟩ := a
  have pe : ∀ i, pb h1 i = pb h i := fun i => by unfold pb; rw [a1]
  obtain ⟨w1, w2, w3, w4, w5⟩ := w
  refine ⟨by rw [a3]; exact w1, fun k hk => by rw [a2]; exact w2 k hk, fun k j hj => by rw [a1]; exact w3 k j hj, fun i hi => ?_, fun i j hi hj e => w5 i j hi hj (by rw [← pe i, ← pe j]; exact e)⟩
  have := w4 i hi
  unfold PW at this ⊢
  rw [pe i, a1, a2, a3]
  exact this
theorem NN_ge (d : Nat) (h : d ≤ 19999) : ∃ F, NN = F + d + 1 := ⟨19999 - d, by unfold NN; omega⟩
theorem mul556 {m i : Nat} : 556 * nI m + nI i = nI (556 * m + i) := by rw [show (556 : Int32) = nI 556 from rfl, pk_mul, nI_add]
theorem g8_keep52 {m : Nat} (hm : m ≤ 19) : ∀ (d i : Nat) (F : Nat) (h : AH), i + d = 556 → WF h → hI h 74 2 = nI m → ∃ h1, g_X8_keep_52 (F + d + 1) h (some 74) (nI i) = some h1 ∧ Fr h h1 [74, 76] ∧ (∀ j, hI h1 74 j = if j = 2 then nI (m + 1) else hI h 74 j) ∧ ∀ j, hI h1 76 j = if 556 * m + i ≤ j ∧ j < 556 * m + 556 then hI h 75 (j - 556 * m) else hI h 76 j := by
  intro d
  induction d with
  | zero =>
    intro i F h hi w hm2
    have hi' : i = 556 := by omega
    subst hi'
    rw [show F + 0 + 1 = F + 1 from rfl, g_X8_keep_52, if_pos (show (556 : Int32) ≤ nI 556 from nI_le (Nat.le_refl _) (by omega)), gI_w (q := 74) (ci := 8) (j := 2) w (by decide) rfl, bd_some, hm2, nI_1, pI_w (q := 74) (ci := 8) (j := 2) w (by decide) rfl, bd_some]
    refine ⟨_, rfl, Fr.sI h (by decide), fun j => ?_, fun j => ?_⟩
    · rw [sI_eq]; rfl
    · rw [sI_ne (by decide), if_neg (by omega)]
  | succ d ih =>
    intro i F h hi w hm2
    have c : ¬ (556 : Int32) ≤ nI i := fun z => by have := (nI_leI (a := 556) (by omega) (by omega)).mp z; omega
    rw [g_X8_keep_52, if_neg c, gR_w (q := 74) (ci := 8) (j := 1) w (by decide) rfl rfl, bd_some, gI_w (q := 74) (ci := 8) (j := 2) w (by decide) rfl, bd_some, gR_w (q := 74) (ci := 8) (j := 0) w (by decide) rfl rfl, bd_some, show tR 74 0 = some 75 from rfl, show tR 74 1 = some 76 from rfl, ldI_w (q := 75) (i := i) w (by decide) rfl (by show i < 556; omega) (by decide), bd_some, hm2, mul556, stI_w (q := 76) (i := 556 * m + i) w (by decide) rfl (by show _ < 11120; omega) (by decide), bd_some, nI_1]
    have w1 : WF (sI h 76 (upd (hI h 76) (556 * m + i) (hI h 75 i))) := (WF_sI _ _ _).mpr w
    obtain ⟨h1, e1, f1, a1, k1⟩ := ih (i + 1) F _ (by omega) w1 (by rw [sI_ne (by decide)]; exact hm2)
    refine ⟨h1, e1, (Fr.sI h (by decide)).trans f1, fun j => ?_, fun j => ?_⟩
    · rw [a1 j, sI_ne (by decide)]
    · rw [k1 j, sI_ne (by decide), sI_eq]
      unfold upd
      by_cases c1 : 556 * m + (i + 1) ≤ j ∧ j < 556 * m + 556
      · rw [if_pos c1, if_pos ⟨by omega, c1.2⟩]
      · rw [if_neg c1]
        by_cases c2 : j = 556 * m + i
        · rw [if_pos c2, if_pos ⟨by omega, by omega⟩, c2, show 556 * m + i - 556 * m = i by omega]
        · rw [if_neg c2, if_neg (by omega)]
theorem g8_keep11 : ∀ (d i : Nat) (F : Nat) (h : AH), i + d = 10564 → WF h → hI h 74 2 = nI 20 → ∃ h1, g_X8_keep_11 (F + d + 1) h (some 74) (nI i) = some h1 ∧ Fr h h1 [74, 76] ∧ (∀ j, hI h1 74 j = if j = 2 then nI 20 else hI h 74 j) ∧ ∀ j, j < 11120 → hI h1 76 j = if 10564 ≤ j then hI h 75 (j - 10564) else if i ≤ j then hI h 76 (j + 556) else hI h 76 j := by
  intro d
  induction d with
  | zero =>
    intro i F h hi w hm2
    have hi' : i = 10564 := by omega
    subst hi'
    rw [show F + 0 + 1 = F + 1 from rfl, g_X8_keep_11, if_pos (show (10564 : Int32) ≤ nI 10564 from nI_le (Nat.le_refl _) (by omega)), gI_w (q := 74) (ci := 8) (j := 2) w (by decide) rfl, bd_some, hm2, show nI 20 - 1 = nI 19 from nI_pred 19, pI_w (q := 74) (ci := 8) (j := 2) w (by decide) rfl, bd_some]
    have w1 : WF (sI h 74 (upd (hI h 74) 2 (nI 19))) := (WF_sI _ _ _).mpr w
    obtain ⟨F2, hF⟩ := NN_ge 556 (by omega)
    obtain ⟨h1, e1, f1, a1, k1⟩ := g8_keep52 (m := 19) (by omega) 556 0 F2 _ (by omega) w1 (by rw [sI_eq]; rfl)
    refine ⟨h1, by rw [hF]; exact e1, (Fr.sI h (by decide)).trans f1, fun j => ?_, fun j hj => ?_⟩
    · rw [a1 j, sI_eq]
      unfold upd
      split <;> rfl
    · rw [k1 j, sI_ne (by decide), sI_ne (by decide)]
      by_cases c1 : 10564 ≤ j
      · rw [if_pos ⟨by omega, by omega⟩, if_pos c1]
      · rw [if_neg (by omega), if_neg c1, if_neg (by omega)]
  | succ d ih =>
    intro i F h hi w hm2
    have c : ¬ (10564 : Int32) ≤ nI i := fun z => by have := (nI_leI (a := 10564) (by omega) (by omega)).mp z; omega
    rw [g_X8_keep_11, if_neg c, gR_w (q := 74) (ci := 8) (j := 1) w (by decide) rfl rfl, bd_some, bd_some, show tR 74 1 = some 76 from rfl, show nI i + 556 = nI (i + 556) from nI_add i 556, ldI_w (q := 76) (i := i + 556) w (by decide) rfl (by show _ < 11120; omega) (by decide), bd_some, stI_w (q := 76) (i := i) w (by decide) rfl (by show _ < 11120; omega) (by decide), bd_some, nI_1]
    have w1 : WF (sI h 76 (upd (hI h 76) i (hI h 76 (i + 556)))) := (WF_sI _ _ _).mpr w
    obtain ⟨h1, e1, f1, a1, k1⟩ := ih (i + 1) F _ (by omega) w1 (by rw [sI_ne (by decide)]; exact hm2)
    refine ⟨h1, e1, (Fr.sI h (by decide)).trans f1, fun j => ?_, fun j hj => ?_⟩
    · rw [a1 j, sI_ne (by decide)]
    · rw [k1 j hj, sI_ne (by decide), sI_eq]
      unfold upd
      by_cases c1 : 10564 ≤ j
      · rw [if_pos c1, if_pos c1]
      · rw [if_neg c1, if_neg c1]
        by_cases c2 : i + 1 ≤ j
        · rw [if_pos c2, if_neg (by omega), if_pos (by omega)]
        · rw [if_neg c2]
          by_cases c3 : j = i
          · rw [if_pos c3, if_pos (by omega), c3]
          · rw [if_neg c3, if_neg (by omega)]
/-- the reference's keep -/
theorem e8_keep {h : AH} (w : WF h) {m : Nat} (hm : m ≤ 20) (hm2 : hI h 74 2 = nI m) : ∃ h1, f_X8_keep h (some 74) = some h1 ∧ Fr h h1 [74, 76] ∧ (∀ j, hI h1 74 j = if j = 2 then nI (min 20 (m + 1)) else hI h 74 j) ∧ (∀ j, j < 556 → snf h1 (min 20 (m + 1) - 1) j = hI h 75 j) ∧ (m < 20 → ∀ k j, k < m → j < 556 → snf h1 k j = snf h k j) ∧ (m = 20 → ∀ k j, k < 19 → j < 556 → snf h1 k j = snf h (k + 1) j) := by
  unfold f_X8_keep
  rw [gI_w (q := 74) (ci := 8) (j := 2) w (by decide) rfl, bd_some, hm2]
  by_cases c : m = 20
  · subst c
    have c3 : ¬ ¬ nI 20 = (20 : Int32) := fun z => z rfl
    rw [if_neg c3]
    obtain ⟨F, hF⟩ := NN_ge 10564 (by omega)
    obtain ⟨h1, e1, f1, a1, k1⟩ := g8_keep11 10564 0 F h (by omega) w hm2
    refine ⟨h1, by rw [hF]; exact e1, f1, a1, fun j hj => ?_, fun z => absurd z (by omega), fun _ k j hk hj => ?_⟩
    · show hI h1 76 (556 * 19 + j) = _
      rw [k1 _ (by omega), if_pos (by omega), show 556 * 19 + j - 10564 = j by omega]
    · show hI h1 76 (556 * k + j) = hI h 76 (556 * (k + 1) + j)
      rw [k1 _ (by omega), if_neg (by omega), if_pos (by omega), show 556 * k + j + 556 = 556 * (k + 1) + j by omega]
  · have c3 : ¬ nI m = (20 : Int32) := fun z => c ((nI_eq (b := 20) (by omega) (by omega)).mp z)
    rw [if_pos c3]
    obtain ⟨F, hF⟩ := NN_ge 556 (by omega)
    obtain ⟨h1, e1, f1, a1, k1⟩ := g8_keep52 (m := m) (by omega) 556 0 F h (by omega) w hm2
    have em : min 20 (m + 1) = m + 1 := by omega
    rw [em]
    refine ⟨h1, by rw [hF]; exact e1, f1, a1, fun j hj => ?_, fun _ k j hk hj => ?_, fun z => absurd z c⟩
    · show hI h1 76 (556 * (m + 1 - 1) + j) = _
      rw [k1 _, if_pos ⟨by omega, by omega⟩, show 556 * (m + 1 - 1) + j - 556 * m = j by omega]
    · show hI h1 76 (556 * k + j) = hI h 76 (556 * k + j)
      rw [k1 _, if_neg (by omega)]
theorem e8_becomes {h : AH} (w : WF h) {m i : Nat} {v : Int32} (hm : m ≤ 20) (hm2 : hI h 74 2 = nI m) (hi : i < 556) : ∃ h1, f_X8_becomes h (some 74) (nI i) v = some (hI h 75 i, h1) ∧ Fr h h1 [74, 75, 76] ∧ (∀ j, hI h1 74 j = if j = 2 then nI (min 20 (m + 1)) else hI h 74 j) ∧ (∀ j, hI h1 75 j = if j = i then v else hI h 75 j) ∧ (∀ j, j < 556 → snf h1 (min 20 (m + 1) - 1) j = hI h 75 j) ∧ (m < 20 → ∀ k j, k < m → j < 556 → snf h1 k j = snf h k j) ∧ (m = 20 → ∀ k j, k < 19 → j < 556 → snf h1 k j = snf h (k + 1) j) := by
  obtain ⟨h1, e1, f1, a1, b1, b2, b3⟩ := e8_keep w hm hm2
  have w1 : WF h1 := WF_fr f1 w
  have i75 : hI h1 75 = hI h 75 := f1.2.2.2.2 75 (by decide)
  unfold f_X8_becomes
  rw [isO_w (q := 74) (ci := 8) w (by decide) rfl, bd_some, e1, bd_some, gR_w (q := 74) (ci := 8) (j := 0) w1 (by decide) rfl rfl, bd_some, show tR 74 0 = some 75 from rfl, ldI_w (q := 75) (i := i) w1 (by decide) rfl hi (by decide), bd_some, bd_some, stI_w (q := 75) (i := i) w1 (by decide) rfl hi (by decide), bd_some, i75]
  have sn : snf (sI h1 75 (upd (hI h 75) i v)) = snf h1 := by unfold snf; rw [sI_ne (by decide)]
  refine ⟨_, rfl, (f1.mono (by decide)).trans (Fr.sI h1 (by decide)), fun j => ?_, fun j => ?_, ?_, ?_, ?_⟩
  · rw [sI_ne (by decide)]; exact a1 j
  · rw [sI_eq]; rfl
  · rw [sn]; exact b1
  · rw [sn]; exact b2
  · rw [sn]; exact b3
