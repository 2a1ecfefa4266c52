/-! the law's loop -/
theorem bd_n {α γ : Type} (f : α → Option γ) : bd none f = none := rfl
theorem bd2_n {α β γ : Type} (f : α → β → Option γ) : bd2 none f = none := rfl
section N8
variable {h : AH} (no : ¬ (74 < hn h ∧ (hS h 74).1 = 8 + 4))
theorem n_isO (no : ¬ (74 < hn h ∧ (hS h 74).1 = 8 + 4)) : isO h (some 74) 8 = none := by simp only [isO]; rw [if_neg no]
theorem n_gR (no : ¬ (74 < hn h ∧ (hS h 74).1 = 8 + 4)) (j : Nat) : gR h (some 74) 8 j = none := by simp only [gR]; rw [if_neg no]
theorem n_gI (no : ¬ (74 < hn h ∧ (hS h 74).1 = 8 + 4)) (j : Nat) : gI h (some 74) 8 j = none := by simp only [gI]; rw [if_neg no]
theorem n8_end (no : ¬ (74 < hn h ∧ (hS h 74).1 = 8 + 4)) (x : Int32) : f_X8_end h (some 74) x = none := by
  simp only [f_X8_end, n_isO no, n_gR no, n_gI no, bd_n, bd2_n, e8_isIn, e8_isDay, e8_isSheet, e8_isWater, bd2_some, ite_self]
theorem n8_camp (no : ¬ (74 < hn h ∧ (hS h 74).1 = 8 + 4)) (x y : Int32) : f_X8_camp h (some 74) x y = none := by
  simp only [f_X8_camp, n_isO no, n_gR no, n_gI no, bd_n, bd2_n, e8_isIn, e8_isDay, e8_isSheet, e8_isWater, bd2_some, ite_self]
theorem n8_rapid (no : ¬ (74 < hn h ∧ (hS h 74).1 = 8 + 4)) (x y z : Int32) : f_X8_rapid h (some 74) x y z = none := by
  simp only [f_X8_rapid, n_isO no, n_gR no, n_gI no, bd_n, bd2_n, e8_isIn, e8_isDay, e8_isSheet, e8_isWater, bd2_some, ite_self]
theorem n8_landing (no : ¬ (74 < hn h ∧ (hS h 74).1 = 8 + 4)) (x : Int32) : f_X8_landing h (some 74) x = none := by
  simp only [f_X8_landing, n_isO no, n_gR no, n_gI no, bd_n, bd2_n, e8_isIn, e8_isDay, e8_isSheet, e8_isWater, bd2_some, ite_self]
theorem n8_speed (no : ¬ (74 < hn h ∧ (hS h 74).1 = 8 + 4)) (x : Int32) : f_X8_speed h (some 74) x = none := by
  simp only [f_X8_speed, n_isO no, n_gR no, n_gI no, bd_n, bd2_n, e8_isIn, e8_isDay, e8_isSheet, e8_isWater, bd2_some, ite_self]
theorem n8_water (no : ¬ (74 < hn h ∧ (hS h 74).1 = 8 + 4)) (x y z : Int32) : f_X8_water h (some 74) x y z = none := by
  simp only [f_X8_water, n_isO no, n_gR no, n_gI no, bd_n, bd2_n, e8_isIn, e8_isDay, e8_isSheet, e8_isWater, bd2_some, ite_self]
theorem n8_waterAt (no : ¬ (74 < hn h ∧ (hS h 74).1 = 8 + 4)) (x y z : Int32) : f_X8_waterAt h (some 74) x y z = none := by
  simp only [f_X8_waterAt, n_isO no, n_gR no, n_gI no, bd_n, bd2_n, e8_isIn, e8_isDay, e8_isSheet, e8_isWater, bd2_some, ite_self]
theorem n8_runs (no : ¬ (74 < hn h ∧ (hS h 74).1 = 8 + 4)) (x y z : Int32) : f_X8_runs h (some 74) x y z = none := by
  simp only [f_X8_runs, n_isO no, n_gR no, n_gI no, bd_n, bd2_n, e8_isIn, e8_isDay, e8_isSheet, e8_isWater, bd2_some, ite_self]
theorem n8_trip (no : ¬ (74 < hn h ∧ (hS h 74).1 = 8 + 4)) (x y z u v : Int32) : f_X8_trip h (some 74) x y z u v = none := by
  simp only [f_X8_trip, n_isO no, n_gR no, n_gI no, bd_n, bd2_n, e8_isIn, e8_isDay, e8_isSheet, e8_isWater, bd2_some, ite_self]
theorem n8_as (no : ¬ (74 < hn h ∧ (hS h 74).1 = 8 + 4)) (x y : Int32) : f_X8_as h (some 74) x y = none := by
  simp only [f_X8_as, n_isO no, n_gR no, n_gI no, bd_n, bd2_n, e8_isIn, e8_isDay, e8_isSheet, e8_isWater, bd2_some, ite_self]
theorem n8_of (no : ¬ (74 < hn h ∧ (hS h 74).1 = 8 + 4)) (x y : Int32) : f_X8_of h (some 74) x y = none := by
  simp only [f_X8_of, j_X8_of_73, n_isO no, n_gR no, n_gI no, bd_n, bd2_n, e8_isIn, e8_isDay, e8_isSheet, e8_isWater, bd2_some, ite_self]
theorem n8_launch (no : ¬ (74 < hn h ∧ (hS h 74).1 = 8 + 4)) (x y : Int32) : f_X8_launch h (some 74) x y = none := by
  simp only [f_X8_launch, n_isO no, n_gR no, n_gI no, bd_n, bd2_n, e8_isIn, e8_isDay, e8_isSheet, e8_isWater, bd2_some, ite_self]
theorem n8_night (no : ¬ (74 < hn h ∧ (hS h 74).1 = 8 + 4)) (x y z : Int32) : f_X8_night h (some 74) x y z = none := by
  simp only [f_X8_night, j_X8_night_35, j_X8_night_56, j_X8_night_76, n_isO no, n_gR no, n_gI no, bd_n, bd2_n, e8_isIn, e8_isDay, e8_isSheet, e8_isWater, bd2_some, ite_self]
theorem n8_at (no : ¬ (74 < hn h ∧ (hS h 74).1 = 8 + 4)) (x y : Int32) : f_X8_at h (some 74) x y = none := by
  simp only [f_X8_at, n_isO no, n_gR no, n_gI no, bd_n, bd2_n, e8_isIn, e8_isDay, e8_isSheet, e8_isWater, bd2_some, ite_self]
theorem n8_who (no : ¬ (74 < hn h ∧ (hS h 74).1 = 8 + 4)) (x y : Int32) : f_X8_who h (some 74) x y = none := by
  simp only [f_X8_who, n_isO no, n_gR no, n_gI no, bd_n, bd2_n, e8_isIn, e8_isDay, e8_isSheet, e8_isWater, bd2_some, ite_self]
theorem n8_plan (no : ¬ (74 < hn h ∧ (hS h 74).1 = 8 + 4)) (x : Int32) : f_X8_plan h (some 74) x = none := by
  simp only [f_X8_plan, n_isO no, n_gR no, n_gI no, bd_n, bd2_n, e8_isIn, e8_isDay, e8_isSheet, e8_isWater, bd2_some, ite_self]
theorem n8_planned (no : ¬ (74 < hn h ∧ (hS h 74).1 = 8 + 4)) (x y : Int32) : f_X8_planned h (some 74) x y = none := by
  simp only [f_X8_planned, n_isO no, n_gR no, n_gI no, bd_n, bd2_n, e8_isIn, e8_isDay, e8_isSheet, e8_isWater, bd2_some, ite_self]
theorem n8_take (no : ¬ (74 < hn h ∧ (hS h 74).1 = 8 + 4)) (x : Int32) : f_X8_take h (some 74) x = none := by
  simp only [f_X8_take, n_isO no, n_gR no, n_gI no, bd_n, bd2_n, e8_isIn, e8_isDay, e8_isSheet, e8_isWater, bd2_some, ite_self]
theorem n8_calendar (no : ¬ (74 < hn h ∧ (hS h 74).1 = 8 + 4)) (x : Int32) : f_X8_calendar h (some 74) x = none := by
  simp only [f_X8_calendar, n_isO no, n_gR no, n_gI no, bd_n, bd2_n, e8_isIn, e8_isDay, e8_isSheet, e8_isWater, bd2_some, ite_self]
theorem n8_fill (no : ¬ (74 < hn h ∧ (hS h 74).1 = 8 + 4)) (x : Int32) : f_X8_fill h (some 74) x = none := by
  simp only [f_X8_fill, n_isO no, n_gR no, n_gI no, bd_n, bd2_n, e8_isIn, e8_isDay, e8_isSheet, e8_isWater, bd2_some, ite_self]
theorem n8_near (no : ¬ (74 < hn h ∧ (hS h 74).1 = 8 + 4)) (x y z : Int32) : f_X8_near h (some 74) x y z = none := by
  simp only [f_X8_near, j_X8_near_138, n_isO no, n_gR no, n_gI no, bd_n, bd2_n, e8_isIn, e8_isDay, e8_isSheet, e8_isWater, bd2_some, ite_self]
theorem n8_hurt (no : ¬ (74 < hn h ∧ (hS h 74).1 = 8 + 4)) (x y : Int32) : f_X8_hurt h (some 74) x y = none := by
  simp only [f_X8_hurt, j_X8_hurt_104, j_X8_hurt_129, j_X8_hurt_134, j_X8_hurt_43, j_X8_hurt_50, n_isO no, n_gR no, n_gI no, bd_n, bd2_n, e8_isIn, e8_isDay, e8_isSheet, e8_isWater, bd2_some, ite_self]
theorem n8_applicant (no : ¬ (74 < hn h ∧ (hS h 74).1 = 8 + 4)) (x : Int32) : f_X8_applicant h (some 74) x = none := by
  simp only [f_X8_applicant, n_isO no, n_gR no, n_gI no, bd_n, bd2_n, e8_isIn, e8_isDay, e8_isSheet, e8_isWater, bd2_some, ite_self]
theorem n8_weigh (no : ¬ (74 < hn h ∧ (hS h 74).1 = 8 + 4)) (x y : Int32) : f_X8_weigh h (some 74) x y = none := by
  simp only [f_X8_weigh, n_isO no, n_gR no, n_gI no, bd_n, bd2_n, e8_isIn, e8_isDay, e8_isSheet, e8_isWater, bd2_some, ite_self]
theorem n8_chance (no : ¬ (74 < hn h ∧ (hS h 74).1 = 8 + 4)) (x y : Int32) : f_X8_chance h (some 74) x y = none := by
  simp only [f_X8_chance, n_isO no, n_gR no, n_gI no, bd_n, bd2_n, e8_isIn, e8_isDay, e8_isSheet, e8_isWater, bd2_some, ite_self]
theorem n8_drawn (no : ¬ (74 < hn h ∧ (hS h 74).1 = 8 + 4)) (x y : Int32) : f_X8_drawn h (some 74) x y = none := by
  simp only [f_X8_drawn, n_isO no, n_gR no, n_gI no, bd_n, bd2_n, e8_isIn, e8_isDay, e8_isSheet, e8_isWater, bd2_some, ite_self]
theorem n8_turn (no : ¬ (74 < hn h ∧ (hS h 74).1 = 8 + 4)) (x y : Int32) : f_X8_turn h (some 74) x y = none := by
  simp only [f_X8_turn, n_isO no, n_gR no, n_gI no, bd_n, bd2_n, e8_isIn, e8_isDay, e8_isSheet, e8_isWater, bd2_some, ite_self]
theorem n8_sheet (no : ¬ (74 < hn h ∧ (hS h 74).1 = 8 + 4)) (x y z : Int32) : f_X8_sheet h (some 74) x y z = none := by
  simp only [f_X8_sheet, j_X8_sheet_36, n_isO no, n_gR no, n_gI no, bd_n, bd2_n, e8_isIn, e8_isDay, e8_isSheet, e8_isWater, bd2_some, ite_self]
theorem n8_put (no : ¬ (74 < hn h ∧ (hS h 74).1 = 8 + 4)) (x y z : Int32) : f_X8_put h (some 74) x y z = none := by
  simp only [f_X8_put, n_isO no, n_gR no, n_gI no, bd_n, bd2_n, e8_isIn, e8_isDay, e8_isSheet, e8_isWater, bd2_some, ite_self]
theorem n8_copy (no : ¬ (74 < hn h ∧ (hS h 74).1 = 8 + 4)) (x y z u v : Int32) : f_X8_copy h (some 74) x y z u v = none := by
  simp only [f_X8_copy, n_isO no, n_gR no, n_gI no, bd_n, bd2_n, e8_isIn, e8_isDay, e8_isSheet, e8_isWater, bd2_some, ite_self]
theorem n8_let (no : ¬ (74 < hn h ∧ (hS h 74).1 = 8 + 4)) (x y : Int32) : f_X8_let h (some 74) x y = none := by
  simp only [f_X8_let, n_isO no, n_gR no, n_gI no, bd_n, bd2_n, e8_isIn, e8_isDay, e8_isSheet, e8_isWater, bd2_some, ite_self]
theorem n8_undo (no : ¬ (74 < hn h ∧ (hS h 74).1 = 8 + 4)) : f_X8_undo h (some 74)  = none := by
  simp only [f_X8_undo, n_isO no, n_gR no, n_gI no, bd_n, bd2_n, e8_isIn, e8_isDay, e8_isSheet, e8_isWater, bd2_some, ite_self]
theorem n8_all (no : ¬ (74 < hn h ∧ (hS h 74).1 = 8 + 4)) (x : Int32) : f_X8_all h (some 74) x = none := by
  simp only [f_X8_all, n_isO no, n_gR no, n_gI no, bd_n, bd2_n, e8_isIn, e8_isDay, e8_isSheet, e8_isWater, bd2_some, ite_self]
end N8
theorem stp {a b : AH → Option (Int32 × AH)} (o : OpOk a b) (n8 : ∀ h : AH, ¬ (74 < hn h ∧ (hS h 74).1 = 8 + 4) → b h = none) {h : AH} (w : WF h) (r : Rel h) : ∃ v h1 h2, a h = some (v, h1) ∧ isO h1 (some 74) 8 = some () ∧ b h1 = some (v, h2) ∧ WF h2 ∧ Rel h2 ∧ hn h2 ≤ hn h + 1 ∧ hs h2 ≤ hs h + 350 := by
  obtain ⟨v, h1, h2, e1, e2, z⟩ := o h w r
  refine ⟨v, h1, h2, e1, ?_, e2, z⟩
  by_cases c : 74 < hn h1 ∧ (hS h1 74).1 = 8 + 4
  · simp only [isO]; rw [if_pos c]
  · rw [n8 h1 c] at e2; cases e2
theorem ldS_w {L : Nat} {xs : Nat → Int32} {i : Nat} (h : i < L) (hL : L ≤ 3072) : ldS L xs (nI i) = some (xs i) := by
  unfold ldS
  rw [if_pos (nI_in h (by omega)), nI_clamp (by omega)]
theorem law_c {L k : Nat} (hL : L ≤ 3072) (hk : k ≤ 3072) : (Int32.ofNat L - 6 < nI k) ↔ L < k + 6 := by
  have t := pk_sub_toInt (a := L) (b := 6) (by omega) (by omega)
  have t2 := nI_toInt (n := k) (by omega)
  rw [show Int32.ofNat L - 6 = nI L - nI 6 from rfl, Int32.lt_iff_toInt_lt, t, t2]
  omega
set_option maxRecDepth 4000 in
theorem law_lp {L : Nat} {xs : Nat → Int32} (hL : L ≤ 3072) : ∀ (m k F : Nat) (h : AH), k + m = L / 6 → WF h → Rel h → ∃ h', g_L_law_18 L xs (F + m + 1) h (some 0) (some 74) (nI (6 * k)) = some (1, h') ∧ hn h' ≤ hn h + m ∧ hs h' ≤ hs h + 350 * m := by
  intro m
  induction m with
  | zero =>
    intro k F h hk w r
    refine ⟨h, ?_, by omega, by omega⟩
    rw [show F + 0 + 1 = F + 1 from rfl, g_L_law_18, if_pos ((law_c hL (by omega)).mpr (by omega))]
  | succ m ih =>
    intro k F h hk w r
    have cc : ¬ (Int32.ofNat L - 6 < nI (6 * k)) := fun z => by have := (law_c hL (by omega)).mp z; omega
    have s0 : ldS L xs (nI (6 * k)) = some (xs (6 * k)) := ldS_w (by omega) hL
    have s1 : ldS L xs (nI (6 * k) + 1) = some (xs (6 * k + 1)) := by rw [show nI (6 * k) + 1 = nI (6 * k + 1) from nI_add _ 1]; exact ldS_w (by omega) hL
    have s2 : ldS L xs (nI (6 * k) + 2) = some (xs (6 * k + 2)) := by rw [show nI (6 * k) + 2 = nI (6 * k + 2) from nI_add _ 2]; exact ldS_w (by omega) hL
    have s3 : ldS L xs (nI (6 * k) + 3) = some (xs (6 * k + 3)) := by rw [show nI (6 * k) + 3 = nI (6 * k + 3) from nI_add _ 3]; exact ldS_w (by omega) hL
    have s4 : ldS L xs (nI (6 * k) + 4) = some (xs (6 * k + 4)) := by rw [show nI (6 * k) + 4 = nI (6 * k + 4) from nI_add _ 4]; exact ldS_w (by omega) hL
    have s5 : ldS L xs (nI (6 * k) + 5) = some (xs (6 * k + 5)) := by rw [show nI (6 * k) + 5 = nI (6 * k + 5) from nI_add _ 5]; exact ldS_w (by omega) hL
    have nxt : ∀ h2, WF h2 → Rel h2 → hn h2 ≤ hn h + 1 → hs h2 ≤ hs h + 350 → ∃ h', g_L_law_18 L xs (F + (m + 1)) h2 (some 0) (some 74) (nI (6 * k) + 6) = some (1, h') ∧ hn h' ≤ hn h + (m + 1) ∧ hs h' ≤ hs h + 350 * (m + 1) := by
      intro h2 w2 r2 b1 b2
      obtain ⟨h', z1, z2, z3⟩ := ih (k + 1) F h2 (by omega) w2 r2
      refine ⟨h', ?_, by omega, by omega⟩
      rw [show nI (6 * k) + 6 = nI (6 * (k + 1)) from nI_add _ 6]
      exact z1
    rw [g_L_law_18, if_neg cc, s0, bd_some]
    generalize xs (6 * k) &&& 63 = c
    by_cases c0 : c = 0
    · obtain ⟨v, h1, h2, e1, e2, e3, w2, r2, b1, b2⟩ := stp (op_end (xs (6 * k + 1))) (fun h no => n8_end no (xs (6 * k + 1))) w r
      replace e1 : f_X7_end h (some 0) (xs (6 * k + 1)) = some (v, h1) := e1
      replace e3 : f_X8_end h1 (some 74) (xs (6 * k + 1)) = some (v, h2) := e3
      rw [if_pos c0, s1, bd_some, O_7 w, bd_some, e1, bd2_some, bd_some, e2, bd_some, e3, bd2_some, if_pos rfl]
      exact nxt h2 w2 r2 b1 b2
    rw [if_neg c0]
    by_cases c1 : c = 1
    · rw [if_pos c1]
      unfold j_L_law_222 j_L_law_244
      rw [s1, s2, bd_some, bd_some]
      by_cases cb : xs (6 * k + 2) = 0
      · obtain ⟨v, h1, h2, e1, e2, e3, w2, r2, b1, b2⟩ := stp (op_camp (xs (6 * k + 1)) (b := 0) (by omega)) (fun h no => n8_camp no (xs (6 * k + 1)) 0) w r
        replace e1 : f_X7_camp h (some 0) (xs (6 * k + 1)) 0 = some (v, h1) := e1
        replace e3 : f_X8_camp h1 (some 74) (xs (6 * k + 1)) 0 = some (v, h2) := e3
        rw [if_pos cb, O_7 w, bd_some, e1, bd2_some, bd_some, bd_some, if_pos cb, e2, bd_some, e3, bd2_some, if_pos rfl]
        exact nxt h2 w2 r2 b1 b2
      · obtain ⟨v, h1, h2, e1, e2, e3, w2, r2, b1, b2⟩ := stp (op_camp (xs (6 * k + 1)) (b := 1) (by omega)) (fun h no => n8_camp no (xs (6 * k + 1)) 1) w r
        replace e1 : f_X7_camp h (some 0) (xs (6 * k + 1)) 1 = some (v, h1) := e1
        replace e3 : f_X8_camp h1 (some 74) (xs (6 * k + 1)) 1 = some (v, h2) := e3
        rw [if_neg cb, O_7 w, bd_some, e1, bd2_some, bd_some, bd_some, if_neg cb, e2, bd_some, e3, bd2_some, if_pos rfl]
        exact nxt h2 w2 r2 b1 b2
    rw [if_neg c1]
    by_cases c2 : c = 2
    · obtain ⟨v, h1, h2, e1, e2, e3, w2, r2, b1, b2⟩ := stp (op_rapid (xs (6 * k + 1)) (xs (6 * k + 2)) (xs (6 * k + 3))) (fun h no => n8_rapid no (xs (6 * k + 1)) (xs (6 * k + 2)) (xs (6 * k + 3))) w r
      replace e1 : f_X7_rapid h (some 0) (xs (6 * k + 1)) (xs (6 * k + 2)) (xs (6 * k + 3)) = some (v, h1) := e1
      replace e3 : f_X8_rapid h1 (some 74) (xs (6 * k + 1)) (xs (6 * k + 2)) (xs (6 * k + 3)) = some (v, h2) := e3
      rw [if_pos c2, s1, s2, s3, bd_some, bd_some, bd_some, O_7 w, bd_some, e1, bd2_some, bd_some, bd_some, bd_some, e2, bd_some, e3, bd2_some, if_pos rfl]
      exact nxt h2 w2 r2 b1 b2
    rw [if_neg c2]
    by_cases c3 : c = 3
    · obtain ⟨v, h1, h2, e1, e2, e3, w2, r2, b1, b2⟩ := stp (op_landing (xs (6 * k + 1))) (fun h no => n8_landing no (xs (6 * k + 1))) w r
      replace e1 : f_X7_landing h (some 0) (xs (6 * k + 1)) = some (v, h1) := e1
      replace e3 : f_X8_landing h1 (some 74) (xs (6 * k + 1)) = some (v, h2) := e3
      rw [if_pos c3, s1, bd_some, O_7 w, bd_some, e1, bd2_some, bd_some, e2, bd_some, e3, bd2_some, if_pos rfl]
      exact nxt h2 w2 r2 b1 b2
    rw [if_neg c3]
    by_cases c4 : c = 4
    · obtain ⟨v, h1, h2, e1, e2, e3, w2, r2, b1, b2⟩ := stp (op_speed (xs (6 * k + 1))) (fun h no => n8_speed no (xs (6 * k + 1))) w r
      replace e1 : f_X7_speed h (some 0) (xs (6 * k + 1)) = some (v, h1) := e1
      replace e3 : f_X8_speed h1 (some 74) (xs (6 * k + 1)) = some (v, h2) := e3
      rw [if_pos c4, s1, bd_some, O_7 w, bd_some, e1, bd2_some, bd_some, e2, bd_some, e3, bd2_some, if_pos rfl]
      exact nxt h2 w2 r2 b1 b2
    rw [if_neg c4]
    by_cases c5 : c = 5
    · obtain ⟨v, h1, h2, e1, e2, e3, w2, r2, b1, b2⟩ := stp (op_water (xs (6 * k + 1)) (xs (6 * k + 2)) (xs (6 * k + 3))) (fun h no => n8_water no (xs (6 * k + 1)) (xs (6 * k + 2)) (xs (6 * k + 3))) w r
      replace e1 : f_X7_water h (some 0) (xs (6 * k + 1)) (xs (6 * k + 2)) (xs (6 * k + 3)) = some (v, h1) := e1
      replace e3 : f_X8_water h1 (some 74) (xs (6 * k + 1)) (xs (6 * k + 2)) (xs (6 * k + 3)) = some (v, h2) := e3
      rw [if_pos c5, s1, s2, s3, bd_some, bd_some, bd_some, O_7 w, bd_some, e1, bd2_some, bd_some, bd_some, bd_some, e2, bd_some, e3, bd2_some, if_pos rfl]
      exact nxt h2 w2 r2 b1 b2
    rw [if_neg c5]
    by_cases c6 : c = 6
    · obtain ⟨v, h1, h2, e1, e2, e3, w2, r2, b1, b2⟩ := stp (op_waterAt (xs (6 * k + 1)) (xs (6 * k + 2)) (xs (6 * k + 3))) (fun h no => n8_waterAt no (xs (6 * k + 1)) (xs (6 * k + 2)) (xs (6 * k + 3))) w r
      replace e1 : f_X7_waterAt h (some 0) (xs (6 * k + 1)) (xs (6 * k + 2)) (xs (6 * k + 3)) = some (v, h1) := e1
      replace e3 : f_X8_waterAt h1 (some 74) (xs (6 * k + 1)) (xs (6 * k + 2)) (xs (6 * k + 3)) = some (v, h2) := e3
      rw [if_pos c6, s1, s2, s3, bd_some, bd_some, bd_some, O_7 w, bd_some, e1, bd2_some, bd_some, bd_some, bd_some, e2, bd_some, e3, bd2_some, if_pos rfl]
      exact nxt h2 w2 r2 b1 b2
    rw [if_neg c6]
    by_cases c7 : c = 7
    · obtain ⟨v, h1, h2, e1, e2, e3, w2, r2, b1, b2⟩ := stp (op_runs (xs (6 * k + 1)) (xs (6 * k + 2)) (xs (6 * k + 3))) (fun h no => n8_runs no (xs (6 * k + 1)) (xs (6 * k + 2)) (xs (6 * k + 3))) w r
      replace e1 : f_X7_runs h (some 0) (xs (6 * k + 1)) (xs (6 * k + 2)) (xs (6 * k + 3)) = some (v, h1) := e1
      replace e3 : f_X8_runs h1 (some 74) (xs (6 * k + 1)) (xs (6 * k + 2)) (xs (6 * k + 3)) = some (v, h2) := e3
      rw [if_pos c7, s1, s2, s3, bd_some, bd_some, bd_some, O_7 w, bd_some, e1, bd2_some, bd_some, bd_some, bd_some, e2, bd_some, e3, bd2_some, if_pos rfl]
      exact nxt h2 w2 r2 b1 b2
    rw [if_neg c7]
    by_cases c8 : c = 8
    · obtain ⟨v, h1, h2, e1, e2, e3, w2, r2, b1, b2⟩ := stp (op_trip (xs (6 * k + 1)) (xs (6 * k + 2)) (xs (6 * k + 3)) (xs (6 * k + 4)) (xs (6 * k + 5))) (fun h no => n8_trip no (xs (6 * k + 1)) (xs (6 * k + 2)) (xs (6 * k + 3)) (xs (6 * k + 4)) (xs (6 * k + 5))) w r
      replace e1 : f_X7_trip h (some 0) (xs (6 * k + 1)) (xs (6 * k + 2)) (xs (6 * k + 3)) (xs (6 * k + 4)) (xs (6 * k + 5)) = some (v, h1) := e1
      replace e3 : f_X8_trip h1 (some 74) (xs (6 * k + 1)) (xs (6 * k + 2)) (xs (6 * k + 3)) (xs (6 * k + 4)) (xs (6 * k + 5)) = some (v, h2) := e3
      rw [if_pos c8, s1, s2, s3, s4, s5, bd_some, bd_some, bd_some, bd_some, bd_some, O_7 w, bd_some, e1, bd2_some, bd_some, bd_some, bd_some, bd_some, bd_some, e2, bd_some, e3, bd2_some, if_pos rfl]
      exact nxt h2 w2 r2 b1 b2
    rw [if_neg c8]
    by_cases c9 : c = 9
    · obtain ⟨v, h1, h2, e1, e2, e3, w2, r2, b1, b2⟩ := stp (op_as (xs (6 * k + 1)) (xs (6 * k + 2))) (fun h no => n8_as no (xs (6 * k + 1)) (xs (6 * k + 2))) w r
      replace e1 : f_X7_as h (some 0) (xs (6 * k + 1)) (xs (6 * k + 2)) = some (v, h1) := e1
      replace e3 : f_X8_as h1 (some 74) (xs (6 * k + 1)) (xs (6 * k + 2)) = some (v, h2) := e3
      rw [if_pos c9, s1, s2, bd_some, bd_some, O_7 w, bd_some, e1, bd2_some, bd_some, bd_some, e2, bd_some, e3, bd2_some, if_pos rfl]
      exact nxt h2 w2 r2 b1 b2
    rw [if_neg c9]
    by_cases c10 : c = 10
    · obtain ⟨v, h1, h2, e1, e2, e3, w2, r2, b1, b2⟩ := stp (op_of (xs (6 * k + 1)) (xs (6 * k + 2))) (fun h no => n8_of no (xs (6 * k + 1)) (xs (6 * k + 2))) w r
      replace e1 : f_X7_of h (some 0) (xs (6 * k + 1)) (xs (6 * k + 2)) = some (v, h1) := e1
      replace e3 : f_X8_of h1 (some 74) (xs (6 * k + 1)) (xs (6 * k + 2)) = some (v, h2) := e3
      rw [if_pos c10, s1, s2, bd_some, bd_some, O_7 w, bd_some, e1, bd2_some, bd_some, bd_some, e2, bd_some, e3, bd2_some, if_pos rfl]
      exact nxt h2 w2 r2 b1 b2
    rw [if_neg c10]
    by_cases c11 : c = 11
    · obtain ⟨v, h1, h2, e1, e2, e3, w2, r2, b1, b2⟩ := stp (op_launch (xs (6 * k + 1)) (xs (6 * k + 2))) (fun h no => n8_launch no (xs (6 * k + 1)) (xs (6 * k + 2))) w r
      replace e1 : f_X7_launch h (some 0) (xs (6 * k + 1)) (xs (6 * k + 2)) = some (v, h1) := e1
      replace e3 : f_X8_launch h1 (some 74) (xs (6 * k + 1)) (xs (6 * k + 2)) = some (v, h2) := e3
      rw [if_pos c11, s1, s2, bd_some, bd_some, O_7 w, bd_some, e1, bd2_some, bd_some, bd_some, e2, bd_some, e3, bd2_some, if_pos rfl]
      exact nxt h2 w2 r2 b1 b2
    rw [if_neg c11]
    by_cases c12 : c = 12
    · obtain ⟨v, h1, h2, e1, e2, e3, w2, r2, b1, b2⟩ := stp (op_night (xs (6 * k + 1)) (xs (6 * k + 2)) (xs (6 * k + 3))) (fun h no => n8_night no (xs (6 * k + 1)) (xs (6 * k + 2)) (xs (6 * k + 3))) w r
      replace e1 : f_X7_night h (some 0) (xs (6 * k + 1)) (xs (6 * k + 2)) (xs (6 * k + 3)) = some (v, h1) := e1
      replace e3 : f_X8_night h1 (some 74) (xs (6 * k + 1)) (xs (6 * k + 2)) (xs (6 * k + 3)) = some (v, h2) := e3
      rw [if_pos c12, s1, s2, s3, bd_some, bd_some, bd_some, O_7 w, bd_some, e1, bd2_some, bd_some, bd_some, bd_some, e2, bd_some, e3, bd2_some, if_pos rfl]
      exact nxt h2 w2 r2 b1 b2
    rw [if_neg c12]
    by_cases c13 : c = 13
    · obtain ⟨v, h1, h2, e1, e2, e3, w2, r2, b1, b2⟩ := stp (op_at (xs (6 * k + 1)) (xs (6 * k + 2))) (fun h no => n8_at no (xs (6 * k + 1)) (xs (6 * k + 2))) w r
      replace e1 : f_X7_at h (some 0) (xs (6 * k + 1)) (xs (6 * k + 2)) = some (v, h1) := e1
      replace e3 : f_X8_at h1 (some 74) (xs (6 * k + 1)) (xs (6 * k + 2)) = some (v, h2) := e3
      rw [if_pos c13, s1, s2, bd_some, bd_some, O_7 w, bd_some, e1, bd2_some, bd_some, bd_some, e2, bd_some, e3, bd2_some, if_pos rfl]
      exact nxt h2 w2 r2 b1 b2
    rw [if_neg c13]
    by_cases c14 : c = 14
    · obtain ⟨v, h1, h2, e1, e2, e3, w2, r2, b1, b2⟩ := stp (op_who (xs (6 * k + 1)) (xs (6 * k + 2))) (fun h no => n8_who no (xs (6 * k + 1)) (xs (6 * k + 2))) w r
      replace e1 : f_X7_who h (some 0) (xs (6 * k + 1)) (xs (6 * k + 2)) = some (v, h1) := e1
      replace e3 : f_X8_who h1 (some 74) (xs (6 * k + 1)) (xs (6 * k + 2)) = some (v, h2) := e3
      rw [if_pos c14, s1, s2, bd_some, bd_some, O_7 w, bd_some, e1, bd2_some, bd_some, bd_some, e2, bd_some, e3, bd2_some, if_pos rfl]
      exact nxt h2 w2 r2 b1 b2
    rw [if_neg c14]
    by_cases c15 : c = 15
    · obtain ⟨v, h1, h2, e1, e2, e3, w2, r2, b1, b2⟩ := stp (op_plan (xs (6 * k + 1))) (fun h no => n8_plan no (xs (6 * k + 1))) w r
      replace e1 : f_X7_plan h (some 0) (xs (6 * k + 1)) = some (v, h1) := e1
      replace e3 : f_X8_plan h1 (some 74) (xs (6 * k + 1)) = some (v, h2) := e3
      rw [if_pos c15, s1, bd_some, O_7 w, bd_some, e1, bd2_some, bd_some, e2, bd_some, e3, bd2_some, if_pos rfl]
      exact nxt h2 w2 r2 b1 b2
    rw [if_neg c15]
    by_cases c16 : c = 16
    · obtain ⟨v, h1, h2, e1, e2, e3, w2, r2, b1, b2⟩ := stp (op_planned (xs (6 * k + 1)) (xs (6 * k + 2))) (fun h no => n8_planned no (xs (6 * k + 1)) (xs (6 * k + 2))) w r
      replace e1 : f_X7_planned h (some 0) (xs (6 * k + 1)) (xs (6 * k + 2)) = some (v, h1) := e1
      replace e3 : f_X8_planned h1 (some 74) (xs (6 * k + 1)) (xs (6 * k + 2)) = some (v, h2) := e3
      rw [if_pos c16, s1, s2, bd_some, bd_some, O_7 w, bd_some, e1, bd2_some, bd_some, bd_some, e2, bd_some, e3, bd2_some, if_pos rfl]
      exact nxt h2 w2 r2 b1 b2
    rw [if_neg c16]
    by_cases c17 : c = 17
    · obtain ⟨v, h1, h2, e1, e2, e3, w2, r2, b1, b2⟩ := stp (op_take (xs (6 * k + 1))) (fun h no => n8_take no (xs (6 * k + 1))) w r
      replace e1 : f_X7_take h (some 0) (xs (6 * k + 1)) = some (v, h1) := e1
      replace e3 : f_X8_take h1 (some 74) (xs (6 * k + 1)) = some (v, h2) := e3
      rw [if_pos c17, s1, bd_some, O_7 w, bd_some, e1, bd2_some, bd_some, e2, bd_some, e3, bd2_some, if_pos rfl]
      exact nxt h2 w2 r2 b1 b2
    rw [if_neg c17]
    by_cases c18 : c = 18
    · obtain ⟨v, h1, h2, e1, e2, e3, w2, r2, b1, b2⟩ := stp (op_calendar (xs (6 * k + 1))) (fun h no => n8_calendar no (xs (6 * k + 1))) w r
      replace e1 : f_X7_calendar h (some 0) (xs (6 * k + 1)) = some (v, h1) := e1
      replace e3 : f_X8_calendar h1 (some 74) (xs (6 * k + 1)) = some (v, h2) := e3
      rw [if_pos c18, s1, bd_some, O_7 w, bd_some, e1, bd2_some, bd_some, e2, bd_some, e3, bd2_some, if_pos rfl]
      exact nxt h2 w2 r2 b1 b2
    rw [if_neg c18]
    by_cases c19 : c = 19
    · obtain ⟨v, h1, h2, e1, e2, e3, w2, r2, b1, b2⟩ := stp (op_fill (xs (6 * k + 1))) (fun h no => n8_fill no (xs (6 * k + 1))) w r
      replace e1 : f_X7_fill h (some 0) (xs (6 * k + 1)) = some (v, h1) := e1
      replace e3 : f_X8_fill h1 (some 74) (xs (6 * k + 1)) = some (v, h2) := e3
      rw [if_pos c19, s1, bd_some, O_7 w, bd_some, e1, bd2_some, bd_some, e2, bd_some, e3, bd2_some, if_pos rfl]
      exact nxt h2 w2 r2 b1 b2
    rw [if_neg c19]
    by_cases c20 : c = 20
    · obtain ⟨v, h1, h2, e1, e2, e3, w2, r2, b1, b2⟩ := stp (op_near (xs (6 * k + 1)) (xs (6 * k + 2)) (xs (6 * k + 3))) (fun h no => n8_near no (xs (6 * k + 1)) (xs (6 * k + 2)) (xs (6 * k + 3))) w r
      replace e1 : f_X7_near h (some 0) (xs (6 * k + 1)) (xs (6 * k + 2)) (xs (6 * k + 3)) = some (v, h1) := e1
      replace e3 : f_X8_near h1 (some 74) (xs (6 * k + 1)) (xs (6 * k + 2)) (xs (6 * k + 3)) = some (v, h2) := e3
      rw [if_pos c20, s1, s2, s3, bd_some, bd_some, bd_some, O_7 w, bd_some, e1, bd2_some, bd_some, bd_some, bd_some, e2, bd_some, e3, bd2_some, if_pos rfl]
      exact nxt h2 w2 r2 b1 b2
    rw [if_neg c20]
    by_cases c21 : c = 21
    · obtain ⟨v, h1, h2, e1, e2, e3, w2, r2, b1, b2⟩ := stp (op_hurt (xs (6 * k + 1)) (xs (6 * k + 2))) (fun h no => n8_hurt no (xs (6 * k + 1)) (xs (6 * k + 2))) w r
      replace e1 : f_X7_hurt h (some 0) (xs (6 * k + 1)) (xs (6 * k + 2)) = some (v, h1) := e1
      replace e3 : f_X8_hurt h1 (some 74) (xs (6 * k + 1)) (xs (6 * k + 2)) = some (v, h2) := e3
      rw [if_pos c21, s1, s2, bd_some, bd_some, O_7 w, bd_some, e1, bd2_some, bd_some, bd_some, e2, bd_some, e3, bd2_some, if_pos rfl]
      exact nxt h2 w2 r2 b1 b2
    rw [if_neg c21]
    by_cases c22 : c = 22
    · obtain ⟨v, h1, h2, e1, e2, e3, w2, r2, b1, b2⟩ := stp (op_applicant (xs (6 * k + 1))) (fun h no => n8_applicant no (xs (6 * k + 1))) w r
      replace e1 : f_X7_applicant h (some 0) (xs (6 * k + 1)) = some (v, h1) := e1
      replace e3 : f_X8_applicant h1 (some 74) (xs (6 * k + 1)) = some (v, h2) := e3
      rw [if_pos c22, s1, bd_some, O_7 w, bd_some, e1, bd2_some, bd_some, e2, bd_some, e3, bd2_some, if_pos rfl]
      exact nxt h2 w2 r2 b1 b2
    rw [if_neg c22]
    by_cases c23 : c = 23
    · obtain ⟨v, h1, h2, e1, e2, e3, w2, r2, b1, b2⟩ := stp (op_weigh (xs (6 * k + 1)) (xs (6 * k + 2))) (fun h no => n8_weigh no (xs (6 * k + 1)) (xs (6 * k + 2))) w r
      replace e1 : f_X7_weigh h (some 0) (xs (6 * k + 1)) (xs (6 * k + 2)) = some (v, h1) := e1
      replace e3 : f_X8_weigh h1 (some 74) (xs (6 * k + 1)) (xs (6 * k + 2)) = some (v, h2) := e3
      rw [if_pos c23, s1, s2, bd_some, bd_some, O_7 w, bd_some, e1, bd2_some, bd_some, bd_some, e2, bd_some, e3, bd2_some, if_pos rfl]
      exact nxt h2 w2 r2 b1 b2
    rw [if_neg c23]
    by_cases c24 : c = 24
    · rw [if_pos c24]
      unfold j_L_law_1017 j_L_law_1039
      rw [s1, s2, bd_some, bd_some]
      by_cases cb : xs (6 * k + 2) = 0
      · obtain ⟨v, h1, h2, e1, e2, e3, w2, r2, b1, b2⟩ := stp (op_chance (xs (6 * k + 1)) 0) (fun h no => n8_chance no (xs (6 * k + 1)) 0) w r
        replace e1 : f_X7_chance h (some 0) (xs (6 * k + 1)) 0 = some (v, h1) := e1
        replace e3 : f_X8_chance h1 (some 74) (xs (6 * k + 1)) 0 = some (v, h2) := e3
        rw [if_pos cb, O_7 w, bd_some, e1, bd2_some, bd_some, bd_some, if_pos cb, e2, bd_some, e3, bd2_some, if_pos rfl]
        exact nxt h2 w2 r2 b1 b2
      · obtain ⟨v, h1, h2, e1, e2, e3, w2, r2, b1, b2⟩ := stp (op_chance (xs (6 * k + 1)) 1) (fun h no => n8_chance no (xs (6 * k + 1)) 1) w r
        replace e1 : f_X7_chance h (some 0) (xs (6 * k + 1)) 1 = some (v, h1) := e1
        replace e3 : f_X8_chance h1 (some 74) (xs (6 * k + 1)) 1 = some (v, h2) := e3
        rw [if_neg cb, O_7 w, bd_some, e1, bd2_some, bd_some, bd_some, if_neg cb, e2, bd_some, e3, bd2_some, if_pos rfl]
        exact nxt h2 w2 r2 b1 b2
    rw [if_neg c24]
    by_cases c25 : c = 25
    · obtain ⟨v, h1, h2, e1, e2, e3, w2, r2, b1, b2⟩ := stp (op_drawn (xs (6 * k + 1)) (xs (6 * k + 2))) (fun h no => n8_drawn no (xs (6 * k + 1)) (xs (6 * k + 2))) w r
      replace e1 : f_X7_drawn h (some 0) (xs (6 * k + 1)) (xs (6 * k + 2)) = some (v, h1) := e1
      replace e3 : f_X8_drawn h1 (some 74) (xs (6 * k + 1)) (xs (6 * k + 2)) = some (v, h2) := e3
      rw [if_pos c25, s1, s2, bd_some, bd_some, O_7 w, bd_some, e1, bd2_some, bd_some, bd_some, e2, bd_some, e3, bd2_some, if_pos rfl]
      exact nxt h2 w2 r2 b1 b2
    rw [if_neg c25]
    by_cases c26 : c = 26
    · obtain ⟨v, h1, h2, e1, e2, e3, w2, r2, b1, b2⟩ := stp (op_turn (xs (6 * k + 1)) (xs (6 * k + 2))) (fun h no => n8_turn no (xs (6 * k + 1)) (xs (6 * k + 2))) w r
      replace e1 : f_X7_turn h (some 0) (xs (6 * k + 1)) (xs (6 * k + 2)) = some (v, h1) := e1
      replace e3 : f_X8_turn h1 (some 74) (xs (6 * k + 1)) (xs (6 * k + 2)) = some (v, h2) := e3
      rw [if_pos c26, s1, s2, bd_some, bd_some, O_7 w, bd_some, e1, bd2_some, bd_some, bd_some, e2, bd_some, e3, bd2_some, if_pos rfl]
      exact nxt h2 w2 r2 b1 b2
    rw [if_neg c26]
    by_cases c27 : c = 27
    · obtain ⟨v, h1, h2, e1, e2, e3, w2, r2, b1, b2⟩ := stp (op_sheet (xs (6 * k + 1)) (xs (6 * k + 2)) (xs (6 * k + 3))) (fun h no => n8_sheet no (xs (6 * k + 1)) (xs (6 * k + 2)) (xs (6 * k + 3))) w r
      replace e1 : f_X7_sheet h (some 0) (xs (6 * k + 1)) (xs (6 * k + 2)) (xs (6 * k + 3)) = some (v, h1) := e1
      replace e3 : f_X8_sheet h1 (some 74) (xs (6 * k + 1)) (xs (6 * k + 2)) (xs (6 * k + 3)) = some (v, h2) := e3
      rw [if_pos c27, s1, s2, s3, bd_some, bd_some, bd_some, O_7 w, bd_some, e1, bd2_some, bd_some, bd_some, bd_some, e2, bd_some, e3, bd2_some, if_pos rfl]
      exact nxt h2 w2 r2 b1 b2
    rw [if_neg c27]
    by_cases c28 : c = 28
    · obtain ⟨v, h1, h2, e1, e2, e3, w2, r2, b1, b2⟩ := stp (op_put (xs (6 * k + 1)) (xs (6 * k + 2)) (xs (6 * k + 3))) (fun h no => n8_put no (xs (6 * k + 1)) (xs (6 * k + 2)) (xs (6 * k + 3))) w r
      replace e1 : f_X7_put h (some 0) (xs (6 * k + 1)) (xs (6 * k + 2)) (xs (6 * k + 3)) = some (v, h1) := e1
      replace e3 : f_X8_put h1 (some 74) (xs (6 * k + 1)) (xs (6 * k + 2)) (xs (6 * k + 3)) = some (v, h2) := e3
      rw [if_pos c28, s1, s2, s3, bd_some, bd_some, bd_some, O_7 w, bd_some, e1, bd2_some, bd_some, bd_some, bd_some, e2, bd_some, e3, bd2_some, if_pos rfl]
      exact nxt h2 w2 r2 b1 b2
    rw [if_neg c28]
    by_cases c29 : c = 29
    · obtain ⟨v, h1, h2, e1, e2, e3, w2, r2, b1, b2⟩ := stp (op_copy (xs (6 * k + 1)) (xs (6 * k + 2)) (xs (6 * k + 3)) (xs (6 * k + 4)) (xs (6 * k + 5))) (fun h no => n8_copy no (xs (6 * k + 1)) (xs (6 * k + 2)) (xs (6 * k + 3)) (xs (6 * k + 4)) (xs (6 * k + 5))) w r
      replace e1 : f_X7_copy h (some 0) (xs (6 * k + 1)) (xs (6 * k + 2)) (xs (6 * k + 3)) (xs (6 * k + 4)) (xs (6 * k + 5)) = some (v, h1) := e1
      replace e3 : f_X8_copy h1 (some 74) (xs (6 * k + 1)) (xs (6 * k + 2)) (xs (6 * k + 3)) (xs (6 * k + 4)) (xs (6 * k + 5)) = some (v, h2) := e3
      rw [if_pos c29, s1, s2, s3, s4, s5, bd_some, bd_some, bd_some, bd_some, bd_some, O_7 w, bd_some, e1, bd2_some, bd_some, bd_some, bd_some, bd_some, bd_some, e2, bd_some, e3, bd2_some, if_pos rfl]
      exact nxt h2 w2 r2 b1 b2
    rw [if_neg c29]
    by_cases c30 : c = 30
    · obtain ⟨v, h1, h2, e1, e2, e3, w2, r2, b1, b2⟩ := stp (op_let (xs (6 * k + 1)) (xs (6 * k + 2))) (fun h no => n8_let no (xs (6 * k + 1)) (xs (6 * k + 2))) w r
      replace e1 : f_X7_let h (some 0) (xs (6 * k + 1)) (xs (6 * k + 2)) = some (v, h1) := e1
      replace e3 : f_X8_let h1 (some 74) (xs (6 * k + 1)) (xs (6 * k + 2)) = some (v, h2) := e3
      rw [if_pos c30, s1, s2, bd_some, bd_some, O_7 w, bd_some, e1, bd2_some, bd_some, bd_some, e2, bd_some, e3, bd2_some, if_pos rfl]
      exact nxt h2 w2 r2 b1 b2
    rw [if_neg c30]
    by_cases c31 : c = 31
    · obtain ⟨v, h1, h2, e1, e2, e3, w2, r2, b1, b2⟩ := stp (op_undo ) (fun h no => n8_undo no ) w r
      replace e1 : f_X7_undo h (some 0)  = some (v, h1) := e1
      replace e3 : f_X8_undo h1 (some 74)  = some (v, h2) := e3
      rw [if_pos c31, O_7 w, bd_some, e1, bd2_some, e2, bd_some, e3, bd2_some, if_pos rfl]
      exact nxt h2 w2 r2 b1 b2
    rw [if_neg c31]
    by_cases c32 : c = 32
    · obtain ⟨v, h1, h2, e1, e2, e3, w2, r2, b1, b2⟩ := stp (op_all (xs (6 * k + 1))) (fun h no => n8_all no (xs (6 * k + 1))) w r
      replace e1 : f_X7_all h (some 0) (xs (6 * k + 1)) = some (v, h1) := e1
      replace e3 : f_X8_all h1 (some 74) (xs (6 * k + 1)) = some (v, h2) := e3
      rw [if_pos c32, s1, bd_some, O_7 w, bd_some, e1, bd2_some, bd_some, e2, bd_some, e3, bd2_some, if_pos rfl]
      exact nxt h2 w2 r2 b1 b2
    rw [if_neg c32]
    exact nxt h w r (by omega) (by omega)
theorem pure_law : PureLaw := by
  intro L xs hL
  obtain ⟨h, w, r, b1, b2, e⟩ := law_st L xs
  obtain ⟨F, hF⟩ := NN_ge (L / 6) (by omega)
  obtain ⟨h', z1, z2, z3⟩ := law_lp hL (L / 6) 0 F h (by omega) w r
  refine ⟨h', ?_, by omega, by omega⟩
  rw [e, hF]
  exact z1
