/-! undo; the sheets -/
theorem undo8 {s : Nat} (hs : s < 20) : ∀ (d i F : Nat) (h : AH), i + d = 556 → WF h → hI h 74 2 = nI s → ∃ h1, g_X8_undo_26 (F + d + 1) h (some 74) (nI i) = some (nI s, h1) ∧ Fr h h1 [75] ∧ ∀ j, hI h1 75 j = if i ≤ j ∧ j < 556 then hI h 76 (556 * s + j) else hI h 75 j := by
  intro d
  induction d with
  | zero =>
    intro i F h hi w e
    have : i = 556 := by omega
    subst this
    refine ⟨h, ?_, Fr.rf h _, fun j => by rw [if_neg (by omega)]⟩
    rw [show F + 0 + 1 = F + 1 from rfl, g_X8_undo_26, if_pos (by decide), gI_w (q := 74) (ci := 8) (j := 2) w (by decide) rfl, bd_some, e]
  | succ d ih =>
    intro i F h hi w e
    have c : ¬ (556 : Int32) ≤ nI i := nI_ge (b := 556) (by omega) (by omega)
    have ld : ldI h (some 76) (nI (556 * s + i)) = some (hI h 76 (556 * s + i)) := ldI_w w (by decide) rfl (by show _ < 11120; omega) (by decide)
    have st : stI h (some 75) (nI i) (hI h 76 (556 * s + i)) = some (sI h 75 (upd (hI h 75) i (hI h 76 (556 * s + i)))) := stI_w w (by decide) rfl (by show _ < 556; omega) (by decide)
    obtain ⟨h1, a1, a2, a3⟩ := ih (i + 1) F (sI h 75 (upd (hI h 75) i (hI h 76 (556 * s + i)))) (by omega) ((WF_sI _ _ _).mpr w) (by rw [sI_ne (by decide)]; exact e)
    refine ⟨h1, ?_, (Fr.sI h (by decide)).trans a2, fun j => ?_⟩
    · rw [g_X8_undo_26, if_neg c, gR_w (q := 74) (ci := 8) (j := 0) w (by decide) rfl rfl, bd_some, show tR 74 0 = some 75 from rfl, gR_w (q := 74) (ci := 8) (j := 1) w (by decide) rfl rfl, bd_some, show tR 74 1 = some 76 from rfl, gI_w (q := 74) (ci := 8) (j := 2) w (by decide) rfl, bd_some, e, mul556, ld, bd_some, st, bd_some, nI_1]
      exact a1
    · rw [a3 j, sI_eq, sI_ne (by decide)]
      unfold upd
      by_cases c1 : i + 1 ≤ j ∧ j < 556
      · rw [if_pos c1, if_pos (by omega)]
      · rw [if_neg c1]
        by_cases c2 : j = i
        · rw [if_pos c2, if_pos (by omega), c2]
        · rw [if_neg c2, if_neg (by omega)]
theorem Rd_d {D D2 : RW} {n : Nat → Int32} {C : CT} (h : Rd D n C) (e : ∀ k j, k < 23 → D2 k j = D k j) : Rd D2 n C := Rd_ag h (Ag_rows (fun k j hk => e k j hk))
theorem op_undo : OpOk (fun h => f_X7_undo h (some 0)) (fun h => f_X8_undo h (some 74)) := by
  intro h w r
  obtain ⟨C, r1, r2, r3, nx, sz, q1, q2, q3, q4, q5, q6⟩ := id r
  cases sz with
  | zero =>
    have z7 : f_X1_bringBack h (some 23) = some (0, h) := by
      unfold f_X1_bringBack
      rw [gI_w (q := 23) (ci := 1) (j := 2) w (by decide) rfl, bd_some, q4, if_neg (fun z => z rfl)]
    exact fin_ok (a := fun h => f_X7_undo h (some 0) ) (b := fun h => f_X8_undo h (some 74) ) (x := -100006) w r (by show f_X7_undo h (some 0)  = _; unfold f_X7_undo; rw [gR_w (q := 0) (ci := 7) (j := 4) w (by decide) rfl rfl, bd_some, show tR 0 4 = some 23 from rfl, isO_w (q := 23) (ci := 1) w (by decide) rfl, bd_some, z7, bd2_some, if_pos rfl, isO_w (q := 0) (ci := 7) w (by decide) rfl, bd_some, bd2_id]) (fun f => by show f_X8_undo (sI h 0 f) (some 74)  = _; unfold f_X8_undo; rw [gI_w (q := 74) (ci := 8) (j := 2) (w0 w f) (by decide) rfl, bd_some, sI_ne (by decide), q5, if_neg (fun z => z rfl), isO_w (q := 74) (ci := 8) (w0 w f) (by decide) rfl, bd_some, bd2_id])
  | succ sz =>
    obtain ⟨pk, C2, rd2, le2, hist2⟩ := q6
    generalize hp : (nx + 19) % 20 = p at *
    have hp20 : p < 20 := by omega
    obtain ⟨rr, aa, mm, hr, e1, e2, e3, e4, e5, e6, e7⟩ := id pk
    obtain ⟨p1, p2, p3, p4, p5, p6⟩ := w.2.2.2.1 p hp20
    obtain ⟨s1, s2, s3, s4, s5, s6⟩ := shq_rows rr hr
    have w1 := w.1
    have hq : 25 + 2 * p < hn h := by omega
    have hqs : (hS h (25 + 2 * p)).1 = 6 := by rw [w.2.1 _ (by omega), (shq_p p hp20).1]
    have n1 : ¬ nI (sz + 1) = 0 := nI_ne0 (by omega) (by omega)
    have x1 : nI nx + 20 - 1 = nI (nx + 19) := by rw [show (20 : Int32) = nI 20 from rfl, nI_add, show nx + 20 = (nx + 19) + 1 by omega, nI_pred]
    have x2 : nI (sz + 1) - 1 = nI sz := nI_pred sz
    obtain ⟨ha, had⟩ : ∃ ha, ha = sI (sI h 23 (upd (hI h 23) 1 (nI p))) 23 (upd (upd (hI h 23) 1 (nI p)) 2 (nI sz)) := ⟨_, rfl⟩
    have fa : Fr h ha [23] := by rw [had]; exact (Fr.sI h (by decide)).trans (Fr.sI _ (by decide))
    have wa : WF ha := WF_fr fa w
    have na : hI ha 23 = upd (upd (hI h 23) 1 (nI p)) 2 (nI sz) := by rw [had, sI_eq]
    have na1 : hI ha 23 1 = nI p := by rw [na]; simp [upd]
    have na2 : hI ha 23 2 = nI sz := by rw [na]; simp [upd]
    have ea : ∀ k, k ≠ 23 → hI ha k = hI h k := fun k hk => fa.2.2.2.2 k (by simp [hk])
    have g0 : gR ha (some (25 + 2 * p)) 2 0 = some (some rr) := by simp only [gR]; rw [if_pos ⟨by rw [fa.2.2.1]; exact hq, by rw [fa.2.1]; exact hqs⟩, fa.1]; exact congrArg some e1
    have g3 : gR ha (some (25 + 2 * p)) 2 3 = some (some (pb h p)) := by simp only [gR]; rw [if_pos ⟨by rw [fa.2.2.1]; exact hq, by rw [fa.2.1]; exact hqs⟩, fa.1, p1]
    have i1 : gI ha (some (25 + 2 * p)) 2 1 = some (nI aa) := by simp only [gI]; rw [if_pos ⟨by rw [fa.2.2.1]; exact hq, by rw [fa.2.1]; exact hqs⟩, ea _ (by omega)]; exact congrArg some e2
    have i2 : gI ha (some (25 + 2 * p)) 2 2 = some (nI mm) := by simp only [gI]; rw [if_pos ⟨by rw [fa.2.2.1]; exact hq, by rw [fa.2.1]; exact hqs⟩, ea _ (by omega)]; exact congrArg some e3
    have iso : isO ha (some (25 + 2 * p)) 2 = some () := by simp only [isO]; rw [if_pos ⟨by rw [fa.2.2.1]; exact hq, by rw [fa.2.1]; exact hqs⟩]
    have hb23 : pb h p ≠ 23 := by omega
    obtain ⟨hb, hbd⟩ : ∃ hb, hb = sI ha rr (va_cpy (hI h (pb h p)) (hI h rr) 0 aa mm) := ⟨_, rfl⟩
    have e5' : mm ≤ (hS h (pb h p)).2 := e5
    have cp : cpI ha (some (pb h p)) 0 (some rr) (nI aa) (nI mm) = some hb := by
      simp only [cpI]
      rw [if_pos ⟨⟨by rw [fa.2.2.1]; exact p3, by rw [fa.2.1]; exact p4⟩, ⟨by rw [fa.2.2.1]; omega, by rw [fa.2.1, w.2.1 rr s4]; exact s1⟩, ⟨by decide, nI_pos (by omega), nI_pos (by omega)⟩, by rw [show (0 : Int32).toNatClampNeg = 0 from rfl, nI_clamp (by omega), fa.2.1]; omega, by rw [nI_clamp (by omega), nI_clamp (by omega), fa.2.1, w.2.1 rr s4]; exact e4⟩, nI_clamp (by omega), nI_clamp (by omega), ea _ hb23, ea rr (by omega), hbd]; rfl
    have fb : Fr ha hb [rr] := by rw [hbd]; exact Fr.sI ha (List.mem_singleton.mpr rfl)
    have wb : WF hb := WF_fr fb wa
    have x2b : f_X2_bringBack ha (some (25 + 2 * p)) = some hb := by
      unfold f_X2_bringBack
      rw [g0, bd_some]
      show (bd (gR ha (some (25 + 2 * p)) 2 3) fun v8 => _) = _
      rw [g3, bd_some, bd_some, i1, bd_some, i2, bd_some, cp, bd_some]
    have hR24 : ldR ha (some 24) 3 (nI p) = some (some (25 + 2 * p)) := by
      have t := tR24 p hp20
      rw [ldR_w (q := 24) (t := 3) wa (by decide) rfl (by show p < 20; omega) (by decide) (by rw [t]; rfl), t]
    have bb : f_X1_bringBack h (some 23) = some (1, hb) := by
      unfold f_X1_bringBack
      have wa1 : WF (sI h 23 (upd (hI h 23) 1 (nI p))) := (WF_sI _ _ _).mpr w
      rw [gI_w (q := 23) (ci := 1) (j := 2) w (by decide) rfl, bd_some, q4, if_pos n1, gI_w (q := 23) (ci := 1) (j := 1) w (by decide) rfl, bd_some, q3, x1, rm20 (by omega), bd_some, hp, pI_w (q := 23) (ci := 1) (j := 1) w (by decide) rfl, bd_some, gI_w (q := 23) (ci := 1) (j := 2) wa1 (by decide) rfl, bd_some, sI_eq, show upd (hI h 23) 1 (nI p) 2 = nI (sz + 1) by rw [upd, if_neg (by decide)]; exact q4, x2, pI_w (q := 23) (ci := 1) (j := 2) wa1 (by decide) rfl, bd_some, sI_eq, ← had, gR_w (q := 23) (ci := 1) (j := 0) wa (by decide) rfl rfl, bd_some, show tR 23 0 = some 24 from rfl, gI_w (q := 23) (ci := 1) (j := 1) wa (by decide) rfl, bd_some, na1, hR24, bd_some, iso, bd_some, x2b, bd_some]
    have nb : ∀ k, k ≠ rr → hI hb k = hI ha k := fun k hk => fb.2.2.2.2 k (by simp [hk])
    have z7 : f_X7_undo h (some 0) = some (nI sz, hb) := by
      unfold f_X7_undo
      rw [gR_w (q := 0) (ci := 7) (j := 4) w (by decide) rfl rfl, bd_some, show tR 0 4 = some 23 from rfl, isO_w (q := 23) (ci := 1) w (by decide) rfl, bd_some, bb, bd2_some, if_neg (by decide), gR_w (q := 0) (ci := 7) (j := 4) wb (by decide) rfl rfl, bd_some, show tR 0 4 = some 23 from rfl, gI_w (q := 23) (ci := 1) (j := 2) wb (by decide) rfl, bd_some, nb 23 (by omega), na2]
    -- the reference
    have b74 : hI hb 74 = hI h 74 := by rw [nb 74 (by omega), ea 74 (by omega)]
    have b76 : hI hb 76 = hI h 76 := by rw [nb 76 (by omega), ea 76 (by omega)]
    obtain ⟨hc, hcd⟩ : ∃ hc, hc = sI hb 74 (upd (hI h 74) 2 (nI sz)) := ⟨_, rfl⟩
    have fc : Fr hb hc [74] := by rw [hcd]; exact Fr.sI hb (by decide)
    have wc : WF hc := WF_fr fc wb
    have c74 : hI hc 74 2 = nI sz := by rw [hcd, sI_eq, upd, if_pos rfl]
    obtain ⟨F, hF⟩ := NN_ge 556 (by omega)
    obtain ⟨hd, d1, fd, d3⟩ := undo8 (s := sz) (by omega) 556 0 F hc rfl wc c74
    rw [← hF] at d1
    have z8 : f_X8_undo hb (some 74) = some (nI sz, hd) := by
      unfold f_X8_undo
      rw [gI_w (q := 74) (ci := 8) (j := 2) wb (by decide) rfl, bd_some, b74, q5, if_pos n1, bd_some, x2, pI_w (q := 74) (ci := 8) (j := 2) wb (by decide) rfl, bd_some, b74, ← hcd, show (0 : Int32) = nI 0 from rfl, d1]
    have ff : Fr h hd [23, rr, 74, 75] := by
      have a1 : Fr h ha [23, rr, 74, 75] := fa.mono (fun k hk => by simp at hk; simp [hk])
      have a2 : Fr ha hb [23, rr, 74, 75] := fb.mono (fun k hk => by simp at hk; simp [hk])
      have a3 : Fr hb hc [23, rr, 74, 75] := fc.mono (fun k hk => by simp at hk; simp [hk])
      have a4 : Fr hc hd [23, rr, 74, 75] := fd.mono (fun k hk => by simp at hk; simp [hk])
      exact ((a1.trans a2).trans a3).trans a4
    have pv : ∀ i, i < 20 → PVf hd i = PVf h i := by
      intro i hi
      obtain ⟨-, pp2, -⟩ := w.2.2.2.1 i hi
      have y1 : pb hd i = pb h i := by unfold pb; rw [ff.1]
      have y2 : hI hd (25 + 2 * i) = hI h (25 + 2 * i) := ff.2.2.2.2 _ (by simp; omega)
      have y3 : hI hd (pb h i) = hI h (pb h i) := ff.2.2.2.2 _ (by simp; omega)
      unfold PVf
      rw [y1, y2, y3, ff.1, ff.2.1]
    have k0 : ∀ k, k ≠ 23 → k ≠ rr → k ≠ 74 → k ≠ 75 → hI hd k = hI h k := fun k a b c d => ff.2.2.2.2 k (by simp [a, b, c, d])
    have krr : hI hd rr = va_cpy (hI h (pb h p)) (hI h rr) 0 aa mm := by rw [fd.2.2.2.2 rr (by simp; omega), fc.2.2.2.2 rr (by simp; omega), hbd, sI_eq]
    have uu : ∀ k j, k < 23 → hI hd k j = unp (PVf h p) (hI h) k j := by
      intro k j hk
      unfold unp
      rw [e1]
      simp only [va_up]
      rw [e2, e3, nI_clamp (by omega), nI_clamp (by omega)]
      by_cases e : k = rr
      · rw [if_pos e, e, krr]; rfl
      · rw [if_neg e, k0 k (by omega) e (by omega) (by omega)]
    have n75 : ∀ j, j < 556 → hI hd 75 j = snf h sz j := by
      intro j hj
      rw [d3 j, if_pos (by omega), hcd, sI_ne (by decide), b76]; rfl
    have n74 : ∀ j, hI hd 74 j = if j = 2 then nI sz else hI h 74 j := by
      intro j
      rw [fd.2.2.2.2 74 (by decide), hcd, sI_eq]; rfl
    have n23 : hI hd 23 = hI ha 23 := by rw [fd.2.2.2.2 23 (by decide), fc.2.2.2.2 23 (by decide), nb 23 (by omega)]
    refine ⟨nI sz, hb, hd, z7, z8, WF_fr ff w, ⟨C2, ?_, ?_, ?_, p, sz, hp20, by omega, by rw [n23]; exact na1, by rw [n23]; exact na2, by rw [n74, if_pos rfl], ?_⟩, by rw [ff.2.2.1]; omega, by rw [ff.2.2.2.1]; omega⟩
    · exact Rd_n (Rd_d rd2 uu) n75
    · exact Sh_of r2 (fun k hk => k0 k (by omega) (by omega) (by omega) (by omega))
    · rw [n74, if_neg (by decide), k0 0 (by omega) (by have : ∀ r, r ∈ rowsOk → r ≠ 0 := by decide
                                                       exact fun z => this rr hr z.symm) (by omega) (by omega)]; exact r3
    · have sn : snf hd = snf h := by unfold snf; rw [k0 76 (by omega) (by omega) (by omega) (by omega)]
      rw [sn]
      refine Hist_ag sz (Hist_V sz hist2 hp20 (by omega) (fun k _ _ => pv _ (Nat.mod_lt _ (by omega)))) (Ag_rows uu)
