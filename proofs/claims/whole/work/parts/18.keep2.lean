/-! Piece.keep, Past.keep, Past.bringBack -/
def jH (h : AH) (q r a m b : Nat) : AH :=
  sI (sI (sI (sR h q (va_up (hR h q) 0 (some r))) q (upd (hI h q) 1 (nI a))) q (upd (upd (hI h q) 1 (nI a)) 2 (nI m))) b (va_cpy (hI h r) (hI h b) a 0 m)
theorem e2_j28 {h : AH} {q r a m b : Nat} (hq : q < hn h) (hqs : (hS h q).1 = 6) (hb3 : hR h q 3 = some b) (hb : b < hn h) (hbs : (hS h b).1 = 0) (hbl : m ≤ (hS h b).2) (hr : r < hn h) (hrs : (hS h r).1 = 0) (ham : a + m ≤ (hS h r).2) (hs : (hS h r).2 ≤ 350) (hqr : r ≠ q) (hqb : b ≠ q) :
    j_X2_keep_28 h (some q) (some r) (nI a) (nI m) = some (jH h q r a m b) := by
  have a1 : ¬ nI a < 0 := nI_pos (by omega)
  have a2 : ¬ nI m < 0 := nI_pos (by omega)
  have a3 : ¬ (0 : Int32) < 0 := by decide
  have a4 : (0 : Int32).toNatClampNeg = 0 := by decide
  have a5 : (nI a).toNatClampNeg = a := nI_clamp (by omega)
  have a6 : (nI m).toNatClampNeg = m := nI_clamp (by omega)
  unfold j_X2_keep_28
  simp only [pR, pI, gR, gI, cpI, hq, hqs, bd_some, hR_sI, hS_sI, hn_sI, and_self, if_true, Nat.reduceAdd]
  simp only [sR_eq, hI_sI, sR, va_up, upd, hI, hR, hS, hn, hs] at *
  simp [hq, hqs, hb3, hb, hbs, hbl, hr, hrs, ham, a1, a2, a3, a4, a5, a6, hqr, hqb, bd_some, jH, sR, sI, hI, hR, hS, hn, hs, va_up, upd, bd]
/-- what a piece told anew leaves: rows, references -/
theorem jH_I {h : AH} {q r a m b k : Nat} (hb : b ≠ q) : hI (jH h q r a m b) k = if k = b then va_cpy (hI h r) (hI h b) a 0 m else if k = q then upd (upd (hI h q) 1 (nI a)) 2 (nI m) else hI h k := by
  unfold jH
  rw [hI_sI]
  split
  · rfl
  · rw [hI_sI]
    split
    · rfl
    · rename_i z
      rw [hI_sI, if_neg z]
      rfl
theorem jH_R {h : AH} {q r a m b k : Nat} : hR (jH h q r a m b) k = if k = q then va_up (hR h q) 0 (some r) else hR h k := rfl
theorem jH_S {h : AH} {q r a m b : Nat} : hS (jH h q r a m b) = hS h := rfl
theorem jH_n {h : AH} {q r a m b : Nat} : hn (jH h q r a m b) = hn h := rfl
theorem jH_s {h : AH} {q r a m b : Nat} : hs (jH h q r a m b) = hs h := rfl
/-- the heap in which a piece has a longer row -/
def lH (h : AH) (q L : Nat) : AH := sR (nC h 0 L) q (va_up (hR h q) 3 (some (hn h)))
theorem e2_keep {h : AH} (w : WF h) {nx r a m : Nat} (hx : nx < 20) (hr : r ∈ rowsOk) (ham : a + m ≤ (shq r).2) :
    ∃ h0 b, f_X2_keep h (some (25 + 2 * nx)) (some r) (nI a) (nI m) = some (jH h0 (25 + 2 * nx) r a m b) ∧ ((h0 = h ∧ b = pb h nx ∧ m ≤ (hS h b).2) ∨ ∃ L, h0 = lH h (25 + 2 * nx) L ∧ b = hn h ∧ m ≤ L ∧ L ≤ 350) := by
  obtain ⟨r1, r2, r3, r4, r5, r6⟩ := shq_rows r hr
  obtain ⟨p1, p2, p3, p4, p5, p6⟩ := w.2.2.2.1 nx hx
  have w1 := w.1
  have hq : 25 + 2 * nx < hn h := by omega
  have hqs : (hS h (25 + 2 * nx)).1 = 6 := by rw [w.2.1 _ (by omega), (shq_p nx hx).1]
  have hrs : hS h r = shq r := w.2.1 r r4
  have hg : gR h (some (25 + 2 * nx)) 2 3 = some (some (pb h nx)) := by simp only [gR]; rw [if_pos ⟨hq, hqs⟩, p1]
  have hl : lenA h (some (pb h nx)) = some (nI (hS h (pb h nx)).2) := by simp only [lenA]; rw [if_pos ⟨p3, p4⟩]; rfl
  have hbq : pb h nx ≠ 25 + 2 * nx := by omega
  unfold f_X2_keep
  rw [hg, bd_some, hl, bd_some]
  by_cases c : m ≤ (hS h (pb h nx)).2
  · rw [if_pos (nI_le c (by omega))]
    refine ⟨h, pb h nx, e2_j28 hq hqs p1 p3 p4 c (by omega) (by rw [hrs]; exact r1) (by rw [hrs]; exact ham) (by rw [hrs]; exact r3) (by omega) hbq, Or.inl ⟨rfl, rfl, c⟩⟩
  · rw [if_neg (fun z => c ((nI_leI (by omega) (by omega)).mp z))]
    have big : ∀ L, m ≤ L → L ≤ 350 → j_X2_keep_23 h (some (25 + 2 * nx)) (some r) (nI a) (nI m) (some (25 + 2 * nx)) (nI L) = some (jH (lH h (25 + 2 * nx) L) (25 + 2 * nx) r a m (hn h)) := by
      intro L hL1 hL2
      have hc : (nI L).toNatClampNeg = L := nI_clamp (by omega)
      have hA : nA h 0 (nI L) = some (some (hn h), nC h 0 L) := by
        unfold nA
        rw [if_pos ⟨nI_pos (by omega), by rw [hc]; omega⟩, hc]
      have n1 := nC_ne (t := 0) (n := L) hq
      have n2 := nC_ne (t := 0) (n := L) (show r < hn h by omega)
      have n3 : hn (nC h 0 L) = hn h + 1 := rfl
      have hP : pR (nC h 0 L) (some (25 + 2 * nx)) 2 3 (some (hn h)) = some (lH h (25 + 2 * nx) L) := by
        simp only [pR]
        rw [if_pos ⟨by omega, by rw [n1.1]; exact hqs⟩, n1.2.2]
        rfl
      have s3 : hS (lH h (25 + 2 * nx) L) = hS (nC h 0 L) := rfl
      unfold j_X2_keep_23
      rw [hA, bd2_some, hP, bd_some]
      refine e2_j28 (show _ < hn h + 1 by omega) (by rw [s3, n1.1]; exact hqs) (by unfold lH; rw [sR_eq]; simp [va_up]) (show hn h < hn h + 1 by omega) (by rw [s3, nC_eq.1]) (by rw [s3, nC_eq.1]; exact hL1) (show r < hn h + 1 by omega) (by rw [s3, n2.1, hrs]; exact r1) (by rw [s3, n2.1, hrs]; exact ham) (by rw [s3, n2.1, hrs]; exact r3) (by omega) (by omega)
    by_cases c2 : 40 < m
    · rw [if_pos (show (40 : Int32) < nI m from nI_lt c2 (by omega))]
      have hl2 : lenA h (some r) = some (nI (shq r).2) := lenA_w w r4 r1
      rw [hl2, bd_some]
      exact ⟨_, _, big (shq r).2 (by omega) r3, Or.inr ⟨(shq r).2, rfl, rfl, by omega, r3⟩⟩
    · have c3 : ¬ (40 : Int32) < nI m := fun z => c2 ((nI_ltI (a := 40) (by omega) (by omega)).mp z)
      rw [if_neg c3]
      exact ⟨_, _, big 40 (by omega) (by omega), Or.inr ⟨40, rfl, rfl, by omega, by omega⟩⟩
theorem rm20 {k : Nat} (hk : k < 1000) : rm (nI k) 20 = some (nI (k % 20)) := by
  unfold rm
  rw [if_pos (by decide)]
  have := pk_rem (a := k) (d := 20) (by omega) (by omega) (by omega)
  exact congrArg some this
theorem min20 {s : Nat} (hs : s ≤ 20) : (if (nI s + 1) < 20 then (nI s + 1) else 20) = nI (min 20 (s + 1)) := by
  rw [nI_1]
  by_cases c : s + 1 < 20
  · have c3 : nI (s + 1) < 20 := nI_lt (b := 20) c (by omega)
    rw [if_pos c3]
    congr 1; omega
  · have c3 : ¬ nI (s + 1) < 20 := fun z => c ((nI_ltI (b := 20) (by omega) (by omega)).mp z)
    rw [if_neg c3]
    show nI 20 = _
    congr 1; omega
/-- Past.keep -/
theorem e1_keep {h : AH} (w : WF h) {nx sz r a m : Nat} (hx : nx < 20) (hnx : hI h 23 1 = nI nx) (hz : sz ≤ 20) (hsz : hI h 23 2 = nI sz) (hr : r ∈ rowsOk) (ham : a + m ≤ (shq r).2) :
    ∃ h1, f_X1_keep h (some 23) (some r) (nI a) (nI m) = some h1 ∧ WF h1 ∧ hn h1 ≤ hn h + 1 ∧ hs h1 ≤ hs h + 350 ∧ (∀ k, k < 86 → k ≠ 23 → (∀ i, i < 20 → k ≠ 25 + 2 * i ∧ k ≠ 26 + 2 * i) → hI h1 k = hI h k) ∧ hI h1 23 1 = nI ((nx + 1) % 20) ∧ hI h1 23 2 = nI (min 20 (sz + 1)) ∧ (∀ i, i < 20 → i ≠ nx → PVf h1 i = PVf h i) ∧ pOk (PVf h1 nx) ∧ (PVf h1 nx).1.1 = some r ∧ (PVf h1 nx).1.2.1 = nI a ∧ (PVf h1 nx).1.2.2.1 = nI m ∧ ∀ j, j < m → (PVf h1 nx).1.2.2.2 j = hI h r (a + j) := by
  obtain ⟨r1, r2, r3, r4, r5, r6⟩ := shq_rows r hr
  obtain ⟨p1, p2, p3, p4, p5, p6⟩ := w.2.2.2.1 nx hx
  have w1 := w.1
  obtain ⟨h0, b, e0, hcase⟩ := e2_keep w hx hr ham
  generalize hj : jH h0 (25 + 2 * nx) r a m b = h2 at e0
  -- the piece's references
  have base : b ≠ 25 + 2 * nx ∧ b ≠ 23 ∧ hn h ≤ hn h0 ∧ (∀ k, k < hn h → hS h0 k = hS h k) ∧ (∀ k, k < hn h → k ≠ 25 + 2 * nx → hR h0 k = hR h k) ∧ (∀ j, j ≠ 3 → hR h0 (25 + 2 * nx) j = hR h (25 + 2 * nx) j) ∧ hR h0 (25 + 2 * nx) 3 = some b ∧ (b = pb h nx ∨ (b = hn h ∧ hn h < hn h0 ∧ (hS h0 b).1 = 0 ∧ (hS h0 b).2 ≤ 350)) ∧ (∀ k, k < hn h → hI h0 k = hI h k) ∧ m ≤ (hS h0 b).2 ∧ hn h0 ≤ hn h + 1 ∧ hs h0 ≤ hs h + 350 := by
    rcases hcase with ⟨rfl, rfl, hl⟩ | ⟨L, rfl, rfl, hl, hl2⟩
    · exact ⟨by omega, by omega, Nat.le_refl _, fun _ _ => rfl, fun _ _ _ => rfl, fun _ _ => rfl, p1, Or.inl rfl, fun _ _ => rfl, hl, by omega, by omega⟩
    · have s3 : hS (lH h (25 + 2 * nx) L) = hS (nC h 0 L) := rfl
      have n3 : hn (lH h (25 + 2 * nx) L) = hn h + 1 := rfl
      have i3 : hI (lH h (25 + 2 * nx) L) = hI (nC h 0 L) := rfl
      refine ⟨by omega, by omega, by omega, fun k hk => by rw [s3]; exact (nC_ne hk).1, fun k hk e => ?_, fun j hj2 => ?_, ?_, Or.inr ⟨rfl, by omega, by rw [s3, nC_eq.1], by rw [s3, nC_eq.1]; exact hl2⟩, fun k hk => by rw [i3]; exact (nC_ne hk).2.1, by rw [s3, nC_eq.1]; exact hl, by omega, show hs h + L ≤ _ by omega⟩
      · unfold lH; rw [sR_ne e]; exact (nC_ne hk).2.2
      · unfold lH; rw [sR_eq]; simp [va_up, hj2]
      · unfold lH; rw [sR_eq]; simp [va_up]
  obtain ⟨b1, b2, b3, b4, b5, b6, b7, b8, b9, b10, b11, b12⟩ := base
  have s2 : hS h2 = hS h0 := by rw [← hj, jH_S]
  have n2 : hn h2 = hn h0 := by rw [← hj, jH_n]
  have t2 : hs h2 = hs h0 := by rw [← hj, jH_s]
  have R2 : ∀ k, hR h2 k = if k = 25 + 2 * nx then va_up (hR h0 (25 + 2 * nx)) 0 (some r) else hR h0 k := fun k => by rw [← hj, jH_R]
  have I2 : ∀ k, hI h2 k = if k = b then va_cpy (hI h0 r) (hI h0 b) a 0 m else if k = 25 + 2 * nx then upd (upd (hI h0 (25 + 2 * nx)) 1 (nI a)) 2 (nI m) else hI h0 k := fun k => by rw [← hj]; exact jH_I b1
  obtain ⟨W2, P2, B2⟩ := WF_pc (h := h) (h1 := h2) (nx := nx) (r := r) (b1 := b) w hx hr (by rw [n2]; exact b3) (fun k hk => by rw [s2]; exact b4 k hk) (fun k hk e => by rw [R2, if_neg e]; exact b5 k hk e) (fun j hj1 hj2 => by rw [R2, if_pos rfl]; simp only [va_up, hj1, if_false]; exact b6 j hj2) (by rw [R2, if_pos rfl]; simp [va_up]) (by rw [R2, if_pos rfl]; simp only [va_up]; rw [if_neg (by decide)]; exact b7) (by
    rcases b8 with z | ⟨z1, z2, z3, z4⟩
    · exact Or.inl z
    · exact Or.inr ⟨z1, by rw [n2]; exact z2, by rw [s2]; exact z3, by rw [s2]; exact z4⟩)
  have blt : ∀ i, i < 20 → pb h i < hn h ∧ (pb h i = 26 + 2 * i ∨ 86 ≤ pb h i) := fun i hi => ⟨(w.2.2.2.1 i hi).2.2.1, (w.2.2.2.1 i hi).2.1⟩
  have bne : ∀ i, i < 20 → i ≠ nx → pb h i ≠ b := by
    intro i hi e z
    rcases b8 with q | ⟨q, -⟩
    · exact e (w.2.2.2.2 i nx hi hx (z.trans q))
    · have := (blt i hi).1; omega
  have bpc : ∀ i, i < 20 → b ≠ 25 + 2 * i := by
    intro i hi z
    rcases b8 with q | ⟨q, -⟩
    · rcases (blt nx hx).2 with y | y <;> omega
    · omega
  have I23 : hI h2 23 = hI h 23 := by rw [I2, if_neg (by omega), if_neg (by omega)]; exact b9 23 (by omega)
  have g1 : gI h2 (some 23) 1 1 = some (nI nx) := by rw [gI_w W2 (by decide) rfl, I23, hnx]
  have hld : ldR h (some 24) 3 (nI nx) = some (some (25 + 2 * nx)) := by
    rw [ldR_w (q := 24) (t := 3) (i := nx) w (by decide) rfl hx (by decide) (by rw [tR24 nx hx]; rfl), tR24 nx hx]
  have hio : isO h (some (25 + 2 * nx)) 2 = some () := isO_w w (by omega) (by rw [(shq_p nx hx).1])
  obtain ⟨h3, hh3⟩ : ∃ h3, h3 = sI (sI h2 23 (upd (hI h 23) 1 (nI ((nx + 1) % 20)))) 23 (upd (upd (hI h 23) 1 (nI ((nx + 1) % 20))) 2 (nI (min 20 (sz + 1)))) := ⟨_, rfl⟩
  have I3 : ∀ k, k ≠ 23 → hI h3 k = hI h2 k := fun k hk => by rw [hh3, hI_sI, if_neg hk, hI_sI, if_neg hk]
  have J3 : hI h3 23 = upd (upd (hI h 23) 1 (nI ((nx + 1) % 20))) 2 (nI (min 20 (sz + 1))) := by rw [hh3, hI_sI, if_pos rfl]
  have R3 : hR h3 = hR h2 := by rw [hh3, hR_sI, hR_sI]
  have S3 : hS h3 = hS h2 := by rw [hh3, hS_sI, hS_sI]
  have N3 : hn h3 = hn h2 := by rw [hh3, hn_sI, hn_sI]
  have T3 : hs h3 = hs h2 := by rw [hh3, hs_sI, hs_sI]
  have W3 : WF h3 := by rw [hh3, WF_sI, WF_sI]; exact W2
  have B3 : ∀ i, pb h3 i = pb h2 i := fun i => by unfold pb; rw [R3]
  have run : f_X1_keep h (some 23) (some r) (nI a) (nI m) = some h3 := by
    unfold f_X1_keep
    rw [gR_w (q := 23) (ci := 1) (j := 0) w (by decide) rfl rfl, bd_some, gI_w (q := 23) (ci := 1) (j := 1) w (by decide) rfl, bd_some, hnx, show tR 23 0 = some 24 from rfl, hld, bd_some, hio, bd_some, e0, bd_some, g1, bd_some, nI_1, rm20 (by omega), bd_some, pI_w (q := 23) (ci := 1) (j := 1) W2 (by decide) rfl, bd_some, I23]
    have W2' : WF (sI h2 23 (upd (hI h 23) 1 (nI ((nx + 1) % 20)))) := (WF_sI _ _ _).mpr W2
    rw [gI_w (q := 23) (ci := 1) (j := 2) W2' (by decide) rfl, bd_some, hI_sI, if_pos rfl]
    have e5 : upd (hI h 23) 1 (nI ((nx + 1) % 20)) 2 = nI sz := by
      unfold upd
      rw [if_neg (by decide)]; exact hsz
    rw [e5, min20 hz, pI_w (q := 23) (ci := 1) (j := 2) W2' (by decide) rfl, bd_some, hI_sI, if_pos rfl, hh3]
  have q0 : hR h3 (25 + 2 * nx) 0 = some r := by rw [R3, R2, if_pos rfl]; simp [va_up]
  have q1 : hI h3 (25 + 2 * nx) 1 = nI a := by rw [I3 _ (by omega), I2, if_neg (fun z => b1 z.symm), if_pos rfl]; simp [upd]
  have q2 : hI h3 (25 + 2 * nx) 2 = nI m := by rw [I3 _ (by omega), I2, if_neg (fun z => b1 z.symm), if_pos rfl]; simp [upd]
  have q3 : pb h3 nx = b := by rw [B3]; exact B2
  have q4 : hI h3 b = va_cpy (hI h0 r) (hI h0 b) a 0 m := by rw [I3 _ b2, I2, if_pos rfl]
  have q5 : m ≤ (hS h3 b).2 := by rw [S3, s2]; exact b10
  clear hh3 e0
  refine ⟨h3, run, W3, by omega, by omega, fun k hk1 hk2 hk3 => ?_, by rw [J3]; simp [upd], by rw [J3]; simp [upd], fun i hi e => ?_, ?_, q0, q1, q2, fun j hj2 => ?_⟩
  · rw [I3 k hk2, I2, if_neg, if_neg (hk3 nx hx).1]
    · exact b9 k (by omega)
    · intro z
      rcases b8 with q | ⟨q, -⟩
      · rcases (blt nx hx).2 with y | y
        · exact (hk3 nx hx).2 (by omega)
        · omega
      · omega
  · have bl := blt i hi
    have y1 : pb h3 i = pb h i := (B3 i).trans (P2 i hi e)
    have y2 : hI h3 (25 + 2 * i) = hI h (25 + 2 * i) := by
      have := bpc i hi
      rw [I3 _ (by omega), I2, if_neg (fun z => this z.symm), if_neg (by omega)]; exact b9 _ (by omega)
    have y3 : hR h3 (25 + 2 * i) = hR h (25 + 2 * i) := by rw [R3, R2, if_neg (by omega)]; exact b5 _ (by omega) (by omega)
    have y4 : hI h3 (pb h i) = hI h (pb h i) := by
      have z1 := bne i hi e
      have z2 : pb h i ≠ 23 := by rcases bl.2 with z | z <;> omega
      have z3 : pb h i ≠ 25 + 2 * nx := by rcases bl.2 with z | z <;> omega
      rw [I3 _ z2, I2, if_neg z1, if_neg z3]; exact b9 _ bl.1
    have y5 : hS h3 (pb h i) = hS h (pb h i) := by rw [S3, s2]; exact b4 _ bl.1
    unfold PVf
    rw [y1, y2, y3, y4, y5]
  · refine ⟨r, a, m, hr, q0, q1, q2, ham, ?_, by omega, by omega⟩
    show m ≤ (hS h3 (pb h3 nx)).2
    rw [q3]; exact q5
  · show hI h3 (pb h3 nx) j = _
    rw [q3, q4]
    unfold va_cpy
    rw [if_pos ⟨by omega, by omega⟩, b9 r (by omega), Nat.sub_zero]
