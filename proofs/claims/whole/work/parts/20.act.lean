/-! an act that both keep -/
def CK (h h1 : AH) (nx sz : Nat) : Prop := WF h1 ∧ hn h1 ≤ hn h + 1 ∧ hs h1 ≤ hs h + 350 ∧ hI h1 23 1 = nI ((nx + 1) % 20) ∧ hI h1 23 2 = nI (min 20 (sz + 1)) ∧ (∀ i, i < 20 → i ≠ nx → PVf h1 i = PVf h i) ∧ pOk (PVf h1 nx) ∧ (∀ k j, k < 23 → unp (PVf h1 nx) (hI h1) k j = hI h k j) ∧ (∀ k, 65 ≤ k → k < 86 → hI h1 k = hI h k) ∧ hI h1 0 = hI h 0
def MK (h h1 : AH) (m : Nat) : Prop := Fr h h1 [74, 75, 76] ∧ (∀ j, hI h1 74 j = if j = 2 then nI (min 20 (m + 1)) else hI h 74 j) ∧ (∀ j, j < 556 → snf h1 (min 20 (m + 1) - 1) j = hI h 75 j) ∧ (m < 20 → ∀ k j, k < m → j < 556 → snf h1 k j = snf h k j) ∧ (m = 20 → ∀ k j, k < 19 → j < 556 → snf h1 k j = snf h (k + 1) j)
theorem PVf_fr {h h1 : AH} {S : List Nat} (w : WF h) (f : Fr h h1 S) (hS1 : ∀ k, k ∈ S → k < 23 ∨ (65 ≤ k ∧ k < 86)) {i : Nat} (hi : i < 20) : PVf h1 i = PVf h i := by
  obtain ⟨-, p2, -⟩ := w.2.2.2.1 i hi
  have e1 : pb h1 i = pb h i := by unfold pb; rw [f.1]
  have e2 : hI h1 (25 + 2 * i) = hI h (25 + 2 * i) := f.2.2.2.2 _ (fun z => by have := hS1 _ z; omega)
  have e3 : hI h1 (pb h i) = hI h (pb h i) := f.2.2.2.2 _ (fun z => by have := hS1 _ z; omega)
  unfold PVf
  rw [e1, e2, e3, f.1, f.2.1]
theorem Ag_rows {D D2 : RW} {C : CT} (h : ∀ k j, k < 23 → D2 k j = D k j) : Ag D D2 C := ⟨fun j => h 2 j (by omega), fun j => h 3 j (by omega), fun j => h 4 j (by omega), fun j => h 12 j (by omega), fun j => h 20 j (by omega), fun c _ => ⟨h 5 c (by omega), h 6 c (by omega)⟩, fun c _ => ⟨h 7 c (by omega), h 8 c (by omega), h 9 c (by omega)⟩, fun c _ => h 10 c (by omega), fun t j _ _ => h 13 _ (by omega), fun a _ => h 21 a (by omega)⟩
theorem Ag_trans {D D2 D3 : RW} {C : CT} (a : Ag D D2 C) (b : Ag D2 D3 C) : Ag D D3 C := by
  obtain ⟨a1, a2, a3, a4, a5, a6, a7, a8, a9, a10⟩ := a
  obtain ⟨b1, b2, b3, b4, b5, b6, b7, b8, b9, b10⟩ := b
  exact ⟨fun j => (b1 j).trans (a1 j), fun j => (b2 j).trans (a2 j), fun j => (b3 j).trans (a3 j), fun j => (b4 j).trans (a4 j), fun j => (b5 j).trans (a5 j), fun c h => ⟨((b6 c h).1).trans (a6 c h).1, ((b6 c h).2).trans (a6 c h).2⟩, fun c h => ⟨((b7 c h).1).trans (a7 c h).1, ((b7 c h).2.1).trans (a7 c h).2.1, ((b7 c h).2.2).trans (a7 c h).2.2⟩, fun c h => (b8 c h).trans (a8 c h), fun t j h1 h2 => (b9 t j h1 h2).trans (a9 t j h1 h2), fun c h => (b10 c h).trans (a10 c h)⟩
/-- the end of an act: hg is h but for rows behind the counts -/
theorem act {h hg h1 h2 : AH} {C C2 : CT} {nx sz : Nat} {S : List Nat} (w : WF h) (r1 : Rd (hI h) (hI h 75) C) (r2 : Sh h) (r3 : hI h 0 6 = hI h 74 6) (q1 : nx < 20) (q2 : sz ≤ 20) (q6 : Hist (PVf h) (snf h) sz (hI h) C nx)
    (fg : Fr h hg S) (hS1 : ∀ k, k ∈ S → 0 < k ∧ k < 23) (ag : Ag (hI h) (hI hg) C) (ck : CK hg h1 nx sz) (mk : MK h1 h2 sz) (new : Rd (hI h2) (hI h2 75) C2) (le : leC C C2) : WF h2 ∧ Rel h2 ∧ hn h2 ≤ hn h + 1 ∧ hs h2 ≤ hs h + 350 := by
  obtain ⟨c1, c2, c3, c4, c5, c6, c7, c8, c9, c10⟩ := ck
  obtain ⟨m1, m2, m3, m4, m5⟩ := mk
  have w2 : WF h2 := WF_fr m1 c1
  have pvg : ∀ i, i < 20 → PVf hg i = PVf h i := fun i hi => PVf_fr w fg (fun k hk => Or.inl (hS1 k hk).2) hi
  have pv1 : ∀ i, i < 20 → PVf h2 i = PVf h1 i := fun i hi => PVf_fr c1 m1 (fun k hk => Or.inr (by simp at hk; omega)) hi
  have g65 : ∀ k, 65 ≤ k → k < 86 → hI h1 k = hI h k := fun k hk hk2 => by
    rw [c9 k hk hk2]; exact fg.2.2.2.2 k (fun z => by have := hS1 k z; omega)
  have sn1 : snf h1 = snf h := by unfold snf; rw [g65 76 (by omega) (by omega)]
  have n75 : hI h1 75 = hI h 75 := g65 75 (by omega) (by omega)
  have k23 : ∀ k, k ≠ 74 → k ≠ 75 → k ≠ 76 → hI h2 k = hI h1 k := fun k z1 z2 z3 => m1.2.2.2.2 k (by simp; omega)
  have agU : Ag (hI h) (unp (PVf h2 nx) (hI h2)) C := by
    refine Ag_trans ag (Ag_rows (fun k j hk => ?_))
    rw [pv1 nx q1, ← c8 k j hk]
    obtain ⟨r, a, m, hr, e1, -⟩ := c7
    obtain ⟨-, -, -, -, -, hr6⟩ := shq_rows r hr
    unfold unp
    rw [e1]
    simp only [va_up]
    by_cases e : k = r
    · subst e
      rw [if_pos rfl, if_pos rfl, k23 k (by omega) (by omega) (by omega)]
    · rw [if_neg e, if_neg e, k23 k (by omega) (by omega) (by omega)]
  have pk2 : pOk (PVf h2 nx) := by rw [pv1 nx q1]; exact c7
  have b1 : hn h2 ≤ hn h + 1 := by rw [m1.2.2.1]; have := fg.2.2.1; omega
  have b2 : hs h2 ≤ hs h + 350 := by rw [m1.2.2.2.1]; have := fg.2.2.2.1; omega
  have f2 : hI h2 0 6 = hI h2 74 6 := by
    rw [m2 6, if_neg (by decide), g65 74 (by omega) (by omega), k23 0 (by omega) (by omega) (by omega), c10, fg.2.2.2.2 0 (fun z => by have := hS1 0 z; omega)]; exact r3
  have sh2 : Sh h2 := Sh_of r2 (fun k hk => by rw [k23 k (by omega) (by omega) (by omega)]; exact g65 k (by omega) (by omega))
  have p75 : ∀ i, i < 20 → i ≠ nx → PVf h2 i = PVf h i := fun i hi e => (pv1 i hi).trans ((c6 i hi e).trans (pvg i hi))
  have rdU : ∀ n2 : Nat → Int32, (∀ j, j < 556 → n2 j = hI h 75 j) → Rd (unp (PVf h2 nx) (hI h2)) n2 C := fun n2 hn2 => Rd_n (Rd_ag r1 agU) hn2
  have e19 : ((nx + 1) % 20 + 19) % 20 = nx := by omega
  refine ⟨w2, ⟨C2, new, sh2, f2, (nx + 1) % 20, min 20 (sz + 1), by omega, by omega, by rw [k23 23 (by omega) (by omega) (by omega)]; exact c4, by rw [k23 23 (by omega) (by omega) (by omega)]; exact c5, by rw [m2 2, if_pos rfl], ?_⟩, b1, b2⟩
  have key : ∀ sz2, min 20 (sz + 1) = sz2 + 1 → Hist (PVf h) (fun k j => if sz = 20 then snf h (k + 1) j else snf h k j) sz2 (hI h) C nx → Hist (PVf h2) (snf h2) (min 20 (sz + 1)) (hI h2) C2 ((nx + 1) % 20) := by
    intro sz2 he hh
    rw [he]
    refine ⟨by rw [e19]; exact pk2, C, ?_, le, ?_⟩
    · rw [e19]
      refine rdU _ (fun j hj => ?_)
      have := m3 j hj
      rw [he, show sz2 + 1 - 1 = sz2 from rfl, n75] at this
      exact this
    · rw [e19]
      refine Hist_ag sz2 ?_ agU
      refine Hist_sn sz2 (sn := fun k j => if sz = 20 then snf h (k + 1) j else snf h k j) ?_ (fun k j hk hj => ?_)
      · refine Hist_V sz2 hh q1 (by omega) (fun k hk1 hk2 => p75 _ (Nat.mod_lt _ (by omega)) (by omega))
      · by_cases c : sz = 20
        · rw [if_pos c, m5 c k j (by omega) hj, sn1]
        · rw [if_neg c, m4 (by omega) k j (by omega) hj, sn1]
  by_cases c : sz = 20
  · subst c
    refine key 19 rfl ?_
    refine Hist_sn 19 (Hist_drop 19 q6) (fun k j _ _ => by rw [if_pos rfl])
  · refine key sz (by omega) ?_
    exact Hist_sn sz q6 (fun k j _ _ => by rw [if_neg c])
/-- the desk's change -/
theorem e7_change {h : AH} (w : WF h) {nx sz r i : Nat} {v : Int32} (hx : nx < 20) (hnx : hI h 23 1 = nI nx) (hz : sz ≤ 20) (hsz : hI h 23 2 = nI sz) (hr : r ∈ rowsOk) (hi : i < (shq r).2) :
    ∃ h1, f_X7_change h (some 0) (some r) (nI i) v = some (hI h r i, h1) ∧ CK h h1 nx sz ∧ ∀ k, k < 23 → hI h1 k = if k = r then upd (hI h r) i v else hI h k := by
  obtain ⟨r1, r2, r3, r4, r5, r6⟩ := shq_rows r hr
  obtain ⟨h1, e1, w1, n1, s1, k1, a1, a2, p1, p2, p3, p4, p5, p6⟩ := e1_keep (a := i) (m := 1) w hx hnx hz hsz hr (by omega)
  have kr : hI h1 r = hI h r := k1 r r4 (by omega) (fun j _ => by omega)
  have run : f_X7_change h (some 0) (some r) (nI i) v = some (hI h r i, sI h1 r (upd (hI h r) i v)) := by
    unfold f_X7_change
    rw [gR_w (q := 0) (ci := 7) (j := 4) w (by decide) rfl rfl, bd_some, show tR 0 4 = some 23 from rfl, isO_w (q := 23) (ci := 1) w (by decide) rfl, bd_some, show (1 : Int32) = nI 1 from rfl, e1, bd_some, ldI_w (q := r) (i := i) w1 r4 r1 hi (by omega), bd_some, stI_w (q := r) (i := i) w1 r4 r1 hi (by omega), bd_some, kr]
  have f1 : Fr h1 (sI h1 r (upd (hI h r) i v)) [r] := Fr.sI h1 (List.mem_singleton.mpr rfl)
  have pe : ∀ j, j < 20 → PVf (sI h1 r (upd (hI h r) i v)) j = PVf h1 j := fun j hj => PVf_fr w1 f1 (fun k hk => by rw [List.mem_singleton.mp hk]; omega) hj
  refine ⟨_, run, ⟨(WF_sI _ _ _).mpr w1, by rw [hn_sI]; exact n1, by rw [hs_sI]; exact s1, by rw [sI_ne (by omega)]; exact a1, by rw [sI_ne (by omega)]; exact a2, fun j hj e => (pe j hj).trans (p1 j hj e), by rw [pe nx hx]; exact p2, fun k j hk => ?_, fun k hk hk2 => ?_, ?_⟩, fun k hk => ?_⟩
  · rw [pe nx hx]
    unfold unp
    rw [p3]
    simp only [va_up]
    by_cases e : k = r
    · subst e
      rw [if_pos rfl, p4, p5, sI_eq, nI_clamp (by omega), nI_clamp (by omega)]
      unfold va_cpy
      by_cases c : i ≤ j ∧ j < i + 1
      · rw [if_pos c, show 0 + (j - i) = 0 by omega, p6 0 (by omega), show i + 0 = j by omega]
      · rw [if_neg c]
        unfold upd
        rw [if_neg (by omega)]
    · rw [if_neg e, sI_ne e, k1 k (by omega) (by omega) (fun j _ => by omega)]
  · rw [sI_ne (by omega)]; exact k1 k hk2 (by omega) (fun j _ => by omega)
  · by_cases e : r = 0
    · subst e; exact absurd hr (by decide)
    · rw [sI_ne (fun z => e z.symm)]; exact k1 0 (by omega) (by omega) (fun j _ => by omega)
  · by_cases e : k = r
    · rw [if_pos e, e, sI_eq]
    · rw [if_neg e, sI_ne e]; exact k1 k (by omega) (by omega) (fun j _ => by omega)
