/-! the parts of the relation, one by one; acts that change one number -/
section Cong
variable {D D2 : RW} {n n2 : Nat → Int32}
theorem rB_c (h : rB D n) (a : D2 2 = D 2) (e0 : n2 0 = n 0) (e1 : n2 1 = n 1) : rB D2 n2 := by
  obtain ⟨e, s, h1, h2, h3, h4, h5, h6⟩ := h
  exact ⟨e, s, h1, h2, by rw [a]; exact h3, by rw [e0]; exact h4, by rw [a]; exact h5, by rw [e1]; exact h6⟩
theorem rC_c {c : Nat} (h : rC D n c) (a : D2 3 0 = D 3 0) (a5 : D2 5 = D 5) (a6 : D2 6 = D 6) (e : n2 2 = n 2) (e2 : ∀ j, 8 ≤ j → j < 36 → n2 j = n j) : rC D2 n2 c := by
  obtain ⟨h1, h2, h3, h4⟩ := h
  refine ⟨h1, by rw [a]; exact h2, by rw [e]; exact h3, fun x hx => ?_⟩
  obtain ⟨m, b, k1, k2, k3, k4, k5, k6⟩ := h4 x hx
  exact ⟨m, b, k1, k2, by rw [a5]; exact k3, by rw [e2 _ (by omega) (by omega)]; exact k4, by rw [a6]; exact k5, by rw [e2 _ (by omega) (by omega)]; exact k6⟩
theorem rP_c {c : Nat} (h : rP D n c) (a : D2 3 1 = D 3 1) (a7 : D2 7 = D 7) (a8 : D2 8 = D 8) (a9 : D2 9 = D 9) (e : n2 3 = n 3) (e2 : ∀ j, 36 ≤ j → j < 66 → n2 j = n j) : rP D2 n2 c := by
  obtain ⟨h1, h2, h3, h4⟩ := h
  refine ⟨h1, by rw [a]; exact h2, by rw [e]; exact h3, fun x hx => ?_⟩
  obtain ⟨m, y, b, k1, k2, k3, k4, k5, k6, k7, k8⟩ := h4 x hx
  exact ⟨m, y, b, k1, k2, by rw [a7]; exact k3, by rw [e2 _ (by omega) (by omega)]; exact k4, by rw [a8]; exact k5, by rw [e2 _ (by omega) (by omega)]; exact k6, by rw [a9]; exact k7, by rw [e2 _ (by omega) (by omega)]; exact k8⟩
theorem rL_c {c : Nat} (h : rL D n c) (a : D2 3 2 = D 3 2) (a10 : D2 10 = D 10) (e : n2 4 = n 4) (e2 : ∀ j, 66 ≤ j → j < 74 → n2 j = n j) : rL D2 n2 c := by
  obtain ⟨h1, h2, h3, h4⟩ := h
  refine ⟨h1, by rw [a]; exact h2, by rw [e]; exact h3, fun x hx => ?_⟩
  obtain ⟨m, k1, k2, k3⟩ := h4 x hx
  exact ⟨m, k1, by rw [a10]; exact k2, by rw [e2 _ (by omega) (by omega)]; exact k3⟩
theorem rW_c (h : rW D n) (a : D2 4 = D 4) (e2 : ∀ j, 74 ≤ j → j < 194 → n2 j = n j) : rW D2 n2 := by
  intro q hq
  obtain ⟨m, k1, k2, k3⟩ := h q hq
  exact ⟨m, k1, by rw [a]; exact k2, by rw [e2 _ (by omega) (by omega)]; exact k3⟩
theorem rT_c {c k k2 : Nat} (h : rT D n c k) (hk : k ≤ k2) (a : D2 12 0 = D 12 0) (a13 : D2 13 = D 13) (e : n2 5 = n 5) (e2 : ∀ j, 194 ≤ j → j < 544 → n2 j = n j) : rT D2 n2 c k2 := by
  obtain ⟨h1, h2, h3, h4⟩ := h
  refine ⟨h1, by rw [a]; exact h2, by rw [e]; exact h3, fun t ht => ?_⟩
  obtain ⟨⟨x, l, p, f, o, b1, b2, b3, b4, b5, b6, b7, b8, b9, b10, hu⟩, g2, g3⟩ := h4 t ht
  refine ⟨⟨x, l, p, f, o, b1, b2, b3, b4, b5, by rw [a13]; exact b6, by rw [a13]; exact b7, by rw [a13]; exact b8, by rw [a13]; exact b9, by rw [a13]; exact b10, by rw [a13]; exact hu⟩, fun j hj => by rw [a13, e2 _ (by omega) (by omega)]; exact g2 j hj, fun d hd => ?_⟩
  rw [a13, e2 _ (by omega) (by omega)]
  obtain ⟨k1, k3⟩ := g3 d hd
  refine ⟨k1, ?_⟩
  rcases k3 with k3 | ⟨y, hy, k3⟩
  · exact Or.inl k3
  · exact Or.inr ⟨y, by omega, k3⟩
theorem rA_c {c : Nat} (h : rA D n c) (a : D2 20 0 = D 20 0) (a21 : D2 21 = D 21) (e : n2 6 = n 6) (e2 : ∀ j, 544 ≤ j → j < 556 → n2 j = n j) : rA D2 n2 c := by
  obtain ⟨h1, h2, h3, h4⟩ := h
  refine ⟨h1, by rw [a]; exact h2, by rw [e]; exact h3, fun x hx => ?_⟩
  obtain ⟨m, k1, k2, k3⟩ := h4 x hx
  exact ⟨m, k1, by rw [a21]; exact k2, by rw [e2 _ (by omega) (by omega)]; exact k3⟩
end Cong
theorem leC_rf (C : CT) : leC C C := ⟨Nat.le_refl _, Nat.le_refl _, Nat.le_refl _, Nat.le_refl _, Nat.le_refl _⟩
theorem bd2_id {α β : Type} (x : Option (α × β)) : (bd2 x fun a b => some (a, b)) = x := by
  cases x <;> rfl
theorem i10 : ((1 : Int32) = 0) = False := by simp
theorem i00 : ((0 : Int32) = 0) = True := by simp
/-- both find the same -/
theorem fin_ok {h : AH} (w : WF h) (r : Rel h) {a b : AH → Option (Int32 × AH)} {x : Int32} (ha : a h = f_X7_finding h (some 0) x) (hb : ∀ f, b (sI h 0 f) = f_X8_finding (sI h 0 f) (some 74) x) : ∃ v h1 h2, a h = some (v, h1) ∧ b h1 = some (v, h2) ∧ WF h2 ∧ Rel h2 ∧ hn h2 ≤ hn h + 1 ∧ hs h2 ≤ hs h + 350 := by
  rw [e7_finding w] at ha
  refine ⟨_, _, _, ha, ?_, ?_, Rel_find w r, ?_, ?_⟩
  · rw [hb, e8_finding ((WF_sI _ _ _).mpr w), sI_ne (by decide)]
  · rw [WF_sI, WF_sI]; exact w
  · rw [hn_sI, hn_sI]; omega
  · rw [hs_sI, hs_sI]; omega
/-- both change one number; before it the desk may have written behind its counts (hg), the reference may write on (h3) -/
theorem chg_ok {h hg : AH} {C C2 : CT} {nx sz r i k : Nat} {v v2 : Int32} {S : List Nat} (w : WF h) (r1 : Rd (hI h) (hI h 75) C) (r2 : Sh h) (r3 : hI h 0 6 = hI h 74 6) (q1 : nx < 20) (q2 : sz ≤ 20) (q3 : hI h 23 1 = nI nx) (q4 : hI h 23 2 = nI sz) (q5 : hI h 74 2 = nI sz) (q6 : Hist (PVf h) (snf h) sz (hI h) C nx)
    (fg : Fr h hg S) (hS1 : ∀ k, k ∈ S → 0 < k ∧ k < 23) (ag : Ag (hI h) (hI hg) C) (hr : r ∈ rowsOk) (hi : i < (shq r).2) (hk : k < 556) (hv : hI hg r i = hI h 75 k) (le : leC C C2) :
    ∃ h1 h2, f_X7_change hg (some 0) (some r) (nI i) v = some (hI hg r i, h1) ∧ WF h1 ∧ (∀ j, 65 ≤ j → j < 86 → hI h1 j = hI h j) ∧ f_X8_becomes h1 (some 74) (nI k) v2 = some (hI hg r i, h2) ∧ WF h2 ∧ (∀ j, j < 23 → hI h2 j = if j = r then upd (hI hg r) i v else hI hg j) ∧ (∀ j, hI h2 75 j = if j = k then v2 else hI h 75 j) ∧
      ∀ h3, Fr h2 h3 [75] → Rd (hI h3) (hI h3 75) C2 → WF h3 ∧ Rel h3 ∧ hn h3 ≤ hn h + 1 ∧ hs h3 ≤ hs h + 350 := by
  have wg : WF hg := WF_fr fg w
  have n23 : hI hg 23 = hI h 23 := fg.2.2.2.2 23 (fun z => by have := hS1 23 z; omega)
  obtain ⟨h1, e1, ck, rows⟩ := e7_change (v := v) wg q1 (by rw [n23]; exact q3) q2 (by rw [n23]; exact q4) hr hi
  have g65 : ∀ j, 65 ≤ j → j < 86 → hI h1 j = hI h j := fun j hj hj2 => by
    rw [ck.2.2.2.2.2.2.2.2.1 j hj hj2]; exact fg.2.2.2.2 j (fun z => by have := hS1 j z; omega)
  obtain ⟨h2, e2, f2, a2, b2, s1, s2, s3⟩ := e8_becomes (v := v2) (i := k) ck.1 q2 (by rw [g65 74 (by omega) (by omega)]; exact q5) hk
  have g75 : hI h1 75 = hI h 75 := g65 75 (by omega) (by omega)
  refine ⟨h1, h2, e1, ck.1, g65, by rw [e2, g75, hv], WF_fr f2 ck.1, fun j hj => ?_, fun j => by rw [b2 j, g75], fun h3 f3 new => ?_⟩
  · rw [f2.2.2.2.2 j (by simp; omega)]; exact rows j hj
  · have sn3 : snf h3 = snf h2 := by unfold snf; rw [f3.2.2.2.2 76 (by decide)]
    exact act w r1 r2 r3 q1 q2 q6 fg hS1 ag ck ⟨f2.trans (f3.mono (by decide)), fun j => by rw [f3.2.2.2.2 74 (by decide)]; exact a2 j, by rw [sn3]; exact s1, by rw [sn3]; exact s2, by rw [sn3]; exact s3⟩ new le
