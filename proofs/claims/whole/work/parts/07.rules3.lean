/-! arrays, the script, the table ABOVE, new cells, arraycopy -/
section Rules3
variable {g : GT} {M : MT} {h h' h1 : AH} {pc : Nat} {ls ls' : List (Option Value)} {st : List Value} {r : Option Value}
theorem x_ldI {a : Option Nat} {i v : Int32} (hd : decode (m_c M) pc = .ok (.iaload, 1)) (hg : ldI h a i = some v) (kk : Xj g M h (pc + 1) ls (.int v :: st) r h') : Xj g M h pc ls (.int i :: va_rf a :: st) r h' := by
  cases a with
  | none => cases hg
  | some w =>
    obtain ⟨⟨hw1, hw2, hw3⟩, rfl⟩ := if_some hg
    exact x_one kk (fun p e R s m args below meth c H locs cells slots Q la C B P S _ _ L w9 => va_iald C.1 C.2.1 B.1 P.1 w 0 ((cw_at hw1).trans (by rw [ce_int hw2])) rfl hw3 hd w9)
theorem x_ldZ {a : Option Nat} {i v : Int32} (hd : decode (m_c M) pc = .ok (.baload, 1)) (hg : ldZ h a i = some v) (kk : Xj g M h (pc + 1) ls (.int v :: st) r h') : Xj g M h pc ls (.int i :: va_rf a :: st) r h' := by
  cases a with
  | none => cases hg
  | some w =>
    obtain ⟨⟨hw1, hw2, hw3⟩, rfl⟩ := if_some hg
    exact x_one kk (fun p e R s m args below meth c H locs cells slots Q la C B P S _ _ L w9 => va_zald C.1 C.2.1 B.1 P.1 w 1 ((cw_at hw1).trans (by rw [ce_bool hw2])) rfl hw3 hd w9)
theorem x_ldR {a v : Option Nat} {t : Nat} {i : Int32} (ht : t = 2 ∨ t = 3) (hd : decode (m_c M) pc = .ok (.aaload, 1)) (hg : ldR h a t i = some v) (kk : Xj g M h (pc + 1) ls (va_rf v :: st) r h') : Xj g M h pc ls (.int i :: va_rf a :: st) r h' := by
  cases a with
  | none => cases hg
  | some w =>
    obtain ⟨⟨hw1, hw2, hw3⟩, rfl⟩ := if_some hg
    refine x_one kk (fun p e R s m args below meth c H locs cells slots Q la C B P S _ _ L w9 => ?_)
    have he := (cw_at (g := g) hw1).trans (by rw [ce_ref hw2 ht])
    have w8 : W p (g_l g) e R s m args below meth c H locs cells slots Q (F0 m (pc + 1) la (va_rf (cr g (hR h w i.toNatClampNeg)) :: st.map (cv g))) := by
      have := w9; rw [List.map_cons, cv_rf] at this; exact this
    rcases ht with rfl | rfl
    · exact va_aldq C.1 C.2.1 B.1 P.1 w 2 he rfl hw3 hd w8
    · exact va_aldq C.1 C.2.1 B.1 P.1 w 3 he rfl hw3 hd w8
theorem x_len {a : Option Nat} {v : Int32} (hd : decode (m_c M) pc = .ok (.arraylength, 1)) (hg : lenA h a = some v) (kk : Xj g M h (pc + 1) ls (.int v :: st) r h') : Xj g M h pc ls (va_rf a :: st) r h' := by
  cases a with
  | none => cases hg
  | some w =>
    obtain ⟨⟨hw1, hw2⟩, rfl⟩ := if_some hg
    exact x_one kk (fun p e R s m args below meth c H locs cells slots Q la C B P S _ _ L w9 => va_alen (x := ((hS h w).2, .inl (hI h w))) C.1 C.2.1 B.1 P.1 w 0 ((cw_at hw1).trans (by rw [ce_int hw2])) rfl rfl hd w9)
theorem x_ldS {i : Int32} (hd : decode (m_c M) pc = .ok (.iaload, 1)) (hi : ¬ (i < 0 ∨ g_n g ≤ i.toNatClampNeg)) (kk : Xj g M h (pc + 1) ls (.int (g_x g i.toNatClampNeg) :: st) r h') : Xj g M h pc ls (.int i :: .retAddr 0 :: st) r h' :=
  x_one kk (fun p e R s m args below meth c H locs cells slots Q la C B P S _ _ L w9 => va_sld C.1 C.2.1 B.2.2.2.1 (Nat.lt_of_lt_of_le B.2.2.2.2.1 B.2.2.2.2.2.1) (Nat.not_le.mpr B.2.2.2.2.1) S hi hd w9)
theorem x_lenS (hd : decode (m_c M) pc = .ok (.arraylength, 1)) (kk : Xj g M h (pc + 1) ls (.int (Int32.ofNat (g_n g)) :: st) r h') : Xj g M h pc ls (.retAddr 0 :: st) r h' :=
  x_one kk (fun p e R s m args below meth c H locs cells slots Q la C B P S _ _ L w9 => va_slen C.1 C.2.1 B.2.2.2.1 (Nat.lt_of_lt_of_le B.2.2.2.2.1 B.2.2.2.2.2.1) (Nat.not_le.mpr B.2.2.2.2.1) S hd w9)
theorem x_getT {idx : Nat} (hd : decode (m_c M) pc = .ok (.getstatic idx, 3)) (hl : Cond.fieldLink (m_y M).cls idx "CanyonRafts" "ABOVE" "[I" ∈ tb) (kk : Xj g M h (pc + 3) ls (.retAddr 1 :: st) r h') : Xj g M h pc ls st r h' :=
  x_one kk (fun p e R s m args below meth c H locs cells slots Q la C B P S _ _ L w9 => va_gets C.1 C.2.1 B.2.1 S C.2.2.2.1 (C.2.2.2.2.1 _ hl) (fun _ z => z) hd w9)
def aT (i : Int32) : Int32 := if i = 0 then -1 else if i = 1 then 0 else if i = 2 then 0 else 1
theorem x_ldT {i v : Int32} (hd : decode (m_c M) pc = .ok (.iaload, 1)) (hi : ¬ (i < 0 ∨ 4 ≤ i.toNatClampNeg)) (hv : abv i.toNatClampNeg = .int v) (kk : Xj g M h (pc + 1) ls (.int v :: st) r h') : Xj g M h pc ls (.int i :: .retAddr 1 :: st) r h' :=
  x_one kk (fun p e R s m args below meth c H locs cells slots Q la C B P S _ _ L w9 => va_ti C.1 C.2.1 B.2.2.1 S hi hv hd w9)
/-- a write to an array of ints, at the machine -/
theorem w_arr {s : State} {H H1 : Heap} {locs : List Loc} {w j : Nat} {x : Int32} {n : Nat} {t : Nat} {L : List Loc} (P : wH g h H) (S : va_S (wA g) s.heap H locs) (hw : w < hn h) (he : ∀ f, ce g (sI h w f) w = .inl (g_A g t, n, .inl f)) 
    (e : H1[g_z g + w]? = some ((vp_cell (g_A g t) (n, .inl (hI h w))).setSlot j (.int x))) (z : H1.size = H.size) (oq : ∀ q, q ≠ g_z g + w → H1[q]? = H[q]?) : wH g (sI h w (upd (hI h w) j x)) H1 := by
  refine wH_set (q := w) P rfl ce_sI z ?_ oq
  rw [he]
  show H1[g_z g + w]? = some (vp_cell _ _)
  rw [e, vp_cell_i, vp_cell_i, arrV_store]
  congr 2
  funext q
  by_cases hq : q = j
  · subst hq; simp [updV, upd]
  · simp [updV, upd, hq]
theorem x_stI {a : Option Nat} {i v : Int32} (hd : decode (m_c M) pc = .ok (.iastore, 1)) (hg : stI h a i v = some h1) (kk : Xj g M h1 (pc + 1) ls st r h') : Xj g M h pc ls (.int v :: .int i :: va_rf a :: st) r h' := by
  cases a with
  | none => cases hg
  | some w =>
    obtain ⟨⟨hw1, hw2, hw3⟩, rfl⟩ := if_some hg
    refine x_heap kk rfl rfl (fun p e R s m args below meth c H locs cells slots Q la C B P S _ _ L w9 => ?_)
    have hc := P.1 w _ (cw_at hw1)
    rw [ce_int hw2] at hc
    refine W.iast C.1 C.2.1 hc ((B.1.2 0 _ rfl).1 _ _) (fun q => by cases q) (by show ¬ (i < 0 ∨ (arrV _ _ _).slots.size ≤ _); rw [arrV_size]; exact hw3) rfl rfl hd fun H1 e z oq => ?_
    exact w9 H1 _ (w_arr (L := []) (s := s) P S hw1 (fun f => by rw [ce_int (show (hS (sI h w f) w).1 = 0 from hw2), sI_eq]; rfl) e z oq) (S.put z oq (Nat.le_add_right _ _))
theorem x_stZ {a : Option Nat} {i v : Int32} (hd : decode (m_c M) pc = .ok (.bastore, 1)) (hg : stZ h a i v = some h1) (kk : Xj g M h1 (pc + 1) ls st r h') : Xj g M h pc ls (.int v :: .int i :: va_rf a :: st) r h' := by
  cases a with
  | none => cases hg
  | some w =>
    obtain ⟨⟨⟨hw1, hw2, hw3⟩, hv⟩, rfl⟩ := if_some hg
    refine x_heap kk rfl rfl (fun p e R s m args below meth c H locs cells slots Q la C B P S _ _ L w9 => ?_)
    have hc := P.1 w _ (cw_at hw1)
    rw [ce_bool hw2] at hc
    have hnv : narrow .boolean (.int v) = .int v := by rcases hv with rfl | rfl <;> rfl
    refine W.zast C.1 C.2.1 hc ((B.1.2 1 _ rfl).1 _ _) (fun q => by cases q) (by show ¬ (i < 0 ∨ (arrV _ _ _).slots.size ≤ _); rw [arrV_size]; exact hw3) rfl rfl hd fun H1 e z oq => ?_
    rw [hnv] at e
    exact w9 H1 _ (w_arr (L := []) (s := s) P S hw1 (fun f => by rw [ce_bool (show (hS (sI h w f) w).1 = 1 from hw2), sI_eq]; rfl) e z oq) (S.put z oq (Nat.le_add_right _ _))
theorem x_stR {a v : Option Nat} {t ci : Nat} {i : Int32} (ht : (t = 2 ∧ ci = 5) ∨ (t = 3 ∧ ci = 2)) (hd : decode (m_c M) pc = .ok (.aastore, 1)) (hg : stR h a t ci i v = some h1) (kk : Xj g M h1 (pc + 1) ls st r h') : Xj g M h pc ls (va_rf v :: .int i :: va_rf a :: st) r h' := by
  cases a with
  | none => cases hg
  | some w =>
    cases v with
    | none => cases hg
    | some u =>
      obtain ⟨⟨⟨hw1, hw2, hw3⟩, hu1, hu2⟩, rfl⟩ := if_some hg
      refine x_heap kk rfl rfl (fun p e R s m args below meth c H locs cells slots Q la C B P S _ _ L w9 => ?_)
      have ht2 : t = 2 ∨ t = 3 := by rcases ht with ⟨h1, -⟩ | ⟨h1, -⟩ <;> simp [h1]
      have hc := P.1 w _ (cw_at hw1)
      rw [ce_ref hw2 ht2] at hc
      obtain ⟨q, hq, hty⟩ : ∃ q : vw_C, vwCl[ci]? = some q ∧ (tys g)[t]? = some (g_A g t, .object q.1) := by
        rcases ht with ⟨rfl, rfl⟩ | ⟨rfl, rfl⟩ <;> exact ⟨_, rfl, rfl⟩
      have hv := P.1 u _ (cw_at hu1)
      rw [ce_obj hu2 hq] at hv
      obtain ⟨r', hr', cellV, g1, g2, g3, -⟩ := hv
      cases hr'.symm.trans hq
      have hcls := (B.1.1 ci q hq).2
      obtain ⟨kA, comp, k1, k2, k3, -⟩ := (B.1.2 t _ hty).2
      have hcomp : comp = (g_D g).1 ci := Option.some.inj (k3.symm.trans hcls.1)
      subst hcomp
      obtain ⟨kC, hkC, -⟩ := hcls.2
      have h0 : ¬ i < 0 := fun z => hw3 (Or.inl z)
      have hlt : i.toNatClampNeg < (hS h w).2 := Nat.not_le.mp fun z => hw3 (Or.inr z)
      refine W.aast C.1 C.2.1 hc (fun q h => by cases h) (fun h => by cases h) k1 k2 rfl hkC ⟨h0, by show _ < (arrV _ _ _).slots.size; rw [arrV_size]; exact hlt⟩ g1 (fun q h => by rw [g3] at h; cases h) (by rw [g2]; exact hkC) (by rw [g2]; exact va_assign hcls) rfl rfl hd fun H1 e z oq => ?_
      refine w9 H1 _ (wH_set (q := w) P rfl ce_sR z ?_ oq) (S.put z oq (Nat.le_add_right _ _))
      rw [ce_ref (show (hS (sR h w _) w).1 = t from hw2) ht2, sR_eq]
      show H1[g_z g + w]? = some (vp_cell _ _)
      rw [e, vp_cell_q, vp_cell_q, arrV_store]
      congr 2
      funext x
      by_cases hx : x = i.toNatClampNeg
      · subst hx; simp [updV, va_up, va_rf, cr]
      · simp [updV, va_up, hx]
end Rules3
