/-! new cells, the JDK's methods, calls -/
theorem nC_ne {h : AH} {k t n : Nat} (hk : k < hn h) : hS (nC h t n) k = hS h k ∧ hI (nC h t n) k = hI h k ∧ hR (nC h t n) k = hR h k := by
  have e : k ≠ hn h := Nat.ne_of_lt hk
  simp [nC, hS, hI, hR, va_up, e]
theorem nC_eq {h : AH} {t n : Nat} : hS (nC h t n) (hn h) = (t, n) ∧ hI (nC h t n) (hn h) = (fun _ => 0) ∧ hR (nC h t n) (hn h) = (fun _ => none) := by
  simp [nC, hS, hI, hR, va_up]
theorem wH_new {g : GT} {h : AH} {H H1 : Heap} {t n : Nat} (P : wH g h H) (hz : H1.size = H.size + 1) (o1 : ∀ q : Nat, q < H.size → H1[q]? = H[q]?) (he : va_at (g_D g) vwCl (g_z g + hn h, ce g (nC h t n) (hn h)) H1) : wH g (nC h t n) H1 := by
  refine ⟨fun k x hk => ?_, by rw [hz, P.2]; rfl⟩
  obtain ⟨hl, rfl⟩ := cw_lt hk
  by_cases e : k = hn h
  · subst e; exact he
  · have hk' : k < hn h := by
      have : k < hn h + 1 := hl
      omega
    have h0 := P.1 k _ (cw_at hk')
    obtain ⟨a1, a2, a3⟩ := nC_ne (t := t) (n := n) hk'
    rw [ce_congr a1 a2 a3]
    exact h0.kept (o1 _ (by rw [P.2]; exact Nat.add_lt_add_left hk' _))
theorem S_new {A : Nat → Prop} {H0 H H1 : Heap} {locs : List Loc} (S : va_S A H0 H locs) (hz : H1.size = H.size + 1) (o1 : ∀ q : Nat, q < H.size → H1[q]? = H[q]?) : va_S A H0 H1 locs :=
  ⟨Nat.le_trans S.1 (by omega), fun x h1 h2 => (o1 x (Nat.lt_of_lt_of_le h1 S.1)).trans (S.2.1 x h1 h2), S.2.2⟩
theorem cat_sum (g : GT) (st : List Value) : ((st.map (cv g)).map fun v => v.category).sum = st.length := by
  induction st with
  | nil => rfl
  | cons v t ih => simp only [List.map_cons, List.sum_cons, List.length_cons, cv_cat, ih]; omega
def nL (own : String) (idx ci N : Nat) : Prop := ∃ (q : vw_C) (ty : Nat → FieldType), cOk ci q ty ∧ q.2.2 = N ∧ (∀ k, k < q.2.2 → defaultValue (ty k) = if fR q k then .null else .int 0) ∧ Cond.classLink own idx q.1 ∈ tb ∧ Cond.instantiable q.1 q.2.2 ∈ tb ∧ Cond.initialized q.1 ∈ tb
section Rules4
variable {g : GT} {M M' : MT} {h h' h1 : AH} {pc : Nat} {ls ls' : List (Option Value)} {st : List Value} {r r1 : Option Value}
theorem x_new {idx ci N : Nat} (hd : decode (m_c M) pc = .ok (.new idx, 3)) (hl : nL (m_y M).cls idx ci N) (kk : Xj g M (nC h (ci + 4) N) (pc + 3) ls (va_rf (some (hn h)) :: st) r h') : Xj g M h pc ls st r h' := by
  obtain ⟨q, ty, ⟨c1, c2, c3, c4⟩, rfl, hdv, l1, l2, l3⟩ := hl
  refine x_made kk rfl rfl (fun p e R s m args below meth c H locs cells slots Q la C B P S k1 k2 L w9 => ?_)
  have hKn := B.1.1 ci _ c1
  refine W.newcK C.1 C.2.1 C.2.2.2.1 (C.2.2.2.2.1 _ l1) (C.2.2.2.2.1 _ l2) (C.2.2.2.2.1 _ l3) rfl hd k1 k2 hKn.2.1 P.2 fun H1 kC hkC e1 z1 o1 => ?_
  have z1' : H1.size = H.size + 1 := by rw [z1, P.2]
  have o1' : ∀ q : Nat, q < H.size → H1[q]? = H[q]? := fun q hq => o1 q (P.2 ▸ hq)
  refine w9 H1 locs (wH_new P z1' o1' ?_) (S_new S z1' o1')
  rw [ce_obj (ci := ci) (q := q) (by rw [nC_eq.1]) c1]
  refine ⟨_, c1, (u_born ty C.2.2.2.2.1 c2 hKn hkC e1 c3).to (fun j hj => ?_)⟩
  rw [cf_V hj, hdv j hj, nC_eq.2.1, nC_eq.2.2]
  cases fR q j <;> rfl
theorem x_nI {n : Int32} {a : Option Nat} (hd : decode (m_c M) pc = .ok (.newarray .int, 2)) (hl : Cond.arrayClass .int ∈ tb) (hg : nA h 0 n = some (a, h1)) (kk : Xj g M h1 (pc + 2) ls (va_rf a :: st) r h') : Xj g M h pc ls (.int n :: st) r h' := by
  obtain ⟨⟨n1, n2⟩, e⟩ := if_some hg
  cases e
  refine x_made kk rfl rfl (fun p e R s m args below meth c H locs cells slots Q la C B P S k1 k2 L w9 => ?_)
  refine va_newaK C.1 C.2.1 (atype := .int) (C.2.2.2.2.1 _ hl) rfl hd rfl n1 rfl (by show _ * 4 ≤ _; omega) k1 k2 P.2 fun H1 cA e1 z1 o1 hAr hNm => ?_
  have z1' : H1.size = H.size + 1 := by rw [z1, P.2]
  have o1' : ∀ q : Nat, q < H.size → H1[q]? = H[q]? := fun q hq => o1 q (P.2 ▸ hq)
  refine w9 H1 locs (wH_new P z1' o1' ?_) (S_new S z1' o1')
  rw [ce_int (by rw [nC_eq.1]), nC_eq.1, nC_eq.2.1]
  have hcA : cA = g_A g 0 := Option.some.inj (hNm.symm.trans (B.1.2 0 _ rfl).2)
  rw [← hcA]
  exact e1
theorem x_nZ {n : Int32} {a : Option Nat} (hd : decode (m_c M) pc = .ok (.newarray .boolean, 2)) (hl : Cond.arrayClass .boolean ∈ tb) (hg : nA h 1 n = some (a, h1)) (kk : Xj g M h1 (pc + 2) ls (va_rf a :: st) r h') : Xj g M h pc ls (.int n :: st) r h' := by
  obtain ⟨⟨n1, n2⟩, e⟩ := if_some hg
  cases e
  refine x_made kk rfl rfl (fun p e R s m args below meth c H locs cells slots Q la C B P S k1 k2 L w9 => ?_)
  refine va_newaK C.1 C.2.1 (atype := .boolean) (C.2.2.2.2.1 _ hl) rfl hd rfl n1 rfl (by show _ * 1 ≤ _; omega) k1 k2 P.2 fun H1 cA e1 z1 o1 hAr hNm => ?_
  have z1' : H1.size = H.size + 1 := by rw [z1, P.2]
  have o1' : ∀ q : Nat, q < H.size → H1[q]? = H[q]? := fun q hq => o1 q (P.2 ▸ hq)
  refine w9 H1 locs (wH_new P z1' o1' ?_) (S_new S z1' o1')
  rw [ce_bool (by rw [nC_eq.1]), nC_eq.1, nC_eq.2.1]
  have hcA : cA = g_A g 1 := Option.some.inj (hNm.symm.trans (B.1.2 1 _ rfl).2)
  rw [← hcA]
  exact e1
theorem x_nR {idx t ci : Nat} {n : Int32} {a : Option Nat} {q : vw_C} (ht : (t = 2 ∧ q.1 = RX5) ∨ (t = 3 ∧ q.1 = RX2)) (hd : decode (m_c M) pc = .ok (.anewarray idx, 3)) (hl : Cond.classLink (m_y M).cls idx q.1 ∈ tb) (hg : nA h t n = some (a, h1)) (kk : Xj g M h1 (pc + 3) ls (va_rf a :: st) r h') : Xj g M h pc ls (.int n :: st) r h' := by
  obtain ⟨⟨n1, n2⟩, e⟩ := if_some hg
  cases e
  refine x_made kk rfl rfl (fun p e R s m args below meth c H locs cells slots Q la C B P S k1 k2 L w9 => ?_)
  refine W.anew C.1 C.2.1 C.2.2.2.1 (C.2.2.2.2.1 _ hl) (va_AO.use (by rcases ht with ⟨-, e⟩ | ⟨-, e⟩ <;> rw [e]; exact B.2.2.2.2.2.2.2.1; exact B.2.2.2.2.2.2.2.2)) rfl hd rfl n1 (by omega) k1 k2 fun cA kA comp f1 f2 f3 f4 => ?_
  generalize hH1 : H.push ({ cls := cA, slots := Array.replicate n.toNatClampNeg .null, vm := .none } : Cell) = H1
  have z1 : H1.size = H.size + 1 := by rw [← hH1, Array.size_push]
  have e1 : H1[H.size]? = some (arrV cA n.toNatClampNeg (fun _ => .null)) := by rw [← hH1, Array.getElem?_push_size, ← arrV_new]
  have o1 : ∀ q : Nat, q < H.size → H1[q]? = H[q]? := fun q hq => by rw [← hH1, Array.getElem?_push, if_neg (Nat.ne_of_lt hq)]
  have ht2 : t = 2 ∨ t = 3 := by rcases ht with ⟨x, -⟩ | ⟨x, -⟩ <;> simp [x]
  have hty : (tys g)[t]? = some (g_A g t, .object q.1) := by
    rcases ht with ⟨rfl, e⟩ | ⟨rfl, e⟩ <;> rw [e] <;> rfl
  have hcA : cA = g_A g t := by
    obtain ⟨_, _, -, -, -, f5⟩ := (B.1.2 t _ hty).2
    exact Option.some.inj (f1.symm.trans f5)
  have w8 := w9 H1 locs (wH_new P z1 o1 (by
    rw [ce_ref (by rw [nC_eq.1]) ht2, nC_eq.1, nC_eq.2.2]
    show H1[g_z g + hn h]? = some (vp_cell _ _)
    rw [← P.2, e1, ← hcA, vp_cell_q]
    rfl)) (S_new S z1 o1)
  have e9 : (va_rf (some (hn h)) :: st).map (cv g) = .ref H.size :: st.map (cv g) := by rw [P.2]; rfl
  rw [e9] at w8
  exact w8
theorem x_objInit {idx : Nat} {a : Nat} (hd : decode (m_c M) pc = .ok (.invokespecial idx, 3)) (l1 : Cond.methodLink (m_y M).cls idx Lib.objectInit ∈ tb) (l2 : Cond.instanceMethod Lib.objectInit ∈ tb) (l3 : Cond.code Lib.objectInit ⟨#[0xb1]⟩ 1 none ∈ tb) (hf : 1 ≤ m_f M) (ho : st.length + 12 ≤ m_o M) (kk : Xj g M h (pc + 3) ls st r h') : Xj g M h pc ls (va_rf (some a) :: st) r h' :=
  x_one kk (fun p e R s m args below meth c H locs cells slots Q la C B P S _ _ L w9 => W.objInit C.1 C.2.1 C.2.2.2.1 (C.2.2.2.2.1 _ l1) (C.2.2.2.2.1 _ l2) (C.2.2.2.2.1 _ l3) rfl (L.1.trans C.2.2.1.symm) rfl hd (Nat.le_trans hf C.2.2.2.2.2.1) (by show 2 * 0 + _ + 12 ≤ _; rw [cat_sum]; have := C.2.2.2.2.2.2.1; omega) w9)
theorem x_max {idx : Nat} {x y : Int32} (hd : decode (m_c M) pc = .ok (.invokestatic idx, 3)) (l1 : Cond.methodLink (m_y M).cls idx Lib.Math.max.name ∈ tb) (l2 : Cond.static Lib.Math.max.name ∈ tb) (l3 : Cond.initialized "java/lang/Math" ∈ tb) (l4 : Cond.code Lib.Math.max.name Lib.Math.max.code 2 (some .int) ∈ tb) (hf : 1 ≤ m_f M) (ho : st.length + 13 ≤ m_o M) (kk : Xj g M h (pc + 3) ls (.int (if x < y then y else x) :: st) r h') : Xj g M h pc ls (.int y :: .int x :: st) r h' :=
  x_one kk (fun p e R s m args below meth c H locs cells slots Q la C B P S k1 k2 L w9 => va_mmax C.1 C.2.1 (C.2.2.1.trans L.1.symm) C.2.2.2.1 (C.2.2.2.2.1 _ l1) (C.2.2.2.2.1 _ l2) (C.2.2.2.2.1 _ l3) (C.2.2.2.2.1 _ l4) (Nat.le_trans hf C.2.2.2.2.2.1) (by rw [cat_sum]; have := C.2.2.2.2.2.2.1; omega) k1 k2 hd w9)
theorem x_min {idx : Nat} {x y : Int32} (hd : decode (m_c M) pc = .ok (.invokestatic idx, 3)) (l1 : Cond.methodLink (m_y M).cls idx Lib.Math.min.name ∈ tb) (l2 : Cond.static Lib.Math.min.name ∈ tb) (l3 : Cond.initialized "java/lang/Math" ∈ tb) (l4 : Cond.code Lib.Math.min.name Lib.Math.min.code 2 (some .int) ∈ tb) (hf : 1 ≤ m_f M) (ho : st.length + 13 ≤ m_o M) (kk : Xj g M h (pc + 3) ls (.int (if y < x then y else x) :: st) r h') : Xj g M h pc ls (.int y :: .int x :: st) r h' :=
  x_one kk (fun p e R s m args below meth c H locs cells slots Q la C B P S k1 k2 L w9 => va_mmin C.1 C.2.1 (C.2.2.1.trans L.1.symm) C.2.2.2.1 (C.2.2.2.2.1 _ l1) (C.2.2.2.2.1 _ l2) (C.2.2.2.2.1 _ l3) (C.2.2.2.2.1 _ l4) (Nat.le_trans hf C.2.2.2.2.2.1) (by rw [cat_sum]; have := C.2.2.2.2.2.2.1; omega) k1 k2 hd w9)
theorem x_abs {idx : Nat} {x : Int32} (hd : decode (m_c M) pc = .ok (.invokestatic idx, 3)) (l1 : Cond.methodLink (m_y M).cls idx Lib.Math.abs.name ∈ tb) (l2 : Cond.static Lib.Math.abs.name ∈ tb) (l3 : Cond.initialized "java/lang/Math" ∈ tb) (l4 : Cond.code Lib.Math.abs.name Lib.Math.abs.code 1 (some .int) ∈ tb) (hf : 1 ≤ m_f M) (ho : st.length + 13 ≤ m_o M) (kk : Xj g M h (pc + 3) ls (.int (if 0 ≤ x then x else 0 - x) :: st) r h') : Xj g M h pc ls (.int x :: st) r h' :=
  x_one kk (fun p e R s m args below meth c H locs cells slots Q la C B P S k1 k2 L w9 => va_mabs C.1 C.2.1 (C.2.2.1.trans L.1.symm) C.2.2.2.1 (C.2.2.2.2.1 _ l1) (C.2.2.2.2.1 _ l2) (C.2.2.2.2.1 _ l3) (C.2.2.2.2.1 _ l4) (Nat.le_trans hf C.2.2.2.2.2.1) (by rw [cat_sum]; have := C.2.2.2.2.2.2.1; omega) k1 k2 hd w9)
theorem nn32 {z : Int32} (hz : ¬ z < 0) : z.toInt = (z.toNatClampNeg : Int) := by
  have hz0 : (0 : Int) ≤ z.toInt := by
    have := Int32.not_lt.mp hz
    simpa using Int32.le_iff_toInt_le.mp this
  show z.toInt = ((z.toInt.toNat : Nat) : Int)
  omega
theorem x_copy {idx : Nat} {a b : Option Nat} {sp dp n : Int32} (hd : decode (m_c M) pc = .ok (.invokestatic idx, 3)) (l1 : Cond.methodLink (m_y M).cls idx arraycopyName ∈ tb) (l2 : Cond.native arraycopyName ∈ tb) (l3 : Cond.static arraycopyName ∈ tb) (l4 : Cond.initialized "java/lang/System" ∈ tb) (hf : 1 ≤ m_f M) (ho : st.length + 18 ≤ m_o M) (hg : cpI h a sp b dp n = some h1) (kk : Xj g M h1 (pc + 3) ls st r h') : Xj g M h pc ls (.int n :: .int dp :: va_rf b :: .int sp :: va_rf a :: st) r h' := by
  cases a with
  | none => cases b <;> cases hg
  | some q =>
    cases b with
    | none => cases hg
    | some w =>
      obtain ⟨⟨⟨q1, q2⟩, ⟨w1, w2⟩, ⟨n1, n2, n3⟩, n4, n5⟩, rfl⟩ := if_some hg
      refine x_heap kk rfl rfl (fun p e R s m args below meth c H locs cells slots Q la C B P S _ _ L w9 => ?_)
      intro T hT X
      have hc0 := P.1 q _ (cw_at q1)
      rw [ce_int q2] at hc0
      have hc1 := P.1 w _ (cw_at w1)
      rw [ce_int w2] at hc1
      have hc0' : H[g_z g + q]? = some (vp_cell (g_A g 0) ((hS h q).2, .inl (hI h q))) := hc0
      have hc1' : H[g_z g + w]? = some (vp_cell (g_A g 0) ((hS h w).2, .inl (hI h w))) := hc1
      obtain ⟨-, k0, hk0, cm0, hkk0⟩ := (B.1.2 0 _ rfl).1 (hS h q).2 (fun j => .int (hI h q j))
      obtain ⟨-, k1, hk1, cm1, hkk1⟩ := (B.1.2 0 _ rfl).1 (hS h w).2 (fun j => .int (hI h w j))
      obtain ⟨vm', X', step⟩ := X.arraycopy C.1 C.2.2.2.1 (C.2.2.2.2.1 _ l1) (C.2.2.2.2.1 _ l2) (C.2.2.2.2.1 _ l3) (C.2.2.2.2.1 _ l4) (src := g_z g + q) (dst := g_z g + w) (cs := vp_cell (g_A g 0) ((hS h q).2, .inl (hI h q))) (cd := vp_cell (g_A g 0) ((hS h w).2, .inl (hI h w))) (sType := .int) (dType := .int) (srcPos := sp) (destPos := dp) (n := n) (by rw [hT]; exact hc0') (by rw [hT]; exact hc1')
        (fun _ h => by cases h) (fun _ h => by cases h) (fun h => by cases h) (fun h => by cases h) hk0 hk1 hkk0 hkk1 (by rfl) n1 n2 n3
        (by rw [nn32 n1, nn32 n3]; show ¬ _ > ((arrV _ _ _).slots.size : Int); rw [arrV_size]; omega)
        (by rw [nn32 n2, nn32 n3]; show ¬ _ > ((arrV _ _ _).slots.size : Int); rw [arrV_size]; omega)
        (fun vm₁ _ i hi => by
          have e : (vp_cell (g_A g 0) ((hS h q).2, .inl (hI h q))).slots.getD (sp.toNatClampNeg + i) .null = .int (hI h q (sp.toNatClampNeg + i)) := by
            show (arrV _ _ _).slots.getD _ _ = _
            rw [Array.getD_eq_getD_getElem?, arrV_read _ _ (by omega)]
            rfl
          rw [e]
          exact ⟨rfl, trivial⟩)
        (g := F0 m pc la ((.int n :: .int dp :: va_rf (some w) :: .int sp :: va_rf (some q) :: st).map (cv g))) rfl (L.1.trans C.2.2.1.symm) (rest := st.map (cv g)) rfl (by rw [C.2.1]; exact hd) (Nat.le_trans hf C.2.2.2.2.2.1) (by
          show 2 * 0 + _ + (7 + 11) ≤ _
          rw [cat_sum]; have := C.2.2.2.2.2.2.1; omega)
      have e1 : copied (vp_cell (g_A g 0) ((hS h q).2, .inl (hI h q))) (vp_cell (g_A g 0) ((hS h w).2, .inl (hI h w))) sp dp n = vp_cell (g_A g 0) ((hS h w).2, .inl (va_cpy (hI h q) (hI h w) sp.toNatClampNeg dp.toNatClampNeg n.toNatClampNeg)) := va_copied (fun z => .int z) _ _ _ _ n4
      rw [e1] at X' step
      generalize hnew : vp_cell (g_A g 0) ((hS h w).2, .inl (va_cpy (hI h q) (hI h w) sp.toNatClampNeg dp.toNatClampNeg n.toNatClampNeg)) = newc at X' step
      have hl : g_z g + w < H.size := (Array.getElem?_eq_some_iff.mp hc1').1
      have oq : ∀ x : Nat, x ≠ g_z g + w → (H.setIfInBounds (g_z g + w) newc)[x]? = H[x]? := fun x hx => by simp [Array.getElem?_setIfInBounds, Ne.symm hx]
      obtain ⟨t, a1, b1⟩ := w9 (H.setIfInBounds (g_z g + w) newc) _ (wH_set (q := w) P rfl ce_sI (by simp) (by
          rw [ce_int (show (hS (sI h w _) w).1 = 0 from w2), sI_eq]
          show (H.setIfInBounds (g_z g + w) newc)[g_z g + w]? = some (vp_cell _ _)
          rw [← hnew]
          simp [Array.getElem?_setIfInBounds, hl]
          rfl) oq) ⟨by simp; exact S.1, fun x g1 g2 => by
          rw [oq x (fun e => g2 (by rw [e]; exact Nat.le_add_right _ _))]
          exact S.2.1 x g1 g2, fun x hx => by
          rcases List.mem_append.mp hx with h | h
          · exact S.2.2 x h
          · obtain ⟨z, -, hz⟩ := List.mem_map.mp h
            rw [← hz]
            exact Nat.le_add_right _ _⟩ _ (by rw [← hT]; rfl) X'
      exact ⟨t, step t a1, b1⟩
end Rules4
