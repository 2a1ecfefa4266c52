/-! fields and arrays -/
def cOk (ci : Nat) (q : vw_C) (ty : Nat → FieldType) : Prop := vwCl[ci]? = some q ∧ (∀ w ∈ u_ws q.1 q.2.1 q.2.2, w ∈ tb) ∧ (∀ k, k < q.2.2 → parseFieldDescriptor (q.2.1 k).2.2.1 = some (ty k)) ∧ (∀ a, a < q.2.2 → ∀ b, b < q.2.2 → a ≠ b → (q.2.1 a).2.1 ≠ (q.2.1 b).2.1)
/-- the field k of the class ci, read by own's pool entry idx; b: it holds a reference -/
def fL (own : String) (idx ci k : Nat) (b : Bool) : Prop := ∃ (q : vw_C) (ty : Nat → FieldType), cOk ci q ty ∧ k < q.2.2 ∧ fR q k = b ∧ Cond.fieldLink own idx (q.2.1 k).1 (q.2.1 k).2.1 (q.2.1 k).2.2.1 ∈ tb ∧ (b = false → ty k = .int) ∧ (b = true → (∃ t, ty k = .array t) ∨ ∃ t, ty k = .object t)
/-- it may be written: it isn't final, or the method is its own class's constructor -/
def fW (M : MT) (ci k : Nat) : Prop := ∀ (q : vw_C) (ty : Nat → FieldType), cOk ci q ty → (q.2.1 k).2.2.2 = false ∨ ((q.2.1 k).2.2.2 = true ∧ (m_y M).name = "<init>" ∧ (q.2.1 k).1 = (m_y M).cls)
def gI (h : AH) (a : Option Nat) (ci k : Nat) : Option Int32 := match a with
  | none => none
  | some q => if q < hn h ∧ (hS h q).1 = ci + 4 then some (hI h q k) else none
def gR (h : AH) (a : Option Nat) (ci k : Nat) : Option (Option Nat) := match a with
  | none => none
  | some q => if q < hn h ∧ (hS h q).1 = ci + 4 then some (hR h q k) else none
def pI (h : AH) (a : Option Nat) (ci k : Nat) (v : Int32) : Option AH := match a with
  | none => none
  | some q => if q < hn h ∧ (hS h q).1 = ci + 4 then some (sI h q (upd (hI h q) k v)) else none
def pR (h : AH) (a : Option Nat) (ci k : Nat) (v : Option Nat) : Option AH := match a with
  | none => none
  | some q => if q < hn h ∧ (hS h q).1 = ci + 4 then some (sR h q (va_up (hR h q) k v)) else none
def ldI (h : AH) (a : Option Nat) (i : Int32) : Option Int32 := match a with
  | none => none
  | some q => if q < hn h ∧ (hS h q).1 = 0 ∧ ¬ (i < 0 ∨ (hS h q).2 ≤ i.toNatClampNeg) then some (hI h q i.toNatClampNeg) else none
def stI (h : AH) (a : Option Nat) (i v : Int32) : Option AH := match a with
  | none => none
  | some q => if q < hn h ∧ (hS h q).1 = 0 ∧ ¬ (i < 0 ∨ (hS h q).2 ≤ i.toNatClampNeg) then some (sI h q (upd (hI h q) i.toNatClampNeg v)) else none
def ldZ (h : AH) (a : Option Nat) (i : Int32) : Option Int32 := match a with
  | none => none
  | some q => if q < hn h ∧ (hS h q).1 = 1 ∧ ¬ (i < 0 ∨ (hS h q).2 ≤ i.toNatClampNeg) then some (hI h q i.toNatClampNeg) else none
def stZ (h : AH) (a : Option Nat) (i v : Int32) : Option AH := match a with
  | none => none
  | some q => if (q < hn h ∧ (hS h q).1 = 1 ∧ ¬ (i < 0 ∨ (hS h q).2 ≤ i.toNatClampNeg)) ∧ (v = 0 ∨ v = 1) then some (sI h q (upd (hI h q) i.toNatClampNeg v)) else none
/-- arrays of references: t = 2 holds Sheets, t = 3 holds Pieces -/
def ldR (h : AH) (a : Option Nat) (t : Nat) (i : Int32) : Option (Option Nat) := match a with
  | none => none
  | some q => if q < hn h ∧ (hS h q).1 = t ∧ ¬ (i < 0 ∨ (hS h q).2 ≤ i.toNatClampNeg) then some (hR h q i.toNatClampNeg) else none
def stR (h : AH) (a : Option Nat) (t ci : Nat) (i : Int32) (v : Option Nat) : Option AH := match a, v with
  | some q, some w => if (q < hn h ∧ (hS h q).1 = t ∧ ¬ (i < 0 ∨ (hS h q).2 ≤ i.toNatClampNeg)) ∧ (w < hn h ∧ (hS h w).1 = ci + 4) then some (sR h q (va_up (hR h q) i.toNatClampNeg v)) else none
  | _, _ => none
def lenA (h : AH) (a : Option Nat) : Option Int32 := match a with
  | none => none
  | some q => if q < hn h ∧ (hS h q).1 = 0 then some (Int32.ofNat (hS h q).2) else none
/-- a new array of n places -/
def nA (h : AH) (kind : Nat) (n : Int32) : Option (Option Nat × AH) := if ¬ n < 0 ∧ n.toNatClampNeg ≤ 100000 then some (some (hn h), nC h kind n.toNatClampNeg) else none
def cpI (h : AH) (a : Option Nat) (sp : Int32) (b : Option Nat) (dp n : Int32) : Option AH := match a, b with
  | some q, some w => if (q < hn h ∧ (hS h q).1 = 0) ∧ (w < hn h ∧ (hS h w).1 = 0) ∧ (¬ sp < 0 ∧ ¬ dp < 0 ∧ ¬ n < 0) ∧ sp.toNatClampNeg + n.toNatClampNeg ≤ (hS h q).2 ∧ dp.toNatClampNeg + n.toNatClampNeg ≤ (hS h w).2 then some (sI h w (va_cpy (hI h q) (hI h w) sp.toNatClampNeg dp.toNatClampNeg n.toNatClampNeg)) else none
  | _, _ => none
theorem wH_set {g : GT} {h h2 : AH} {H H1 : Heap} {q : Nat} (P : wH g h H) (hn2 : hn h2 = hn h) (ho : ∀ j, j ≠ q → ce g h2 j = ce g h j) (hz : H1.size = H.size) (he : va_at (g_D g) vwCl (g_z g + q, ce g h2 q) H1) (oq : ∀ a : Nat, a ≠ g_z g + q → H1[a]? = H[a]?) : wH g h2 H1 := by
  refine ⟨fun k x hk => ?_, by rw [hz, P.2, hn2]⟩
  obtain ⟨hl, rfl⟩ := cw_lt hk
  by_cases e : k = q
  · subst e; exact he
  · have h0 := P.1 k _ (cw_at (hn2 ▸ hl))
    rw [ho k e]
    exact h0.kept (oq _ (fun z => e (Nat.add_left_cancel z)))
theorem ce_congr {g : GT} {h h2 : AH} {j : Nat} (h1 : hS h2 j = hS h j) (h3 : hI h2 j = hI h j) (h4 : hR h2 j = hR h j) : ce g h2 j = ce g h j := by
  unfold ce cf
  rw [h1, h3, h4]
theorem sI_ne {h : AH} {q j : Nat} {f : Nat → Int32} (e : j ≠ q) : hI (sI h q f) j = hI h j := by simp [sI, hI, va_up, e]
theorem sI_eq {h : AH} {q : Nat} {f : Nat → Int32} : hI (sI h q f) q = f := by simp [sI, hI, va_up]
theorem sR_ne {h : AH} {q j : Nat} {f : Nat → Option Nat} (e : j ≠ q) : hR (sR h q f) j = hR h j := by simp [sR, hR, va_up, e]
theorem sR_eq {h : AH} {q : Nat} {f : Nat → Option Nat} : hR (sR h q f) q = f := by simp [sR, hR, va_up]
theorem ce_sI {g : GT} {h : AH} {q : Nat} {f : Nat → Int32} (j : Nat) (e : j ≠ q) : ce g (sI h q f) j = ce g h j := ce_congr rfl (sI_ne e) rfl
theorem ce_sR {g : GT} {h : AH} {q : Nat} {f : Nat → Option Nat} (j : Nat) (e : j ≠ q) : ce g (sR h q f) j = ce g h j := ce_congr rfl rfl (sR_ne e)
theorem ce_obj {g : GT} {h : AH} {k ci : Nat} {q : vw_C} (hk : (hS h k).1 = ci + 4) (hq : vwCl[ci]? = some q) : ce g h k = .inr (ci, cf g h k q) := by
  unfold ce
  rw [hk]
  have : vwCl.getD ci (RX0, TX0, 3) = q := by rw [List.getD_eq_getElem?_getD, hq]; rfl
  show Sum.inr (ci, cf g h k (vwCl.getD ci (RX0, TX0, 3))) = _
  rw [this]
theorem ce_int {g : GT} {h : AH} {k : Nat} (hk : (hS h k).1 = 0) : ce g h k = .inl (g_A g 0, (hS h k).2, .inl (hI h k)) := by
  unfold ce; rw [hk]
theorem ce_bool {g : GT} {h : AH} {k : Nat} (hk : (hS h k).1 = 1) : ce g h k = .inl (g_A g 1, (hS h k).2, .inl (hI h k)) := by
  unfold ce; rw [hk]
theorem ce_ref {g : GT} {h : AH} {k t : Nat} (hk : (hS h k).1 = t) (ht : t = 2 ∨ t = 3) : ce g h k = .inl (g_A g t, (hS h k).2, .inr (.inr (.inr (.inr (fun i => cr g (hR h k i)))))) := by
  unfold ce; rw [hk]
  rcases ht with rfl | rfl <;> rfl
theorem cf_at {g : GT} {h : AH} {k j : Nat} {q : vw_C} (hj : j < q.2.2) : (cf g h k q)[j]? = some (if fR q j then va_rf (cr g (hR h k j)) else .int (hI h k j)) := by
  simp [cf, hj]
theorem cf_V {g : GT} {h : AH} {k j : Nat} {q : vw_C} (hj : j < q.2.2) : vp_V (cf g h k q) j = if fR q j then va_rf (cr g (hR h k j)) else .int (hI h k j) := by
  unfold vp_V
  rw [List.getD_eq_getElem?_getD, cf_at hj]
  rfl
theorem if_some {α : Type} {c : Prop} [Decidable c] {x y : α} (h : (if c then some x else none) = some y) : c ∧ x = y := by
  by_cases hc : c
  · rw [if_pos hc] at h; exact ⟨hc, Option.some.inj h⟩
  · rw [if_neg hc] at h; cases h
section Rules2
variable {g : GT} {M : MT} {h h' h1 : AH} {pc : Nat} {ls ls' : List (Option Value)} {st : List Value} {r : Option Value}
theorem x_getI {idx ci k : Nat} {a : Option Nat} {v : Int32} (hd : decode (m_c M) pc = .ok (.getfield idx, 3)) (hf : fL (m_y M).cls idx ci k false) (hg : gI h a ci k = some v) (kk : Xj g M h (pc + 3) ls (.int v :: st) r h') : Xj g M h pc ls (va_rf a :: st) r h' := by
  obtain ⟨q, ty, ⟨c1, c2, c3, c4⟩, hk, hb, hl, -, -⟩ := hf
  cases a with
  | none => cases hg
  | some w =>
    obtain ⟨hw, rfl⟩ := if_some hg
    · skip
      refine x_one kk (fun p e R s m args below meth c H locs cells slots Q la C B P S _ _ L w9 => ?_)
      refine va_get (D := g_D g) (cl := vwCl) (C := q.1) (T := q.2.1) (N := q.2.2) C.1 C.2.1 C.2.2.2.2.1 c2 C.2.2.2.1 B.1 P.1 w ((cw_at hw.1).trans (by rw [ce_obj hw.2 c1])) c1 k hk (C.2.2.2.2.1 _ hl) (fun _ z => z) (v := .int (hI h w k)) ?_ hd w9
      rw [cf_at hk, hb]; rfl
theorem x_getR {idx ci k : Nat} {a : Option Nat} {v : Option Nat} (hd : decode (m_c M) pc = .ok (.getfield idx, 3)) (hf : fL (m_y M).cls idx ci k true) (hg : gR h a ci k = some v) (kk : Xj g M h (pc + 3) ls (va_rf v :: st) r h') : Xj g M h pc ls (va_rf a :: st) r h' := by
  obtain ⟨q, ty, ⟨c1, c2, c3, c4⟩, hk, hb, hl, -, -⟩ := hf
  cases a with
  | none => cases hg
  | some w =>
    obtain ⟨hw, rfl⟩ := if_some hg
    · skip
      refine x_one kk (fun p e R s m args below meth c H locs cells slots Q la C B P S _ _ L w9 => ?_)
      refine va_get (D := g_D g) (cl := vwCl) (C := q.1) (T := q.2.1) (N := q.2.2) C.1 C.2.1 C.2.2.2.2.1 c2 C.2.2.2.1 B.1 P.1 w ((cw_at hw.1).trans (by rw [ce_obj hw.2 c1])) c1 k hk (C.2.2.2.2.1 _ hl) (fun _ z => z) (v := cv g (va_rf (hR h w k))) ?_ hd w9
      rw [cf_at hk, hb, cv_rf]; rfl
/-- a write to a field, with what it leaves -/
theorem w_put {p : Program} {e : Env} {R : Room} {s : State} {m : MethodId} {args : Array Value} {below : List Frame} {meth : Method} {c : Code} {H : Heap} {locs : List Loc} {cells slots : Nat} {Q : State → Prop} {la : Array Slot} {rest : List Value}
    {idx ci k w : Nat} {q : vw_C} {ty : Nat → FieldType} {v : Value} {h2 : AH} (C : Cx M p s m args meth c R) (B : wB g s) (P : wH g h H) (S : va_S (wA g) s.heap H locs)
    (hd : decode (m_c M) pc = .ok (.putfield idx, 3)) (hc : cOk ci q ty) (hk : k < q.2.2) (hl : Cond.fieldLink (m_y M).cls idx (q.2.1 k).1 (q.2.1 k).2.1 (q.2.1 k).2.2.1 ∈ tb)
    (hfin : (q.2.1 k).2.2.2 = false ∨ ((q.2.1 k).2.2.2 = true ∧ (m_y M).name = "<init>" ∧ (q.2.1 k).1 = (m_y M).cls)) (hnar : narrow (ty k) v = v) (hfit : fits (ty k) v = true)
    (hw : w < hn h) (hsh : (hS h w).1 = ci + 4) (hn2 : hn h2 = hn h) (ho : ∀ j, j ≠ w → ce g h2 j = ce g h j) (he : ce g h2 w = .inr (ci, cf g h2 w q)) (hV : ∀ j, j < q.2.2 → updV (vp_V (cf g h w q)) k v j = vp_V (cf g h2 w q) j)
    (kk : ∀ H1 locs1, wH g h2 H1 → va_S (wA g) s.heap H1 locs1 → W p (g_l g) e R s m args below meth c H1 locs1 cells slots Q (F0 m (pc + 3) la rest)) : W p (g_l g) e R s m args below meth c H locs cells slots Q (F0 m pc la (v :: .ref (g_z g + w) :: rest)) := by
  obtain ⟨c1, c2, c3, c4⟩ := hc
  obtain ⟨hx, hb, hml, hown, hts, -, -, hin⟩ := C
  have hP0 := P.1 w _ (cw_at hw)
  rw [ce_obj hsh c1] at hP0
  obtain ⟨r0, r1, cell, q1, q2, q3, q4⟩ := hP0
  cases (r1.symm.trans c1)
  have hap := va_apart (own := (m_y M).cls) hts c2 ty c3 c4 B.1 c1
  obtain ⟨hSl, hfc, kC, hkC, hkind⟩ := B.1.1 ci _ c1
  obtain ⟨cf0, kf, fi, f, hi, hsl⟩ := hSl k hk
  have hlay := hts _ (c2 _ (u_in_lay hk))
  have hst := (u_facts hfc hkC (u_lays hts c2 hk) hi).1
  have hA : wA g (g_z g + w) := Nat.le_add_right _ _
  have fin : ∀ H' : Heap, H'[g_z g + w]? = some (cell.setSlot f.slot v) → H'.size = H.size → (∀ x, x ≠ g_z g + w → H'[x]? = H[x]?) → wH g h2 H' := by
    intro H' e1 e2 e3
    refine wH_set (q := w) P hn2 ho e2 ?_ e3
    rw [he]
    rw [hsl] at e1
    exact ⟨_, c1, t_OB.to (V := updV (vp_V (cf g h w q)) k v) ⟨_, e1, q2, q3, t_set q4 hap hk v⟩ hV⟩
  rcases hfin with hfin | ⟨hfin, hin2, hdecl⟩
  · unfold u_lay at hlay
    rw [if_neg (by rw [hfin]; decide)] at hlay
    have h6 := u_store hfc hkC hkind hlay hi (c3 k hk) hnar hfit
    exact W.putK hx hb (f := f) ⟨hown, hts _ hl, ⟨_, _, _, hi⟩, hst⟩ (by rw [q2]; exact h6) q1 q3 (by rw [hsl]; exact k2_hasslot (q4 k hk)) rfl rfl hd fun H' e1 e2 e3 => kk H' _ (fin H' e1 e2 e3) (S.put e2 e3 hA)
  · unfold u_lay at hlay
    rw [if_pos hfin] at hlay
    have hcf : m.cls = cf0 := by
      obtain ⟨_, _, c', _, _, _, -, -, hf', -, -, -, hown2, -⟩ := Cond.laysFinal_spec hlay
      have e1 : c' = cf0 := by have := hi.symm.trans hf'; simp at this; exact this.1.symm
      rw [hdecl] at hown2
      rw [← e1]; exact Option.some.inj (hown.symm.trans hown2)
    have h6 := u_fits hfc hkC hkind (Or.inr hlay) hi (c3 k hk) hnar hfit
    exact W.putFinK hx hb hown (hts _ hl) hi hst hcf (hin hin2) (by rw [q2]; exact h6) q1 q3 (by rw [hsl]; exact k2_hasslot (q4 k hk)) rfl rfl hd fun H' e1 e2 e3 => kk H' _ (fin H' e1 e2 e3) (S.put e2 e3 hA)
theorem x_putI {idx ci k : Nat} {a : Option Nat} {v : Int32} (hd : decode (m_c M) pc = .ok (.putfield idx, 3)) (hf : fL (m_y M).cls idx ci k false) (hW : fW M ci k) (hg : pI h a ci k v = some h1) (kk : Xj g M h1 (pc + 3) ls st r h') : Xj g M h pc ls (.int v :: va_rf a :: st) r h' := by
  obtain ⟨q, ty, hc, hk, hb, hl, hty, -⟩ := hf
  cases a with
  | none => cases hg
  | some w =>
    obtain ⟨hw, rfl⟩ := if_some hg
    · skip
      refine x_heap kk rfl rfl (fun p e R s m args below meth c H locs cells slots Q la C B P S _ _ L w9 => ?_)
      refine w_put C B P S hd hc hk hl (hW q ty hc) (h2 := sI h w (upd (hI h w) k v)) (v := .int v) (by rw [hty rfl]; rfl) (by rw [hty rfl]; rfl) hw.1 hw.2 rfl ce_sI (ce_obj hw.2 hc.1) (fun j hj => ?_) w9
      rw [cf_V hj, updV]
      by_cases ej : j = k
      · subst ej; simp [hb, sI_eq, upd]
      · rw [if_neg ej, cf_V hj, sI_eq]
        simp [upd, ej, sI, hR]
theorem x_putR {idx ci k : Nat} {a v : Option Nat} (hd : decode (m_c M) pc = .ok (.putfield idx, 3)) (hf : fL (m_y M).cls idx ci k true) (hW : fW M ci k) (hg : pR h a ci k v = some h1) (kk : Xj g M h1 (pc + 3) ls st r h') : Xj g M h pc ls (va_rf v :: va_rf a :: st) r h' := by
  obtain ⟨q, ty, hc, hk, hb, hl, -, hty⟩ := hf
  cases a with
  | none => cases hg
  | some w =>
    obtain ⟨hw, rfl⟩ := if_some hg
    · skip
      refine x_heap kk rfl rfl (fun p e R s m args below meth c H locs cells slots Q la C B P S _ _ L w9 => ?_)
      have hty := hty rfl
      refine w_put C B P S hd hc hk hl (hW q ty hc) (h2 := sR h w (va_up (hR h w) k v)) (v := cv g (va_rf v)) (by rcases hty with ⟨t, e⟩ | ⟨t, e⟩ <;> rw [e] <;> cases v <;> rfl) (by rcases hty with ⟨t, e⟩ | ⟨t, e⟩ <;> rw [e] <;> cases v <;> rfl) hw.1 hw.2 rfl ce_sR (ce_obj hw.2 hc.1) (fun j hj => ?_) w9
      rw [cf_V hj, updV]
      by_cases ej : j = k
      · subst ej; simp [hb, sR_eq, va_up, cv_rf]
      · rw [if_neg ej, cf_V hj, sR_eq]
        simp [va_up, ej, sR, hI]
end Rules2
