/-! The abstract heap: cells 0 .. n-1 made since the law began, their shapes, their ints, their references. A judgement Xj over it, and a rule an instruction. -/
/-- the words of the tables that a callee may be given -/
def tb : List Cond := lw_tbl.filter goodWord
theorem in_tb {w : Cond} (i : Nat) (h : lw_tbl[i]? = some w) (hg : goodWord w = true) : w ∈ tb := List.mem_filter.mpr ⟨List.mem_of_getElem? h, hg⟩
abbrev vwCl : List vw_C := [(RX0, TX0, 3), (RX1, TX1, 3), (RX2, TX2, 4), (RX3, TX3, 5), (RX4, TX4, 9), (RX5, TX5, 3), (RX6, TX6, 3), (RX7, TX7, 7), (RX8, TX8, 13)]
abbrev AH : Type := Nat × Nat × (Nat → Nat × Nat) × (Nat → Nat → Int32) × (Nat → Nat → Option Nat)
def hn (h : AH) : Nat := h.1
def hs (h : AH) : Nat := h.2.1
def hS (h : AH) : Nat → Nat × Nat := h.2.2.1
def hI (h : AH) : Nat → Nat → Int32 := h.2.2.2.1
def hR (h : AH) : Nat → Nat → Option Nat := h.2.2.2.2
def sI (h : AH) (k : Nat) (f : Nat → Int32) : AH := (hn h, hs h, hS h, va_up (hI h) k f, hR h)
def sR (h : AH) (k : Nat) (f : Nat → Option Nat) : AH := (hn h, hs h, hS h, hI h, va_up (hR h) k f)
def nC (h : AH) (kind len : Nat) : AH := (hn h + 1, hs h + len, va_up (hS h) (hn h) (kind, len), va_up (hI h) (hn h) (fun _ => 0), va_up (hR h) (hn h) (fun _ => none))
abbrev MT : Type := MethodName × ByteArray × Nat × Option FieldType × Nat × Nat
def m_y (M : MT) : MethodName := M.1
def m_c (M : MT) : ByteArray := M.2.1
def m_l (M : MT) : Nat := M.2.2.1
def m_r (M : MT) : Option FieldType := M.2.2.2.1
def m_f (M : MT) : Nat := M.2.2.2.2.1
def m_o (M : MT) : Nat := M.2.2.2.2.2
abbrev GT : Type := Launch × va_G × (Nat → ClassId) × (Nat × Nat × Nat × Nat) × (Nat → Int32)
def g_l (g : GT) : Launch := g.1
def g_D (g : GT) : va_G := g.2.1
def g_A (g : GT) : Nat → ClassId := g.2.2.1
def g_z (g : GT) : Nat := g.2.2.2.1.1
def g_b (g : GT) : Nat := g.2.2.2.1.2.1
def g_a (g : GT) : Nat := g.2.2.2.1.2.2.1
def g_n (g : GT) : Nat := g.2.2.2.1.2.2.2
def g_x (g : GT) : Nat → Int32 := g.2.2.2.2
/-- an abstract value as the machine has it: references are counted from the base; retAddr 0 is the script, retAddr 1 the table ABOVE -/
def cv (g : GT) : Value → Value
  | .int x => .int x
  | .ref k => .ref (g_z g + k)
  | .retAddr 0 => .ref (g_b g)
  | .retAddr _ => .ref (g_a g)
  | _ => .null
def cr (g : GT) (r : Option Nat) : Option Nat := r.map (fun k => g_z g + k)
theorem cv_rf (g : GT) (r : Option Nat) : cv g (va_rf r) = va_rf (cr g r) := by cases r <;> rfl
theorem cv_int (g : GT) (x : Int32) : cv g (.int x) = .int x := rfl
theorem cv_cat (g : GT) (v : Value) : (cv g v).category = 1 := by
  cases v with
  | retAddr k => cases k <;> rfl
  | _ => rfl
def fR (q : vw_C) (j : Nat) : Bool := (q.2.1 j).2.2.1 != "I"
def cf (g : GT) (h : AH) (k : Nat) (q : vw_C) : List Value := (List.range q.2.2).map (fun j => if fR q j then va_rf (cr g (hR h k j)) else .int (hI h k j))
def ce (g : GT) (h : AH) (k : Nat) : va_E := match (hS h k).1 with
  | 0 => .inl (g_A g 0, (hS h k).2, .inl (hI h k))
  | 1 => .inl (g_A g 1, (hS h k).2, .inl (hI h k))
  | 2 => .inl (g_A g 2, (hS h k).2, .inr (.inr (.inr (.inr (fun i => cr g (hR h k i))))))
  | 3 => .inl (g_A g 3, (hS h k).2, .inr (.inr (.inr (.inr (fun i => cr g (hR h k i))))))
  | ci + 4 => .inr (ci, cf g h k (vwCl.getD ci (RX0, TX0, 3)))
def cw (g : GT) (h : AH) : va_W := (List.range (hn h)).map (fun k => (g_z g + k, ce g h k))
theorem cw_at {g : GT} {h : AH} {k : Nat} (hk : k < hn h) : (cw g h)[k]? = some (g_z g + k, ce g h k) := by
  simp [cw, hk]
theorem cw_lt {g : GT} {h : AH} {k : Nat} {q : Nat × va_E} (hk : (cw g h)[k]? = some q) : k < hn h ∧ q = (g_z g + k, ce g h k) := by
  have hl : k < hn h := by
    have := (List.getElem?_eq_some_iff.mp hk).1
    simpa [cw] using this
  exact ⟨hl, Option.some.inj (hk.symm.trans (cw_at hl))⟩
def wA (g : GT) : Nat → Prop := fun q => g_z g ≤ q
theorem cw_D (g : GT) (h : AH) : va_D (wA g) (cw g h) := by
  refine ⟨fun i j p q hi hj e => ?_, fun k q hk => ?_⟩
  · rw [(cw_lt hi).2, (cw_lt hj).2] at e
    exact Nat.add_left_cancel e
  · rw [(cw_lt hk).2]
    exact Nat.le_add_right _ _
def tys (g : GT) : List (ClassId × FieldType) := [(g_A g 0, .int), (g_A g 1, .boolean), (g_A g 2, .object RX5), (g_A g 3, .object RX2)]
def abv : Nat → Value := fun j => match j with
  | 0 => .int (-1)
  | 1 => .int 0
  | 2 => .int 0
  | _ => .int 1
/-- links to private members of nest mates -/
def nwL : List (String × Nat × MethodName × String) := [(RX7, 18, yX6_init, RX7), (RX7, 25, yX3_init, RX7), (RX7, 32, yX0_init, RX7), (RX7, 54, yX5_init, RX7), (RX0, 23, yX7_holds, RX7), (RX1, 22, yX2_init, RX7), (RX3, 86, yX7_holds, RX7), (RX4, 56, yX7_within, RX7), (RX4, 63, yX7_holds, RX7)]
def wN (U : State) : Prop := (∀ q ∈ nwL, va_Nw (.methodLinkNest q.1 q.2.1 q.2.2.1 q.2.2.2) U) ∧ va_AO RX5 U ∧ va_AO RX2 U
/-- the base, as a state has it at a method's beginning -/
def wB (g : GT) (U : State) : Prop := va_K (g_D g) vwCl (tys g) U ∧ va_Z "CanyonRafts" "ABOVE" "[I" (.ref (g_a g)) (wA g) U U.heap ∧ va_T .int (g_a g) 4 abv (wA g) U U.heap ∧ va_X (g_b g) (g_n g) (g_x g) U U.heap ∧ g_b g < g_z g ∧ g_z g ≤ U.heap.size ∧ wN U
theorem wB.moved {g : GT} {u U : State} (h : wB g u) (hW : u.WarmedH U.vm) {locs : List Loc} (hS : va_S (wA g) u.heap U.heap locs) : wB g U := by
  obtain ⟨h1, h2, h3, h4, h5, h6, h7, h8, h9⟩ := h
  have hvm := hW.alike
  have hq : ∀ a : Nat, a < u.heap.size → ¬ wA g a → U.heap[a]? = u.heap[a]? := hS.2.1
  exact ⟨h1.moved hvm, (h2.moved hvm).kept hq, (h3.moved hvm).kept hq, (h4.moved hvm).kept (hq _ (Nat.lt_of_lt_of_le h5 h6) (Nat.not_le.mpr h5)), h5, Nat.le_trans h6 hS.1, fun q hq => (h7 q hq).warmM hW, h8.moved hvm, h9.moved hvm⟩
/-- the heap holds the abstract one, and ends with it -/
def wH (g : GT) (h : AH) (H : Heap) : Prop := va_P (g_D g) vwCl (cw g h) H ∧ H.size = g_z g + hn h
def Cx (M : MT) (p : Program) (s : State) (m : MethodId) (args : Array Value) (meth : Method) (c : Code) (R : Room) : Prop :=
  p.tables.exec = Jvm.exec ∧ c.code = m_c M ∧ c.maxLocals = m_l M ∧ s.vm.findClass (m_y M).cls = some m.cls ∧ (∀ w ∈ tb, w.before args s = true) ∧ m_f M ≤ R.frames ∧ m_o M ≤ R.locals ∧ ((m_y M).name = "<init>" → meth.name = "<init>")
/-- the locals -/
def lR (g : GT) (M : MT) (ls : List (Option Value)) (la : Array Slot) : Prop := la.size = m_l M ∧ lv_wf la ∧ ∀ (i : Nat) (v : Value), ls[i]? = some (some v) → la[i]? = some (.val (cv g v))
def okR (M : MT) (r : Option Value) : Prop := match r with
  | none => m_r M = none
  | some (.int v) => ∃ ty, m_r M = some ty ∧ narrow ty (.int v) = .int v
  | some _ => False
def rI (r : Option Value) : Instr × Nat := match r with
  | none => (.return_, 1)
  | some _ => (.ireturn, 1)
/-- from pc on, with these locals, this stack and the heap h, the method M comes to its end with the answer r and the heap h' -/
def Xj (g : GT) (M : MT) (h : AH) (pc : Nat) (ls : List (Option Value)) (st : List Value) (r : Option Value) (h' : AH) : Prop :=
  (hn h ≤ hn h' ∧ hs h ≤ hs h') ∧ okR M r ∧
  ∀ (p : Program) (e : Env) (R : Room) (s : State) (m : MethodId) (args : Array Value) (below : List Frame) (meth : Method) (c : Code) (H : Heap) (locs : List Loc) (n0 s0 cells slots : Nat) (Q : State → Prop) (la : Array Slot),
    Cx M p s m args meth c R → wB g s → wH g h H → va_S (wA g) s.heap H locs →
    cells + n0 = hn h → slots + s0 = hs h → hn h' ≤ R.cells + n0 → hs h' ≤ R.slots + s0 → lR g M ls la →
    (∀ (H' : Heap) (locs' : List Loc) (cells' slots' pc' : Nat) (la' : Array Slot), wH g h' H' → va_S (wA g) s.heap H' locs' → cells' + n0 = hn h' → slots' + s0 = hs h' → decode (m_c M) pc' = .ok (rI r) →
      W p (g_l g) e R s m args below meth c H' locs' cells' slots' Q (F0 m pc' la' (r.toList.map (cv g)))) →
    W p (g_l g) e R s m args below meth c H locs cells slots Q (F0 m pc la (st.map (cv g)))
section Rules
variable {g : GT} {M : MT} {h h' h1 : AH} {pc : Nat} {ls ls' : List (Option Value)} {st : List Value} {r : Option Value}
/-- a step that leaves heap and locals -/
theorem x_one {pc' : Nat} {st' : List Value} (k : Xj g M h pc' ls st' r h')
    (f : ∀ (p : Program) (e : Env) (R : Room) (s : State) (m : MethodId) (args : Array Value) (below : List Frame) (meth : Method) (c : Code) (H : Heap) (locs : List Loc) (cells slots : Nat) (Q : State → Prop) (la : Array Slot),
      Cx M p s m args meth c R → wB g s → wH g h H → va_S (wA g) s.heap H locs → cells ≤ R.cells → slots ≤ R.slots → lR g M ls la →
      W p (g_l g) e R s m args below meth c H locs cells slots Q (F0 m pc' la (st'.map (cv g))) → W p (g_l g) e R s m args below meth c H locs cells slots Q (F0 m pc la (st.map (cv g)))) : Xj g M h pc ls st r h' := by
  obtain ⟨⟨k1, k2⟩, k3, k4⟩ := k
  refine ⟨⟨k1, k2⟩, k3, fun p e R s m args below meth c H locs n0 s0 cells slots Q la C B P S e1 e2 e3 e4 L K => ?_⟩
  exact f p e R s m args below meth c H locs cells slots Q la C B P S (by omega) (by omega) L (k4 p e R s m args below meth c H locs n0 s0 cells slots Q la C B P S e1 e2 e3 e4 L K)
/-- a step that changes a local -/
theorem x_loc {pc' : Nat} {st' : List Value} (k : Xj g M h pc' ls' st' r h')
    (f : ∀ (p : Program) (e : Env) (R : Room) (s : State) (m : MethodId) (args : Array Value) (below : List Frame) (meth : Method) (c : Code) (H : Heap) (locs : List Loc) (cells slots : Nat) (Q : State → Prop) (la : Array Slot),
      Cx M p s m args meth c R → lR g M ls la →
      (∀ la', lR g M ls' la' → W p (g_l g) e R s m args below meth c H locs cells slots Q (F0 m pc' la' (st'.map (cv g)))) → W p (g_l g) e R s m args below meth c H locs cells slots Q (F0 m pc la (st.map (cv g)))) : Xj g M h pc ls st r h' := by
  obtain ⟨⟨k1, k2⟩, k3, k4⟩ := k
  refine ⟨⟨k1, k2⟩, k3, fun p e R s m args below meth c H locs n0 s0 cells slots Q la C B P S e1 e2 e3 e4 L K => ?_⟩
  exact f p e R s m args below meth c H locs cells slots Q la C L (fun la' L' => k4 p e R s m args below meth c H locs n0 s0 cells slots Q la' C B P S e1 e2 e3 e4 L' K)
/-- a step that changes the heap, makes nothing -/
theorem x_heap {pc' : Nat} {st' : List Value} (k : Xj g M h1 pc' ls st' r h') (hn1 : hn h1 = hn h) (hs1 : hs h1 = hs h)
    (f : ∀ (p : Program) (e : Env) (R : Room) (s : State) (m : MethodId) (args : Array Value) (below : List Frame) (meth : Method) (c : Code) (H : Heap) (locs : List Loc) (cells slots : Nat) (Q : State → Prop) (la : Array Slot),
      Cx M p s m args meth c R → wB g s → wH g h H → va_S (wA g) s.heap H locs → cells ≤ R.cells → slots ≤ R.slots → lR g M ls la →
      (∀ H1 locs1, wH g h1 H1 → va_S (wA g) s.heap H1 locs1 → W p (g_l g) e R s m args below meth c H1 locs1 cells slots Q (F0 m pc' la (st'.map (cv g)))) → W p (g_l g) e R s m args below meth c H locs cells slots Q (F0 m pc la (st.map (cv g)))) : Xj g M h pc ls st r h' := by
  obtain ⟨⟨k1, k2⟩, k3, k4⟩ := k
  refine ⟨⟨by omega, by omega⟩, k3, fun p e R s m args below meth c H locs n0 s0 cells slots Q la C B P S e1 e2 e3 e4 L K => ?_⟩
  exact f p e R s m args below meth c H locs cells slots Q la C B P S (by omega) (by omega) L (fun H1 locs1 P1 S1 => k4 p e R s m args below meth c H1 locs1 n0 s0 cells slots Q la C B P1 S1 (by omega) (by omega) e3 e4 L K)
/-- a step that makes one cell of len slots -/
theorem x_made {pc' len : Nat} {st' : List Value} (k : Xj g M h1 pc' ls st' r h') (hn1 : hn h1 = hn h + 1) (hs1 : hs h1 = hs h + len)
    (f : ∀ (p : Program) (e : Env) (R : Room) (s : State) (m : MethodId) (args : Array Value) (below : List Frame) (meth : Method) (c : Code) (H : Heap) (locs : List Loc) (cells slots : Nat) (Q : State → Prop) (la : Array Slot),
      Cx M p s m args meth c R → wB g s → wH g h H → va_S (wA g) s.heap H locs → cells + 1 ≤ R.cells → slots + len ≤ R.slots → lR g M ls la →
      (∀ H1 locs1, wH g h1 H1 → va_S (wA g) s.heap H1 locs1 → W p (g_l g) e R s m args below meth c H1 locs1 (cells + 1) (slots + len) Q (F0 m pc' la (st'.map (cv g)))) → W p (g_l g) e R s m args below meth c H locs cells slots Q (F0 m pc la (st.map (cv g)))) : Xj g M h pc ls st r h' := by
  obtain ⟨⟨k1, k2⟩, k3, k4⟩ := k
  refine ⟨⟨by omega, by omega⟩, k3, fun p e R s m args below meth c H locs n0 s0 cells slots Q la C B P S e1 e2 e3 e4 L K => ?_⟩
  exact f p e R s m args below meth c H locs cells slots Q la C B P S (by omega) (by omega) L (fun H1 locs1 P1 S1 => k4 p e R s m args below meth c H1 locs1 n0 s0 (cells + 1) (slots + len) Q la C B P1 S1 (by omega) (by omega) e3 e4 L K)
end Rules
