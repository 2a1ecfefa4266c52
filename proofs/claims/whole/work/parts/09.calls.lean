/-! a method's contract out of the judgement, and calls -/
def wsM (M : MT) : List Cond := Cond.code (m_y M) (m_c M) (m_l M) (m_r M) :: tb
theorem tblGood {w : Cond} (h : w ∈ tb) : (w.onTables && w.keeps) = true ∨ ∃ ty, w = .arrayClass ty := good_of_word (List.mem_filter.mp h).2
/-- what the tables say of a method: its code, its class -/
def mOk (M : MT) (n : Nat) : Prop := Cond.code (m_y M) (m_c M) (m_l M) (m_r M) ∈ tb ∧ Cond.initialized (m_y M).cls ∈ tb ∧ ((m_y M).cls ≠ "java/lang/invoke/MethodHandle" ∧ (m_y M).cls ≠ "java/lang/invoke/VarHandle" ∧ (parseMethodDescriptor (m_y M).desc).map (fun d => d.parameters.length) = some n) ∧ plainName (m_y M).cls = true
theorem wsM_good {M : MT} {n : Nat} (h : mOk M n) : GoodIn tb (wsM M) := by
  intro w hw
  rcases List.mem_cons.mp hw with rfl | hw
  · exact ⟨h.1, tblGood h.1⟩
  · exact ⟨hw, tblGood hw⟩
def Xm (g : GT) (M : MT) (as : List Value) (h : AH) (r : Option Value) (h1 : AH) : Prop :=
  (hn h ≤ hn h1 ∧ hs h ≤ hs h1) ∧
  Met (g_l g) (m_y M) (wsM M) { frames := m_f M, cells := hn h1 - hn h, slots := hs h1 - hs h, locals := m_o M } (va_Pc (as.map (cv g)) (fun U => wB g U ∧ wH g h U.heap))
    (fun _ st o t => o = .returned (r.map (cv g)) ∧ wH g h1 t.heap ∧ va_F (wA g) st t) (hn h1 - hn h) (hs h1 - hs h) (wA g)
theorem lv_wf_entry (g : GT) (as : List Value) (n : Nat) : lv_wf (((as.map (cv g)).map Slot.val ++ List.replicate n Slot.unset).toArray) := by
  have key : ∀ (i : Nat) (x : Slot), (((as.map (cv g)).map Slot.val ++ List.replicate n Slot.unset).toArray)[i]? = some x → x = .unset ∨ ∃ v, x = .val (cv g v) := by
    intro i x hx
    rw [List.getElem?_toArray] at hx
    rcases List.mem_append.mp (List.mem_of_getElem? hx) with hm | hm
    · obtain ⟨v, hv, rfl⟩ := List.mem_map.mp hm
      obtain ⟨u, -, rfl⟩ := List.mem_map.mp hv
      exact Or.inr ⟨u, rfl⟩
    · exact Or.inl (List.mem_replicate.mp hm).2
  refine ⟨fun i v hv hc => ?_, fun i hi => ?_⟩
  · rcases key i _ hv with h | ⟨u, h⟩
    · cases h
    · cases h
      rw [cv_cat] at hc
      cases hc
  · rcases key i _ hi with h | ⟨u, h⟩ <;> cases h
theorem xm_of {g : GT} {M : MT} {as : List Value} {h h1 : AH} {r : Option Value} {ls : List (Option Value)} {n : Nat} (hm : mOk M n) (hlen : as.length ≤ m_l M) (hls : as.map some ++ List.replicate (m_l M - as.length) none = ls) (k : Xj g M h 0 ls [] r h1) : Xm g M as h r h1 := by
  obtain ⟨k1, k2, k3⟩ := k
  refine ⟨k1, Met.ofW (cc := m_c M) (maxL := m_l M) (ret := m_r M) hm.2.2.2 rfl ?_⟩
  intro p e s m args below meth c s₁ B hml hv
  obtain ⟨rfl, hB, hH⟩ := hv
  have hts : ∀ w ∈ wsM M, w.before _ s = true := atoms_spec (ws := wsM M) B.pre
  have hlocks := B.notSynchronized
  have hr := B.returns
  rw [entry_eq m (as.map (cv g)) (fun v hv => by obtain ⟨u, -, rfl⟩ := List.mem_map.mp hv; exact cv_cat g u)]
  refine k3 p e _ s m _ below meth c s.heap [] (hn h) (hs h) 0 0 _ _ ⟨B.exec, B.bytes, hml, findClass_of_methodNamed B.named, fun w hw => hts w (List.mem_cons_of_mem _ hw), Nat.le_refl _, Nat.le_refl _, fun z => (name_of_methodNamed B.named B.method).1.trans z⟩ hB hH va_S.rf (Nat.zero_add _) (Nat.zero_add _) ?_ ?_ ?_ ?_
  · show hn h1 ≤ (hn h1 - hn h) + hn h
    omega
  · show hs h1 ≤ (hs h1 - hs h) + hs h
    omega
  · refine ⟨by simp; omega, lv_wf_entry g as _, fun i v hi => ?_⟩
    rw [← hls] at hi
    rw [List.getElem?_toArray]
    by_cases hl : i < as.length
    · rw [List.getElem?_append_left (by simpa using hl)] at hi
      rw [List.getElem?_append_left (by simpa using hl)]
      rw [List.getElem?_map] at hi
      simp only [List.getElem?_map]
      cases ha : as[i]? with
      | none => rw [ha] at hi; cases hi
      | some u => rw [ha] at hi; cases hi; rfl
    · rw [List.getElem?_append_right (by simpa using Nat.not_lt.mp hl)] at hi
      have := List.mem_of_getElem? hi
      simp at this
  · intro H' locs' cells' slots' pc' la' P' S' e1 e2 hd
    have ec : cells' = hn h1 - hn h := by omega
    have es : slots' = hs h1 - hs h := by omega
    subst ec; subst es
    cases r with
    | none =>
      exact W.vret B.exec B.bytes (hr.trans k2) (fun t ht hW => ⟨rfl, by rw [ht]; exact P', S'.F ht⟩) S'.2.2 hd
    | some v =>
      cases v with
      | int v =>
        obtain ⟨ty, hty, hnar⟩ := k2
        exact W.zret (ty := ty) B.exec B.bytes (hr.trans hty) hnar (fun t ht hW => ⟨rfl, by rw [ht]; exact P', S'.F ht⟩) S'.2.2 hd
      | _ => exact k2.elim
section Calls
variable {g : GT} {M M' : MT} {h h' h1 : AH} {pc : Nat} {ls ls' : List (Option Value)} {st st0 as : List Value} {r r1 : Option Value}
theorem x_callG (hm : Xm g M' as h r1 h1) (kk : Xj g M h1 (pc + 3) ls (r1.toList ++ st) r h')
    (f : ∀ (p : Program) (e : Env) (R : Room) (s : State) (m : MethodId) (args : Array Value) (below : List Frame) (meth : Method) (c : Code) (H : Heap) (locs : List Loc) (cells slots : Nat) (la : Array Slot),
      Cx M p s m args meth c R → wB g s → wH g h H → va_S (wA g) s.heap H locs → lR g M ls la → (cells + (hn h1 - hn h) ≤ R.cells ∧ slots + (hs h1 - hs h) ≤ R.slots) →
      va_Run p (g_l g) e R s m args below meth c H locs cells slots (hn h1 - hn h) (hs h1 - hs h) (F0 m pc la (st0.map (cv g))) (st.map (cv g)) (fun st1 o t => o = .returned (r1.map (cv g)) ∧ wH g h1 t.heap ∧ va_F (wA g) st1 t) (wA g)) : Xj g M h pc ls st0 r h' := by
  obtain ⟨⟨k1, k2⟩, k3, k4⟩ := kk
  obtain ⟨⟨m1, m2⟩, -⟩ := hm
  refine ⟨⟨by omega, by omega⟩, k3, fun p e R s m args below meth c H locs n0 s0 cells slots Q la C B P S e1 e2 e3 e4 L K => ?_⟩
  intro T hT X
  obtain ⟨v, st1, t, T', L1, h0, X', hL, ee1, ee2, ⟨hv, hw1, hF⟩, go⟩ := f p e R s m args below meth c H locs cells slots la C B P S L ⟨by omega, by omega⟩ T hT X
  cases hv
  obtain ⟨hz, hq⟩ := hF
  rw [h0] at hz hq
  have S1 : va_S (wA g) s.heap t.heap (locs ++ L1) := ⟨Nat.le_trans S.1 hz, fun q g1 g2 => by rw [hq q (Nat.lt_of_lt_of_le g1 S.1) g2]; exact S.2.1 q g1 g2, fun q hx => by
    rcases List.mem_append.mp hx with z | z
    · exact S.2.2 q z
    · exact hL q z⟩
  obtain ⟨t2, a1, b1⟩ := k4 p e R s m args below meth c t.heap (locs ++ L1) n0 s0 (cells + (hn h1 - hn h)) (slots + (hs h1 - hs h)) Q la C B hw1 S1 (by omega) (by omega) e3 e4 L K T' ee1 X'
  refine ⟨t2, go t2 ?_, b1⟩
  have es : (r1.toList ++ st).map (cv g) = (r1.map (cv g)).toList ++ st.map (cv g) := by cases r1 <;> rfl
  rw [es] at a1
  exact a1
theorem blind (Q : State → Prop) (hQ : ∀ (U : State) (gg : JFrame) (mk : MethodId) (a : Array Value), Q U → Q (U.calling gg mk a)) (av : List Value) : FrameBlind (va_Pc av Q) := fun a U gg mk q => ⟨q.1, hQ U gg mk a q.2⟩
theorem blindB (h : AH) (av : List Value) : FrameBlind (va_Pc av (fun U => wB g U ∧ wH g h U.heap)) := blind _ (fun U gg mk a q => ⟨q.1.moved (State.WarmedH.refl U) (locs := []) ⟨Nat.le_refl _, fun _ _ _ => rfl, fun _ z => by cases z⟩, q.2⟩) av
/-- what a caller's pool entry says of a call: direct, or to a nest mate -/
def lkD (own : String) (idx : Nat) (M' : MT) : Prop := Cond.methodLink own idx (m_y M') ∈ tb
def lkN (own : String) (idx : Nat) (M' : MT) : Prop := (own, idx, m_y M', RX7) ∈ nwL
def rmOk (M M' : MT) : Prop := m_f M' + 1 ≤ m_f M ∧ 8 + (m_l M' + 11) + m_o M' ≤ m_o M
theorem x_callS {idx n : Nat} (hd : decode (m_c M) pc = .ok (.invokestatic idx, 3)) (ho : mOk M' n) (hl : lkD (m_y M).cls idx M') (hst : Cond.static (m_y M') ∈ tb) (hr : rmOk M M') (hn1 : as.length = n) (hw : st.length ≤ 8) (hs0 : as.reverse ++ st = st0) (hm : Xm g M' as h r1 h1) (kk : Xj g M h1 (pc + 3) ls (r1.toList ++ st) r h') : Xj g M h pc ls st0 r h' := by
  refine x_callG hm kk (fun p e R s m args below meth c H locs cells slots la C B P S L hfit => ?_)
  have hts := C.2.2.2.2.1
  refine va_runS (As := as.map (cv g)) (n := n) ⟨C.1, C.2.1, C.2.2.1, C.2.2.2.1, hts⟩ hm.2 ⟨callB_of n hts (wsM_good ho) rfl rfl rfl (hts _ ho.2.1) (hts _ hl) ho.2.2.1 ⟨Nat.le_trans hr.1 C.2.2.2.2.2.1, Nat.le_trans hr.2 C.2.2.2.2.2.2.1⟩, hts _ hst⟩ ⟨blindB h _, fun U hU hW => ⟨rfl, B.moved hW (hU ▸ S), hU ▸ P⟩⟩ rfl (by simpa using hn1) L.1 ?_ (by show 2 * 0 + _ ≤ 8; rw [cat_sum]; omega) hd hfit
  rw [← hs0]; simp
theorem x_callSN {idx n : Nat} (hd : decode (m_c M) pc = .ok (.invokestatic idx, 3)) (ho : mOk M' n) (hl : lkN (m_y M).cls idx M') (hst : Cond.static (m_y M') ∈ tb) (hr : rmOk M M') (hn1 : as.length = n) (hw : st.length ≤ 8) (hs0 : as.reverse ++ st = st0) (hm : Xm g M' as h r1 h1) (kk : Xj g M h1 (pc + 3) ls (r1.toList ++ st) r h') : Xj g M h pc ls st0 r h' := by
  refine x_callG hm kk (fun p e R s m args below meth c H locs cells slots la C B P S L hfit => ?_)
  have hts := C.2.2.2.2.1
  refine va_runSN (As := as.map (cv g)) (n := n) ⟨C.1, C.2.1, C.2.2.1, C.2.2.2.1, hts⟩ hm.2 ⟨va_cnB n hts (wsM_good ho) rfl rfl rfl (B.2.2.2.2.2.2.1 _ hl) (hts _ ho.2.1) ho.2.2.1 ⟨Nat.le_trans hr.1 C.2.2.2.2.2.1, Nat.le_trans hr.2 C.2.2.2.2.2.2.1⟩, hts _ hst, trivial⟩ ⟨blindB h _, fun U hU hW => ⟨rfl, B.moved hW (hU ▸ S), hU ▸ P⟩⟩ rfl (by simpa using hn1) L.1 ?_ (by show 2 * 0 + _ ≤ 8; rw [cat_sum]; omega) hd hfit
  rw [← hs0]; simp
theorem x_callI {idx n a : Nat} (hd : decode (m_c M) pc = .ok (.invokespecial idx, 3)) (ho : mOk M' n) (hl : lkD (m_y M).cls idx M') (hin : Cond.instanceMethod (m_y M') ∈ tb) (hini : (m_y M').name = "<init>") (hvd : m_r M' = none) (hr : rmOk M M') (hn1 : as.length = n) (hw : st.length ≤ 8) (hs0 : as.reverse ++ va_rf (some a) :: st = st0) (hm : Xm g M' (va_rf (some a) :: as) h r1 h1) (kk : Xj g M h1 (pc + 3) ls (r1.toList ++ st) r h') : Xj g M h pc ls st0 r h' := by
  refine x_callG hm kk (fun p e R s m args below meth c H locs cells slots la C B P S L hfit => ?_)
  have hts := C.2.2.2.2.1
  have hcb := callB_of (R := R) (own := (m_y M).cls) (index := idx) (rm := { frames := m_f M', cells := hn h1 - hn h, slots := hs h1 - hs h, locals := m_o M' }) n hts (wsM_good ho) rfl rfl rfl (hts _ ho.2.1) (hts _ hl) ho.2.2.1 ⟨Nat.le_trans hr.1 C.2.2.2.2.2.1, Nat.le_trans hr.2 C.2.2.2.2.2.2.1⟩
  rw [hvd] at hcb
  refine va_runI (As := as.map (cv g)) (b := g_z g + a) (n := n) ⟨C.1, C.2.1, C.2.2.1, C.2.2.2.1, hts⟩ hm.2 ⟨hcb, hini, hts _ hin⟩ ⟨blindB h _, fun U hU hW => ⟨rfl, B.moved hW (hU ▸ S), hU ▸ P⟩⟩ rfl (by simpa using hn1) L.1 ?_ (by show 2 * 0 + _ ≤ 8; rw [cat_sum]; omega) hd hfit
  rw [← hs0]; simp [va_rf, cv]
theorem x_callIN {idx n a : Nat} (hd : decode (m_c M) pc = .ok (.invokespecial idx, 3)) (ho : mOk M' n) (hl : lkN (m_y M).cls idx M') (hin : Cond.instanceMethod (m_y M') ∈ tb) (hini : (m_y M').name = "<init>") (hvd : m_r M' = none) (hr : rmOk M M') (hn1 : as.length = n) (hw : st.length ≤ 8) (hs0 : as.reverse ++ va_rf (some a) :: st = st0) (hm : Xm g M' (va_rf (some a) :: as) h r1 h1) (kk : Xj g M h1 (pc + 3) ls (r1.toList ++ st) r h') : Xj g M h pc ls st0 r h' := by
  refine x_callG hm kk (fun p e R s m args below meth c H locs cells slots la C B P S L hfit => ?_)
  have hts := C.2.2.2.2.1
  have hcb := va_cnB (R := R) (own := (m_y M).cls) (index := idx) (host := RX7) (rm := { frames := m_f M', cells := hn h1 - hn h, slots := hs h1 - hs h, locals := m_o M' }) n hts (wsM_good ho) rfl rfl rfl (B.2.2.2.2.2.2.1 _ hl) (hts _ ho.2.1) ho.2.2.1 ⟨Nat.le_trans hr.1 C.2.2.2.2.2.1, Nat.le_trans hr.2 C.2.2.2.2.2.2.1⟩
  rw [hvd] at hcb
  refine va_runIN (As := as.map (cv g)) (b := g_z g + a) (n := n) ⟨C.1, C.2.1, C.2.2.1, C.2.2.2.1, hts⟩ hm.2 ⟨hcb, hini, hts _ hin⟩ ⟨blindB h _, fun U hU hW => ⟨rfl, B.moved hW (hU ▸ S), hU ▸ P⟩⟩ rfl (by simpa using hn1) L.1 ?_ (by show 2 * 0 + _ ≤ 8; rw [cat_sum]; omega) hd hfit
  rw [← hs0]; simp [va_rf, cv]
/-- the receiver is an object of the class ci -/
def isO (h : AH) (a : Option Nat) (ci : Nat) : Option Unit := match a with
  | none => none
  | some q => if q < hn h ∧ (hS h q).1 = ci + 4 then some () else none
theorem x_callV {idx n ci : Nat} {a : Option Nat} {u : Unit} (hd : decode (m_c M) pc = .ok (.invokevirtual idx, 3)) (ho : mOk M' n) (hl : lkD (m_y M).cls idx M') (hin : Cond.instanceMethod (m_y M') ∈ tb) (hsel : Cond.selects (m_y M').cls (m_y M') (m_y M') ∈ tb) (hci : (vwCl[ci]?).map (fun q => q.1) = some (m_y M').cls) (hr : rmOk M M') (hn1 : as.length = n) (hw : st.length ≤ 8) (hs0 : as.reverse ++ va_rf a :: st = st0) (hi : isO h a ci = some u) (hm : Xm g M' (va_rf a :: as) h r1 h1) (kk : Xj g M h1 (pc + 3) ls (r1.toList ++ st) r h') : Xj g M h pc ls st0 r h' := by
  cases a with
  | none => cases hi
  | some b =>
    obtain ⟨⟨b1, b2⟩, -⟩ := if_some hi
    refine x_callG hm kk (fun p e R s m args below meth c H locs cells slots la C B P S L hfit => ?_)
    have hts := C.2.2.2.2.1
    cases hq : vwCl[ci]? with
    | none => rw [hq] at hci; cases hci
    | some q =>
      rw [hq] at hci
      have hC : q.1 = (m_y M').cls := Option.some.inj hci
      refine va_runV (As := as.map (cv g)) (b := g_z g + b) (C := (m_y M').cls) (n := n) ⟨C.1, C.2.1, C.2.2.1, C.2.2.2.1, hts⟩ hm.2 ⟨callB_of n hts (wsM_good ho) rfl rfl rfl (hts _ ho.2.1) (hts _ hl) ho.2.2.1 ⟨Nat.le_trans hr.1 C.2.2.2.2.2.1, Nat.le_trans hr.2 C.2.2.2.2.2.2.1⟩, hts _ hin, hts _ hsel⟩ ⟨blindB h _, ?_, fun U hU hW => ⟨rfl, B.moved hW (hU ▸ S), hU ▸ P⟩⟩ rfl (by simpa using hn1) L.1 ?_ (by show 2 * 0 + _ ≤ 8; rw [cat_sum]; omega) hd hfit
      · rw [← hC]
        exact va_recv B.1 P.1 hq ((cw_at b1).trans (by rw [ce_obj b2 hq]))
      · rw [← hs0]; simp [va_rf, cv]
end Calls
def maskL (ls : List (Option Value)) (b : List Bool) : List (Option Value) := ls.zipWith (fun o b => match b with
  | true => o
  | false => none) b
def bd {α γ : Type} (x : Option α) (f : α → Option γ) : Option γ := match x with
  | none => none
  | some a => f a
def bd2 {α β γ : Type} (x : Option (α × β)) (f : α → β → Option γ) : Option γ := match x with
  | none => none
  | some a => f a.1 a.2
theorem bd_s {α γ : Type} {x : Option α} {f : α → Option γ} {y : γ} (h : bd x f = some y) : ∃ a, x = some a ∧ f a = some y := by
  cases x with
  | none => cases h
  | some a => exact ⟨a, rfl, h⟩
theorem bd2_s {α β γ : Type} {x : Option (α × β)} {f : α → β → Option γ} {y : γ} (h : bd2 x f = some y) : ∃ a b, x = some (a, b) ∧ f a b = some y := by
  cases x with
  | none => cases h
  | some a => exact ⟨a.1, a.2, rfl, h⟩
theorem it_t {α : Type} {c : Prop} [Decidable c] {a b : Option α} {s : Option α} (hc : c) (h : (if c then a else b) = s) : a = s := by rw [if_pos hc] at h; exact h
theorem it_f {α : Type} {c : Prop} [Decidable c] {a b : Option α} {s : Option α} (hc : ¬ c) (h : (if c then a else b) = s) : b = s := by rw [if_neg hc] at h; exact h
theorem it_n {α : Type} {c : Prop} [Decidable c] {a b : Option α} {s : Option α} (hc : c) (h : (if ¬ c then a else b) = s) : b = s := by rw [if_neg (fun q => q hc)] at h; exact h
def dv (x y : Int32) : Option Int32 := if ¬ y = 0 then some (x / y) else none
def rm (x y : Int32) : Option Int32 := if ¬ y = 0 then some (x - x / y * y) else none
def bl (x : Int32) : Option Int32 := if x = 0 ∨ x = 1 then some x else none
def nO (h : AH) (ci N : Nat) : Option AH := some (nC h (ci + 4) N)
section More
variable {g : GT} {M M' : MT} {h h' h1 : AH} {pc : Nat} {ls ls' : List (Option Value)} {st st0 as : List Value} {r r1 : Option Value}
theorem x_mask (b : List Bool) (hm : maskL ls b = ls') (k : Xj g M h pc ls' st r h') : Xj g M h pc ls st r h' := by
  obtain ⟨k1, k2, k3⟩ := k
  refine ⟨k1, k2, fun p e R s m args below meth c H locs n0 s0 cells slots Q la C B P S e1 e2 e3 e4 L K => ?_⟩
  refine k3 p e R s m args below meth c H locs n0 s0 cells slots Q la C B P S e1 e2 e3 e4 ⟨L.1, L.2.1, fun i v hv => L.2.2 i v ?_⟩ K
  rw [← hm, maskL, List.getElem?_zipWith] at hv
  split at hv
  · rename_i o b' ho hb
    cases b' with
    | true => cases hv; exact ho
    | false => cases hv
  · cases hv
theorem x_dv {x y v : Int32} (hd : decode (m_c M) pc = .ok (.idiv, 1)) (hg : dv x y = some v) (k : Xj g M h (pc + 1) ls (.int v :: st) r h') : Xj g M h pc ls (.int y :: .int x :: st) r h' := by
  obtain ⟨hy, rfl⟩ := if_some hg
  exact x_idiv hd hy k
theorem x_rm {x y v : Int32} (hd : decode (m_c M) pc = .ok (.irem, 1)) (hg : rm x y = some v) (k : Xj g M h (pc + 1) ls (.int v :: st) r h') : Xj g M h pc ls (.int y :: .int x :: st) r h' := by
  obtain ⟨hy, rfl⟩ := if_some hg
  exact x_irem hd hy k
theorem x_nO {idx ci N : Nat} (hd : decode (m_c M) pc = .ok (.new idx, 3)) (hl : nL (m_y M).cls idx ci N) (hg : nO h ci N = some h1) (kk : Xj g M h1 (pc + 3) ls (va_rf (some (hn h)) :: st) r h') : Xj g M h pc ls st r h' := by
  cases hg
  exact x_new hd hl kk
theorem x_reti {v : Int32} (hd : decode (m_c M) pc = .ok (.ireturn, 1)) (hr : m_r M = some .int) : Xj g M h pc ls [.int v] (some (.int v)) h := x_ret hd ⟨.int, hr, rfl⟩
theorem x_retz {v : Int32} (hd : decode (m_c M) pc = .ok (.ireturn, 1)) (hr : m_r M = some .boolean) (hv : v = 0 ∨ v = 1) : Xj g M h pc ls [.int v] (some (.int v)) h := x_ret hd ⟨.boolean, hr, by rcases hv with rfl | rfl <;> rfl⟩
theorem bl_s {x v : Int32} (hg : bl x = some v) : (v = 0 ∨ v = 1) ∧ x = v := by
  obtain ⟨hy, rfl⟩ := if_some hg
  exact ⟨hy, rfl⟩
theorem x_cSi {idx n : Nat} {v : Int32} (hd : decode (m_c M) pc = .ok (.invokestatic idx, 3)) (ho : mOk M' n) (hl : lkD (m_y M).cls idx M') (hst : Cond.static (m_y M') ∈ tb) (hr : rmOk M M') (hn1 : as.length = n) (hw : st.length ≤ 8) (hs0 : as.reverse ++ st = st0) (hm : Xm g M' as h (some (.int v)) h1) (kk : Xj g M h1 (pc + 3) ls (.int v :: st) r h') : Xj g M h pc ls st0 r h' := x_callS hd ho hl hst hr hn1 hw hs0 hm kk
theorem x_cSv {idx n : Nat} (hd : decode (m_c M) pc = .ok (.invokestatic idx, 3)) (ho : mOk M' n) (hl : lkD (m_y M).cls idx M') (hst : Cond.static (m_y M') ∈ tb) (hr : rmOk M M') (hn1 : as.length = n) (hw : st.length ≤ 8) (hs0 : as.reverse ++ st = st0) (hm : Xm g M' as h none h1) (kk : Xj g M h1 (pc + 3) ls st r h') : Xj g M h pc ls st0 r h' := x_callS hd ho hl hst hr hn1 hw hs0 hm kk
theorem x_cNi {idx n : Nat} {v : Int32} (hd : decode (m_c M) pc = .ok (.invokestatic idx, 3)) (ho : mOk M' n) (hl : lkN (m_y M).cls idx M') (hst : Cond.static (m_y M') ∈ tb) (hr : rmOk M M') (hn1 : as.length = n) (hw : st.length ≤ 8) (hs0 : as.reverse ++ st = st0) (hm : Xm g M' as h (some (.int v)) h1) (kk : Xj g M h1 (pc + 3) ls (.int v :: st) r h') : Xj g M h pc ls st0 r h' := x_callSN hd ho hl hst hr hn1 hw hs0 hm kk
theorem x_cI {idx n a : Nat} (hd : decode (m_c M) pc = .ok (.invokespecial idx, 3)) (ho : mOk M' n) (hl : lkD (m_y M).cls idx M') (hin : Cond.instanceMethod (m_y M') ∈ tb) (hini : (m_y M').name = "<init>") (hvd : m_r M' = none) (hr : rmOk M M') (hn1 : as.length = n) (hw : st.length ≤ 8) (hs0 : as.reverse ++ va_rf (some a) :: st = st0) (hm : Xm g M' (va_rf (some a) :: as) h none h1) (kk : Xj g M h1 (pc + 3) ls st r h') : Xj g M h pc ls st0 r h' := x_callI hd ho hl hin hini hvd hr hn1 hw hs0 hm kk
theorem x_cIN {idx n a : Nat} (hd : decode (m_c M) pc = .ok (.invokespecial idx, 3)) (ho : mOk M' n) (hl : lkN (m_y M).cls idx M') (hin : Cond.instanceMethod (m_y M') ∈ tb) (hini : (m_y M').name = "<init>") (hvd : m_r M' = none) (hr : rmOk M M') (hn1 : as.length = n) (hw : st.length ≤ 8) (hs0 : as.reverse ++ va_rf (some a) :: st = st0) (hm : Xm g M' (va_rf (some a) :: as) h none h1) (kk : Xj g M h1 (pc + 3) ls st r h') : Xj g M h pc ls st0 r h' := x_callIN hd ho hl hin hini hvd hr hn1 hw hs0 hm kk
theorem x_cVi {idx n ci : Nat} {a : Option Nat} {u : Unit} {v : Int32} (hd : decode (m_c M) pc = .ok (.invokevirtual idx, 3)) (ho : mOk M' n) (hl : lkD (m_y M).cls idx M') (hin : Cond.instanceMethod (m_y M') ∈ tb) (hsel : Cond.selects (m_y M').cls (m_y M') (m_y M') ∈ tb) (hci : (vwCl[ci]?).map (fun q => q.1) = some (m_y M').cls) (hr : rmOk M M') (hn1 : as.length = n) (hw : st.length ≤ 8) (hs0 : as.reverse ++ va_rf a :: st = st0) (hi : isO h a ci = some u) (hm : Xm g M' (va_rf a :: as) h (some (.int v)) h1) (kk : Xj g M h1 (pc + 3) ls (.int v :: st) r h') : Xj g M h pc ls st0 r h' := x_callV hd ho hl hin hsel hci hr hn1 hw hs0 hi hm kk
theorem x_cVv {idx n ci : Nat} {a : Option Nat} {u : Unit} (hd : decode (m_c M) pc = .ok (.invokevirtual idx, 3)) (ho : mOk M' n) (hl : lkD (m_y M).cls idx M') (hin : Cond.instanceMethod (m_y M') ∈ tb) (hsel : Cond.selects (m_y M').cls (m_y M') (m_y M') ∈ tb) (hci : (vwCl[ci]?).map (fun q => q.1) = some (m_y M').cls) (hr : rmOk M M') (hn1 : as.length = n) (hw : st.length ≤ 8) (hs0 : as.reverse ++ va_rf a :: st = st0) (hi : isO h a ci = some u) (hm : Xm g M' (va_rf a :: as) h none h1) (kk : Xj g M h1 (pc + 3) ls st r h') : Xj g M h pc ls st0 r h' := x_callV hd ho hl hin hsel hci hr hn1 hw hs0 hi hm kk
/-- a switch over 0 .. n-1 -/
theorem x_tabK {dflt hi : Int} {offs : Array Int} {len tgt : Nat} {x k : Int32} {off : Int} (hd : decode (m_c M) pc = .ok (.tableswitch dflt 0 hi offs, len)) (hx : x = k) (h1 : ¬ k.toInt < 0) (h2 : ¬ hi < k.toInt) (ho : offs[(k.toInt - 0).toNat]? = some off) (ht : (pc : Int) + off = (tgt : Int)) (kk : Xj g M h tgt ls st r h') : Xj g M h pc ls (.int x :: st) r h' := by
  subst hx
  exact x_tabIn hd h1 h2 ho ht kk
theorem x_tabD {dflt : Int} {offs : Array Int} {len tgt n : Nat} {x : Int32} (hd : decode (m_c M) pc = .ok (.tableswitch dflt 0 (n : Int) offs, len)) (hx : ∀ k : Nat, k ≤ n → ¬ x = Int32.ofNat k) (hn1 : n < 1000) (ht : (pc : Int) + dflt = (tgt : Int)) (kk : Xj g M h tgt ls st r h') : Xj g M h pc ls (.int x :: st) r h' := by
  refine x_tabOut hd ?_ ht kk
  by_cases h0 : x.toInt < 0
  · exact Or.inl h0
  · refine Or.inr (Int.not_le.mp fun hle => ?_)
    have hk : x = Int32.ofNat x.toInt.toNat := by
      apply Int32.toInt_inj.mp
      rw [Int32.toInt_ofNat_of_lt (by omega)]
      omega
    exact hx x.toInt.toNat (by omega) hk
theorem x_lkK {dflt : Int} {ps : Array (Int × Int)} {len tgt : Nat} {x k : Int32} {off : Int} (hd : decode (m_c M) pc = .ok (.lookupswitch dflt ps, len)) (hx : x = k) (hp : (ps.toList.zip (ps.toList.drop 1)).all (fun (a, next) => a.1 < next.1) = true) (ho : Op.lookupswitch.offset ps.toList dflt k.toInt = off) (ht : (pc : Int) + off = (tgt : Int)) (kk : Xj g M h tgt ls st r h') : Xj g M h pc ls (.int x :: st) r h' := by
  subst hx
  exact x_lookup hd hp ho ht kk
end More
/-- more rounds than any loop takes -/
def NN : Nat := 20000
