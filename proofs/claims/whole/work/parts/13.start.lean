/-! THE CLAIM OUT OF ONE WALK OF THE LAW'S BODY. Your part is whole_start (and what it stands on); all else here is the same for every law, but numbers. -/
def R_law : String := "CanyonRaftsLaw"
def lw_P (b : Addr) (xs : List Int32) (args : Array Value) (s : State) : Prop := args = #[.ref b] ∧ s.IntsAt b xs ∧ xs.length ≤ 3072 ∧ (Jvm.Cond.and given_1 narrow_1).before args s = true
def lw_Q (_ : Array Value) (s : State) (o : Outcome) (t : State) : Prop := o = .returned (some (.int 1)) ∧ Framed s o t [] 600000 7302250
def lw_Z (below : List Frame) (a : Array Value) (s : State) : State → Prop := fun t => ∃ o, t.status = .running ∧ Ended t below o ∧ lw_Q a s o t
/-- the law's own end, with 1 on the stack, nothing written that was there before, its room as the claim has it -/
theorem lw_ret {p : Program} {l : Launch} {e : Env} {s : State} {m : MethodId} {below : List Frame} {meth : Method} {c : Code} {b : Nat} (hx : p.tables.exec = Jvm.exec) (hb : c.code = code) (hr : meth.sig.returnType = ret) (hlocks : meth.locks = false) {pc : Nat} {H : Heap} {ls : Array Slot} (hdg : decode code pc = .ok (.ireturn, 1)) : W p l e room_1 s m #[Value.ref b] below meth c H [] 600000 7302250 (lw_Z below #[Value.ref b] s) (F0 m pc ls [.int 1]) := by
  intro T hT X
  obtain ⟨fs, hret, hrun, hended, hW, hframe⟩ := X.leave (v := some (.int 1)) (hlocks := hlocks) (fun h => by rw [hr] at h; cases h)
  have hmeth' : T.vm.method? m = some meth := X.method'
  refine ⟨T.setFrames fs, ?_, .returned (some (.int 1)), hrun, hended, rfl, ⟨_, rfl⟩, hW, hframe⟩
  jvm_step X.here [X.here.top, hx, hb, hdg, hmeth', hr, ret, narrow_b1]
  (try refine ⟨rfl, ?_⟩); (try refine ⟨rfl, ?_⟩)
  first | (intro acts; rw [hret _ acts rfl rfl rfl]) | rw [hret _ _ rfl rfl rfl]
  exact Steps.refl _
/-- what holds at the law's entry: the machine, the code, the tables' words (any of lw_tbl by 'hts w (by decide +kernel)'), the script of L ints xs at the cell b, what the Statement gives of the start (any of its parts by flat_of_before) -/
def lw_At (p : Program) (s : State) (m : MethodId) (meth : Method) (c : Code) (b L : Nat) (xs : Nat → Int32) : Prop :=
  p.tables.exec = Jvm.exec ∧ c.code = code ∧ meth.sig.returnType = ret ∧ c.maxLocals = 4 ∧ s.vm.findClass R_law = some m.cls ∧ (∀ w ∈ lw_tbl, w.before #[Value.ref b] s = true) ∧ va_X b L xs s s.heap ∧ b < s.heap.size ∧ meth.locks = false ∧ (Jvm.Cond.and given_1 narrow_1).before #[Value.ref b] s = true

def h00 : AH := (0, 0, fun _ => (0, 0), fun _ _ => 0, fun _ _ => none)
/-- what is left to show of the law, in pure words -/
def PureLaw : Prop := ∀ (L : Nat) (xs : Nat → Int32), L ≤ 3072 → ∃ h' : AH, f_L_law L xs h00 = some (1, h') ∧ hn h' ≤ 600000 ∧ hs h' ≤ 7302250
theorem known9 {s : State} {args : Array Value} (hts : ∀ w ∈ tb, w.before args s = true) (l : List (Nat × Nat)) :
    (∀ e ∈ l, ∃ (q : vw_C) (ty : Nat → FieldType), cOk e.1 q ty ∧ Cond.instantiable q.1 e.2 ∈ tb) → ∃ (dC : Nat → ClassId) (dI : Nat → Nat → Nat), ∀ e ∈ l, ∀ q : vw_C, vwCl[e.1]? = some q → u_Kn s q.1 q.2.1 q.2.2 (dC e.1) (dI e.1) := by
  intro hl
  have key : ∀ k : Nat, ∃ (c : ClassId) (i : Nat → Nat), ∀ n, (k, n) ∈ l → ∀ q : vw_C, vwCl[k]? = some q → u_Kn s q.1 q.2.1 q.2.2 c i := by
    intro k
    by_cases hk : ∃ n, (k, n) ∈ l
    · obtain ⟨n, hn⟩ := hk
      obtain ⟨q, ty, hc, hi⟩ := hl _ hn
      obtain ⟨c, i, hK⟩ := u_known (C := q.1) (T := q.2.1) (N := q.2.2) hts hc.2.1 (hts _ hi)
      refine ⟨c, i, fun _ _ q' hq' => ?_⟩
      cases (hc.1.symm.trans hq')
      exact hK
    · exact ⟨0, fun _ => 0, fun n hn => absurd ⟨n, hn⟩ hk⟩
  refine ⟨fun k => (key k).choose, fun k => (key k).choose_spec.choose, fun e he q hq => (key e.1).choose_spec.choose_spec e.2 he q hq⟩
set_option maxHeartbeats 4000000 in
set_option maxRecDepth 100000 in
theorem start_of (pure : PureLaw) {p : Program} {e : Env} {s : State} {m : MethodId} {below : List Frame} {meth : Method} {c : Code} (l : Launch) {b L : Nat} {xs : Nat → Int32} (hL : L ≤ 3072) (C0 : lw_At p s m meth c b L xs) : W p l e room_1 s m #[Value.ref b] below meth c s.heap [] 0 0 (lw_Z below #[Value.ref b] s) (entryFrame m ([Value.ref b] : List Value).toArray 4) := by
  obtain ⟨hx, hb, hr, hml, hown, hts0, hX, hbl, hlocks, hgv⟩ := C0
  have hts : ∀ w ∈ tb, w.before #[Value.ref b] s = true := fun w hw => hts0 w (List.mem_filter.mp hw).1
  obtain ⟨dC, dI, hKn⟩ := known9 hts [(0, 3), (1, 3), (2, 4), (3, 5), (4, 9), (5, 3), (6, 3), (7, 7), (8, 13)] (by
    intro e he
    simp only [List.mem_cons, List.not_mem_nil, or_false] at he
    rcases he with rfl | rfl | rfl | rfl | rfl | rfl | rfl | rfl | rfl
    · obtain ⟨q, ty, h1, h2, -, -, h3, -⟩ := nl_7_30; exact ⟨q, ty, h1, h2 ▸ h3⟩
    · obtain ⟨q, ty, h1, h2, -, -, h3, -⟩ := nl_7_37; exact ⟨q, ty, h1, h2 ▸ h3⟩
    · obtain ⟨q, ty, h1, h2, -, -, h3, -⟩ := nl_1_9; exact ⟨q, ty, h1, h2 ▸ h3⟩
    · obtain ⟨q, ty, h1, h2, -, -, h3, -⟩ := nl_7_23; exact ⟨q, ty, h1, h2 ▸ h3⟩
    · obtain ⟨q, ty, h1, h2, -, -, h3, -⟩ := nl_7_7; exact ⟨q, ty, h1, h2 ▸ h3⟩
    · obtain ⟨q, ty, h1, h2, -, -, h3, -⟩ := nl_7_44; exact ⟨q, ty, h1, h2 ▸ h3⟩
    · obtain ⟨q, ty, h1, h2, -, -, h3, -⟩ := nl_7_16; exact ⟨q, ty, h1, h2 ▸ h3⟩
    · obtain ⟨q, ty, h1, h2, -, -, h3, -⟩ := nl_L_7; exact ⟨q, ty, h1, h2 ▸ h3⟩
    · obtain ⟨q, ty, h1, h2, -, -, h3, -⟩ := nl_L_10; exact ⟨q, ty, h1, h2 ▸ h3⟩)
  obtain ⟨cI, kI, pI', i1, i2, i3⟩ := Cond.arrayClass_spec (hts _ ac_int)
  obtain ⟨cZ, kZ, pZ, z1, z2, z3⟩ := Cond.arrayClass_spec (hts _ ac_boolean)
  have ao5 : (Cond.arrayOver (.object RX5)).before #[Value.ref b] s = true := hts0 _ (List.mem_of_getElem? (i := 213) (by decide +kernel))
  have ao2 : (Cond.arrayOver (.object RX2)).before #[Value.ref b] s = true := hts0 _ (List.mem_of_getElem? (i := 182) (by decide +kernel))
  obtain ⟨p5, c5, k5, a51, a52, a53, a54, a55⟩ := Cond.arrayOver_spec ao5
  obtain ⟨p2, c2, k2, a21, a22, a23, a24, a25⟩ := Cond.arrayOver_spec ao2
  have hA0 : ∀ a : Nat, a < s.heap.size → ¬ (s.heap.size ≤ a) := fun a ha => Nat.not_le.mpr ha
  have hf := flat_of_before _ hgv
  obtain ⟨ta, ht, hT⟩ := va_Tof (tm := .static "CanyonRafts" "ABOVE" "[I") (ty := .int) (N := 4) (f := abv) (A := fun q => s.heap.size ≤ q) (args := #[Value.ref b]) (s := s) (by decide) (hf _ (by decide +kernel)) (va_eqt (hf _ (by decide +kernel))) (by
      intro j hj
      rcases (show j = 0 ∨ j = 1 ∨ j = 2 ∨ j = 3 by omega) with rfl | rfl | rfl | rfl
      · exact va_eqt (hf (.eq (.elem (.static "CanyonRafts" "ABOVE" "[I") (.int 0)) (.int (-1))) (by decide +kernel))
      · exact va_eqt (hf (.eq (.elem (.static "CanyonRafts" "ABOVE" "[I") (.int 1)) (.int 0)) (by decide +kernel))
      · exact va_eqt (hf (.eq (.elem (.static "CanyonRafts" "ABOVE" "[I") (.int 2)) (.int 0)) (by decide +kernel))
      · exact va_eqt (hf (.eq (.elem (.static "CanyonRafts" "ABOVE" "[I") (.int 3)) (.int 1)) (by decide +kernel))) hA0
  have hZ : va_Z "CanyonRafts" "ABOVE" "[I" (.ref ta) (fun q => s.heap.size ≤ q) s s.heap := va_Zref (hts0 (.laysStatic "CanyonRafts" "ABOVE" "[I") (List.mem_of_getElem? (i := 373) (by decide +kernel))) (hts0 (.initialized "CanyonRafts") (List.mem_of_getElem? (i := 46) (by decide +kernel))) ht hA0
  obtain ⟨g, rfl⟩ : ∃ g : GT, g = (l, (dC, dI), (fun k => if k = 0 then cI else if k = 1 then cZ else if k = 2 then c5 else c2), (s.heap.size, b, ta, L), xs) := ⟨_, rfl⟩
  generalize hg : ((l, (dC, dI), (fun k => if k = 0 then cI else if k = 1 then cZ else if k = 2 then c5 else c2), (s.heap.size, b, ta, L), xs) : GT) = g
  have gl : g_l g = l := by rw [← hg]; rfl
  have gz : g_z g = s.heap.size := by rw [← hg]; rfl
  have gb : g_b g = b := by rw [← hg]; rfl
  have gn : g_n g = L := by rw [← hg]; rfl
  have gx : g_x g = xs := by rw [← hg]; rfl
  have hB : wB g s := by
    rw [← hg]
    refine ⟨⟨fun k q hq => ?_, fun k q hq => ?_⟩, hZ, hT, hX, hbl, Nat.le_refl _, fun q hq => ?_, ao5, ao2⟩
    · have hk : k < 9 := (List.getElem?_eq_some_iff.mp hq).1
      rcases (show k = 0 ∨ k = 1 ∨ k = 2 ∨ k = 3 ∨ k = 4 ∨ k = 5 ∨ k = 6 ∨ k = 7 ∨ k = 8 by omega) with rfl | rfl | rfl | rfl | rfl | rfl | rfl | rfl | rfl
      · exact hKn (0, 3) (by decide) q hq
      · exact hKn (1, 3) (by decide) q hq
      · exact hKn (2, 4) (by decide) q hq
      · exact hKn (3, 5) (by decide) q hq
      · exact hKn (4, 9) (by decide) q hq
      · exact hKn (5, 3) (by decide) q hq
      · exact hKn (6, 3) (by decide) q hq
      · exact hKn (7, 7) (by decide) q hq
      · exact hKn (8, 13) (by decide) q hq
    · have hk : k < 4 := (List.getElem?_eq_some_iff.mp hq).1
      rcases (show k = 0 ∨ k = 1 ∨ k = 2 ∨ k = 3 by omega) with rfl | rfl | rfl | rfl
      · cases hq; exact ⟨fun n z => ⟨(fun k h => by cases h), kI, i2, pI', i3⟩, i1⟩
      · cases hq; exact ⟨fun n z => ⟨(fun k h => by cases h), kZ, z2, pZ, z3⟩, z1⟩
      · cases hq; exact ⟨fun n z => ⟨(fun k h => by cases h), k5, a53, p5, a54⟩, k5, p5, a53, a54, a51, a55⟩
      · cases hq; exact ⟨fun n z => ⟨(fun k h => by cases h), k2, a23, p2, a24⟩, k2, p2, a23, a24, a21, a25⟩
    · refine va_Nw.of rfl (hts0 _ ?_)
      have hq2 : nwL.all (fun q => decide (Cond.methodLinkNest q.1 q.2.1 q.2.2.1 q.2.2.2 ∈ lw_tbl)) = true := by decide +kernel
      exact of_decide_eq_true (List.all_eq_true.mp hq2 q hq)
  have hH : wH g h00 s.heap := ⟨fun k q hk => by simp [cw, h00, hn] at hk, by rw [gz]; rfl⟩
  obtain ⟨h', hl', hc', hs'⟩ := pure L xs hL
  have hj := tm_L_law (g := g) (h := h00) (h' := h') (r := 1) (by rw [gn, gx]; exact hl')
  rw [entry_eq m [Value.ref b] (fun v hv => by rw [List.mem_singleton.mp hv]; rfl)]
  have hw := hj.2.2 p e room_1 s m #[Value.ref b] below meth c s.heap [] 0 0 0 0 (lw_Z below #[Value.ref b] s) (([Value.ref b].map Slot.val ++ List.replicate (4 - [Value.ref b].length) Slot.unset).toArray) ⟨hx, hb, hml, hown, hts, by decide, by decide, ?_⟩ hB hH va_S.rf rfl rfl (by show hn h' ≤ 600000 + 0; omega) (by show hs h' ≤ 7302250 + 0; omega) ?_ ?_
  · rw [gl] at hw
    exact hw
  · exact fun z => absurd z (by decide)
  · refine ⟨rfl, ?_, fun i v hi => ?_⟩
    · have := lv_wf_entry g [Value.retAddr 0] 3
      simpa [cv, gb] using this
    · match i, hi with
      | 0, hi => cases hi; show _ = some (Slot.val (Value.ref (g_b g))); rw [gb]; rfl
      | 1, hi => cases hi
      | 2, hi => cases hi
      | 3, hi => cases hi
      | k + 4, hi => simp at hi
  · intro H' locs' cells' slots' pc' la' P' S' e1 e2 hd
    rw [gl]
    refine va_forget (fun q hq => by have := S'.2.2 q hq; exact gz ▸ this) ?_
    refine W.widen (k := 600000) (n := 7302250) (by omega) (by omega) ?_
    exact lw_ret hx hb hr hlocks hd
