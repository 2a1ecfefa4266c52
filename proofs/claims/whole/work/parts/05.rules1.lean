section Rules1
variable {g : GT} {M : MT} {h h' : AH} {pc : Nat} {ls ls' : List (Option Value)} {st : List Value} {r : Option Value}
theorem x_iconst {n : Int} {v : Int32} (hd : decode (m_c M) pc = .ok (.iconst n, 1)) (hv : Int32.ofInt n = v) (k : Xj g M h (pc + 1) ls (.int v :: st) r h') : Xj g M h pc ls st r h' :=
  x_one k (fun p e R s m args below meth c H locs cells slots Q la C _ _ _ _ _ _ w => lv_iconst C.1 C.2.1 hd hv w)
theorem x_bipush {n : Int} {v : Int32} (hd : decode (m_c M) pc = .ok (.bipush n, 2)) (hv : (Int8.ofInt n).toInt32 = v) (k : Xj g M h (pc + 2) ls (.int v :: st) r h') : Xj g M h pc ls st r h' :=
  x_one k (fun p e R s m args below meth c H locs cells slots Q la C _ _ _ _ _ _ w => lv_bipush C.1 C.2.1 hd hv w)
theorem x_sipush {n : Int} {v : Int32} (hd : decode (m_c M) pc = .ok (.sipush n, 3)) (hv : (Int16.ofInt n).toInt32 = v) (k : Xj g M h (pc + 3) ls (.int v :: st) r h') : Xj g M h pc ls st r h' :=
  x_one k (fun p e R s m args below meth c H locs cells slots Q la C _ _ _ _ _ _ w => lv_sipush C.1 C.2.1 hd hv w)
theorem x_ldc {n : Nat} {v : Int32} (hd : decode (m_c M) pc = .ok (.ldc n, 2)) (hw : Jvm.Cond.constant (m_y M).cls n v ∈ tb) (k : Xj g M h (pc + 2) ls (.int v :: st) r h') : Xj g M h pc ls st r h' :=
  x_one k (fun p e R s m args below meth c H locs cells slots Q la C _ _ _ _ _ _ w => lv_ldc C.1 C.2.1 C.2.2.2.1 (C.2.2.2.2.1 _ hw) hd w)
theorem x_iload_n {i : Fin 4} {x : Int32} (hd : decode (m_c M) pc = .ok (.iload_n i, 1)) (hl : ls[i.val]? = some (some (.int x))) (k : Xj g M h (pc + 1) ls (.int x :: st) r h') : Xj g M h pc ls st r h' :=
  x_one k (fun p e R s m args below meth c H locs cells slots Q la C _ _ _ _ _ L w => lv_iload_n C.1 C.2.1 hd rfl (L.2.2 _ _ hl) w)
theorem x_iload {i : Nat} {x : Int32} (hd : decode (m_c M) pc = .ok (.iload i, 2)) (hl : ls[i]? = some (some (.int x))) (k : Xj g M h (pc + 2) ls (.int x :: st) r h') : Xj g M h pc ls st r h' :=
  x_one k (fun p e R s m args below meth c H locs cells slots Q la C _ _ _ _ _ L w => lv_iload C.1 C.2.1 hd (L.2.2 _ _ hl) w)
theorem x_aload_n {i : Fin 4} {a : Option Nat} (hd : decode (m_c M) pc = .ok (.aload_n i, 1)) (hl : ls[i.val]? = some (some (va_rf a))) (k : Xj g M h (pc + 1) ls (va_rf a :: st) r h') : Xj g M h pc ls st r h' :=
  x_one k (fun p e R s m args below meth c H locs cells slots Q la C _ _ _ _ _ L w => by
    cases a with
    | none => exact lv_aload_nN C.1 C.2.1 hd rfl (L.2.2 _ _ hl) w
    | some q => exact lv_aload_n C.1 C.2.1 hd rfl (L.2.2 _ _ hl) w)
theorem x_aload {i : Nat} {a : Option Nat} (hd : decode (m_c M) pc = .ok (.aload i, 2)) (hl : ls[i]? = some (some (va_rf a))) (k : Xj g M h (pc + 2) ls (va_rf a :: st) r h') : Xj g M h pc ls st r h' :=
  x_one k (fun p e R s m args below meth c H locs cells slots Q la C _ _ _ _ _ L w => by
    cases a with
    | none => exact lv_aloadN C.1 C.2.1 hd (L.2.2 _ _ hl) w
    | some q => exact lv_aload C.1 C.2.1 hd (L.2.2 _ _ hl) w)
theorem x_aloadS {i : Fin 4} (hd : decode (m_c M) pc = .ok (.aload_n i, 1)) (hl : ls[i.val]? = some (some (.retAddr 0))) (k : Xj g M h (pc + 1) ls (.retAddr 0 :: st) r h') : Xj g M h pc ls st r h' :=
  x_one k (fun p e R s m args below meth c H locs cells slots Q la C _ _ _ _ _ L w => lv_aload_n C.1 C.2.1 hd rfl (L.2.2 _ _ hl) w)
theorem x_null (hd : decode (m_c M) pc = .ok (.aconst_null, 1)) (k : Xj g M h (pc + 1) ls (va_rf none :: st) r h') : Xj g M h pc ls st r h' :=
  x_one k (fun p e R s m args below meth c H locs cells slots Q la C _ _ _ _ _ _ w => lv_null C.1 C.2.1 hd w)
theorem lR_set {la la' : Array Slot} {i : Nat} {v : Value} (L : lR g M ls la) (hi : i < m_l M) (hst : storeLocals la i (cv g v) = some la') (hw : lv_wf la') (hz : la'.size = la.size) (ho : ∀ j, j ≠ i → la'[j]? = la[j]?) (hv : la'[i]? = some (.val (cv g v))) : lR g M (ls.set i (some v)) la' := by
  refine ⟨hz.trans L.1, hw, fun j w hj => ?_⟩
  by_cases e : j = i
  · subst e
    rw [List.getElem?_set] at hj
    simp only [if_true] at hj
    split at hj
    · cases hj; exact hv
    · cases hj
  · rw [List.getElem?_set_ne (Ne.symm e)] at hj
    rw [ho j e]
    exact L.2.2 j w hj
/-- the listed locals, as the kit lists them -/
def lsA (g : GT) (ls : List (Option Value)) : List (Nat × Value) := (List.range ls.length).filterMap (fun i => match ls[i]? with
  | some (some v) => some (i, cv g v)
  | _ => none)
theorem lsA_mem {i : Nat} {v : Value} (hi : ls[i]? = some (some v)) : (i, cv g v) ∈ lsA g ls := by
  refine List.mem_filterMap.mpr ⟨i, List.mem_range.mpr (List.getElem?_eq_some_iff.mp hi).1, ?_⟩
  rw [hi]
theorem lsA_of {q : Nat × Value} (hq : q ∈ lsA g ls) : ∃ v, ls[q.1]? = some (some v) ∧ q.2 = cv g v := by
  obtain ⟨i, -, hi⟩ := List.mem_filterMap.mp hq
  split at hi
  · rename_i v hv
    cases hi
    exact ⟨v, hv, rfl⟩
  · cases hi
theorem lR_has {la : Array Slot} (L : lR g M ls la) : lv_has la (m_l M) (lsA g ls) := by
  refine ⟨L.1, L.2.1, fun q hq => ?_⟩
  obtain ⟨v, h1, h2⟩ := lsA_of hq
  rw [h2]
  exact L.2.2 _ _ h1
theorem lR_back {la' : Array Slot} {i : Nat} {v : Value} (hh : lv_has la' (m_l M) ((i, cv g v) :: (lsA g ls).filter (fun q => !(q.1 == i) && !(q.1 + 1 == i && q.2.category == 2)))) : lR g M (ls.set i (some v)) la' := by
  refine ⟨hh.1, hh.2.1, fun j w hj => ?_⟩
  by_cases e : j = i
  · subst e
    rw [List.getElem?_set] at hj
    simp only [if_true] at hj
    split at hj
    · cases hj
      exact hh.2.2 (j, cv g v) List.mem_cons_self
    · cases hj
  · rw [List.getElem?_set_ne (Ne.symm e)] at hj
    refine hh.2.2 (j, cv g w) (List.mem_cons_of_mem _ (List.mem_filter.mpr ⟨lsA_mem hj, ?_⟩))
    simp [e, cv_cat]
theorem x_istore_n {i : Fin 4} {x : Int32} (hd : decode (m_c M) pc = .ok (.istore_n i, 1)) (hi : i.val < m_l M) (hl : ls.set i.val (some (.int x)) = ls') (k : Xj g M h (pc + 1) ls' st r h') : Xj g M h pc ls (.int x :: st) r h' :=
  x_loc k (fun p e R s m args below meth c H locs cells slots Q la C L w => lv_istore_n C.1 C.2.1 hd rfl (lR_has L) hi rfl (fun la' hh => w la' (hl ▸ lR_back (v := .int x) hh)))
theorem x_istore {i : Nat} {x : Int32} (hd : decode (m_c M) pc = .ok (.istore i, 2)) (hi : i < m_l M) (hl : ls.set i (some (.int x)) = ls') (k : Xj g M h (pc + 2) ls' st r h') : Xj g M h pc ls (.int x :: st) r h' :=
  x_loc k (fun p e R s m args below meth c H locs cells slots Q la C L w => lv_istore C.1 C.2.1 hd (lR_has L) hi rfl (fun la' hh => w la' (hl ▸ lR_back (v := .int x) hh)))
theorem x_astore_n {i : Fin 4} {a : Option Nat} (hd : decode (m_c M) pc = .ok (.astore_n i, 1)) (hi : i.val < m_l M) (hl : ls.set i.val (some (va_rf a)) = ls') (k : Xj g M h (pc + 1) ls' st r h') : Xj g M h pc ls (va_rf a :: st) r h' :=
  x_loc k (fun p e R s m args below meth c H locs cells slots Q la C L w => by
    cases a with
    | none => exact lv_astore_nN C.1 C.2.1 hd rfl (lR_has L) hi rfl (fun la' hh => w la' (hl ▸ lR_back (v := va_rf none) hh))
    | some q => exact lv_astore_n C.1 C.2.1 hd rfl (lR_has L) hi rfl (fun la' hh => w la' (hl ▸ lR_back (v := va_rf (some q)) hh)))
theorem x_astore {i : Nat} {a : Option Nat} (hd : decode (m_c M) pc = .ok (.astore i, 2)) (hi : i < m_l M) (hl : ls.set i (some (va_rf a)) = ls') (k : Xj g M h (pc + 2) ls' st r h') : Xj g M h pc ls (va_rf a :: st) r h' :=
  x_loc k (fun p e R s m args below meth c H locs cells slots Q la C L w => by
    cases a with
    | none => exact lv_astoreN C.1 C.2.1 hd (lR_has L) hi rfl (fun la' hh => w la' (hl ▸ lR_back (v := va_rf none) hh))
    | some q => exact lv_astore C.1 C.2.1 hd (lR_has L) hi rfl (fun la' hh => w la' (hl ▸ lR_back (v := va_rf (some q)) hh)))
theorem x_iinc {i : Nat} {n : Int} {x v : Int32} (hd : decode (m_c M) pc = .ok (.iinc i n, 3)) (hg : ls[i]? = some (some (.int x))) (hv : x + Int32.ofInt n = v) (hi : i < m_l M) (hl : ls.set i (some (.int v)) = ls') (k : Xj g M h (pc + 3) ls' st r h') : Xj g M h pc ls st r h' :=
  x_loc k (fun p e R s m args below meth c H locs cells slots Q la C L w => by
    obtain ⟨q, hq⟩ := List.getElem?_of_mem (lsA_mem (g := g) hg)
    exact lv_iinc C.1 C.2.1 hd (lR_has L) (k := q) (x := x) hq hv hi rfl (fun la' hh => w la' (hl ▸ lR_back (v := .int v) hh)))

theorem x_iadd {x y : Int32} (hd : decode (m_c M) pc = .ok (.iadd, 1)) (k : Xj g M h (pc + 1) ls (.int (x + y) :: st) r h') : Xj g M h pc ls (.int y :: .int x :: st) r h' :=
  x_one k (fun p e R s m args below meth c H locs cells slots Q la C _ _ _ _ _ _ w => lv_iadd C.1 C.2.1 hd w)
theorem x_isub {x y : Int32} (hd : decode (m_c M) pc = .ok (.isub, 1)) (k : Xj g M h (pc + 1) ls (.int (x - y) :: st) r h') : Xj g M h pc ls (.int y :: .int x :: st) r h' :=
  x_one k (fun p e R s m args below meth c H locs cells slots Q la C _ _ _ _ _ _ w => lv_isub C.1 C.2.1 hd w)
theorem x_imul {x y : Int32} (hd : decode (m_c M) pc = .ok (.imul, 1)) (k : Xj g M h (pc + 1) ls (.int (x * y) :: st) r h') : Xj g M h pc ls (.int y :: .int x :: st) r h' :=
  x_one k (fun p e R s m args below meth c H locs cells slots Q la C _ _ _ _ _ _ w => lv_imul C.1 C.2.1 hd w)
theorem x_iand {x y : Int32} (hd : decode (m_c M) pc = .ok (.iand, 1)) (k : Xj g M h (pc + 1) ls (.int (x &&& y) :: st) r h') : Xj g M h pc ls (.int y :: .int x :: st) r h' :=
  x_one k (fun p e R s m args below meth c H locs cells slots Q la C _ _ _ _ _ _ w => lv_iand C.1 C.2.1 hd w)
theorem x_ior {x y : Int32} (hd : decode (m_c M) pc = .ok (.ior, 1)) (k : Xj g M h (pc + 1) ls (.int (x ||| y) :: st) r h') : Xj g M h pc ls (.int y :: .int x :: st) r h' :=
  x_one k (fun p e R s m args below meth c H locs cells slots Q la C _ _ _ _ _ _ w => lv_ior C.1 C.2.1 hd w)
theorem x_ixor {x y : Int32} (hd : decode (m_c M) pc = .ok (.ixor, 1)) (k : Xj g M h (pc + 1) ls (.int (x ^^^ y) :: st) r h') : Xj g M h pc ls (.int y :: .int x :: st) r h' :=
  x_one k (fun p e R s m args below meth c H locs cells slots Q la C _ _ _ _ _ _ w => lv_ixor C.1 C.2.1 hd w)
theorem x_ishl {x y : Int32} (hd : decode (m_c M) pc = .ok (.ishl, 1)) (k : Xj g M h (pc + 1) ls (.int (x <<< (y &&& 31)) :: st) r h') : Xj g M h pc ls (.int y :: .int x :: st) r h' :=
  x_one k (fun p e R s m args below meth c H locs cells slots Q la C _ _ _ _ _ _ w => lv_ishl C.1 C.2.1 hd w)
theorem x_ishr {x y : Int32} (hd : decode (m_c M) pc = .ok (.ishr, 1)) (k : Xj g M h (pc + 1) ls (.int (x >>> (y &&& 31)) :: st) r h') : Xj g M h pc ls (.int y :: .int x :: st) r h' :=
  x_one k (fun p e R s m args below meth c H locs cells slots Q la C _ _ _ _ _ _ w => lv_ishr C.1 C.2.1 hd w)
theorem x_iushr {x y : Int32} (hd : decode (m_c M) pc = .ok (.iushr, 1)) (k : Xj g M h (pc + 1) ls (.int ((x.toUInt32 >>> (y.toUInt32 &&& Int32.toUInt32 31)).toInt32) :: st) r h') : Xj g M h pc ls (.int y :: .int x :: st) r h' :=
  x_one k (fun p e R s m args below meth c H locs cells slots Q la C _ _ _ _ _ _ w => lv_iushr C.1 C.2.1 hd rfl w)
theorem x_idiv {x y : Int32} (hd : decode (m_c M) pc = .ok (.idiv, 1)) (hy : ¬ y = 0) (k : Xj g M h (pc + 1) ls (.int (x / y) :: st) r h') : Xj g M h pc ls (.int y :: .int x :: st) r h' :=
  x_one k (fun p e R s m args below meth c H locs cells slots Q la C _ _ _ _ _ _ w => lv_idiv C.1 C.2.1 hd hy w)
theorem x_irem {x y : Int32} (hd : decode (m_c M) pc = .ok (.irem, 1)) (hy : ¬ y = 0) (k : Xj g M h (pc + 1) ls (.int (x - x / y * y) :: st) r h') : Xj g M h pc ls (.int y :: .int x :: st) r h' :=
  x_one k (fun p e R s m args below meth c H locs cells slots Q la C _ _ _ _ _ _ w => lv_irem C.1 C.2.1 hd hy w)
theorem x_ineg {x : Int32} (hd : decode (m_c M) pc = .ok (.ineg, 1)) (k : Xj g M h (pc + 1) ls (.int (-x) :: st) r h') : Xj g M h pc ls (.int x :: st) r h' :=
  x_one k (fun p e R s m args below meth c H locs cells slots Q la C _ _ _ _ _ _ w => lv_ineg C.1 C.2.1 hd w)
theorem x_i2b {x : Int32} (hd : decode (m_c M) pc = .ok (.i2b, 1)) (k : Xj g M h (pc + 1) ls (.int x.toInt8.toInt32 :: st) r h') : Xj g M h pc ls (.int x :: st) r h' :=
  x_one k (fun p e R s m args below meth c H locs cells slots Q la C _ _ _ _ _ _ w => lv_i2b C.1 C.2.1 hd rfl w)
theorem x_i2s {x : Int32} (hd : decode (m_c M) pc = .ok (.i2s, 1)) (k : Xj g M h (pc + 1) ls (.int x.toInt16.toInt32 :: st) r h') : Xj g M h pc ls (.int x :: st) r h' :=
  x_one k (fun p e R s m args below meth c H locs cells slots Q la C _ _ _ _ _ _ w => lv_i2s C.1 C.2.1 hd rfl w)
theorem x_dup {v : Value} (hd : decode (m_c M) pc = .ok (.dup, 1)) (k : Xj g M h (pc + 1) ls (v :: v :: st) r h') : Xj g M h pc ls (v :: st) r h' :=
  x_one k (fun p e R s m args below meth c H locs cells slots Q la C _ _ _ _ _ _ w => lv_dup C.1 C.2.1 hd (cv_cat g v) w)
theorem x_dup2 {v u : Value} (hd : decode (m_c M) pc = .ok (.dup2, 1)) (k : Xj g M h (pc + 1) ls (v :: u :: v :: u :: st) r h') : Xj g M h pc ls (v :: u :: st) r h' :=
  x_one k (fun p e R s m args below meth c H locs cells slots Q la C _ _ _ _ _ _ w => lv_dup2_11 C.1 C.2.1 hd (cv_cat g v) (cv_cat g u) w)
theorem x_goto {off : Int} {tgt : Nat} (hd : decode (m_c M) pc = .ok (.goto off, 3)) (ht : (pc : Int) + off = (tgt : Int)) (k : Xj g M h tgt ls st r h') : Xj g M h pc ls st r h' :=
  x_one k (fun p e R s m args below meth c H locs cells slots Q la C _ _ _ _ _ _ w => lv_goto C.1 C.2.1 hd ht w)
theorem x_ifnull {off : Int} {a : Nat} (hd : decode (m_c M) pc = .ok (.ifnull off, 3)) (k : Xj g M h (pc + 3) ls st r h') : Xj g M h pc ls (va_rf (some a) :: st) r h' :=
  x_one k (fun p e R s m args below meth c H locs cells slots Q la C _ _ _ _ _ _ w => lv_ifnull C.1 C.2.1 hd w)
theorem x_ifnullN {off : Int} {tgt : Nat} (hd : decode (m_c M) pc = .ok (.ifnull off, 3)) (ht : (pc : Int) + off = (tgt : Int)) (k : Xj g M h tgt ls st r h') : Xj g M h pc ls (va_rf none :: st) r h' :=
  x_one k (fun p e R s m args below meth c H locs cells slots Q la C _ _ _ _ _ _ w => lv_ifnullN C.1 C.2.1 hd ht w)
theorem x_tabOut {dflt lo hi : Int} {offs : Array Int} {len tgt : Nat} {x : Int32} (hd : decode (m_c M) pc = .ok (.tableswitch dflt lo hi offs, len)) (hx : x.toInt < lo ∨ hi < x.toInt) (ht : (pc : Int) + dflt = (tgt : Int)) (k : Xj g M h tgt ls st r h') : Xj g M h pc ls (.int x :: st) r h' :=
  x_one k (fun p e R s m args below meth c H locs cells slots Q la C _ _ _ _ _ _ w => lv_tableOut C.1 C.2.1 hd hx ht w)
theorem x_tabIn {dflt lo hi : Int} {offs : Array Int} {len tgt : Nat} {x : Int32} {off : Int} (hd : decode (m_c M) pc = .ok (.tableswitch dflt lo hi offs, len)) (h1 : ¬ x.toInt < lo) (h2 : ¬ hi < x.toInt) (ho : offs[(x.toInt - lo).toNat]? = some off) (ht : (pc : Int) + off = (tgt : Int)) (k : Xj g M h tgt ls st r h') : Xj g M h pc ls (.int x :: st) r h' :=
  x_one k (fun p e R s m args below meth c H locs cells slots Q la C _ _ _ _ _ _ w => lv_tableIn C.1 C.2.1 hd h1 h2 ho ht w)
theorem x_lookup {dflt : Int} {ps : Array (Int × Int)} {len tgt : Nat} {x : Int32} {off : Int} (hd : decode (m_c M) pc = .ok (.lookupswitch dflt ps, len)) (hp : (ps.toList.zip (ps.toList.drop 1)).all (fun (a, next) => a.1 < next.1) = true) (ho : Op.lookupswitch.offset ps.toList dflt x.toInt = off) (ht : (pc : Int) + off = (tgt : Int)) (k : Xj g M h tgt ls st r h') : Xj g M h pc ls (.int x :: st) r h' :=
  x_one k (fun p e R s m args below meth c H locs cells slots Q la C _ _ _ _ _ _ w => lv_lookup C.1 C.2.1 hd hp ho ht w)
theorem x_ret {v : Int32} (hd : decode (m_c M) pc = .ok (.ireturn, 1)) (hr : okR M (some (.int v))) : Xj g M h pc ls [.int v] (some (.int v)) h :=
  ⟨⟨Nat.le_refl _, Nat.le_refl _⟩, hr, fun p e R s m args below meth c H locs n0 s0 cells slots Q la C B P S e1 e2 e3 e4 L K => K H locs cells slots pc la P S e1 e2 hd⟩
theorem x_vret (hd : decode (m_c M) pc = .ok (.return_, 1)) (hr : m_r M = none) : Xj g M h pc ls [] none h :=
  ⟨⟨Nat.le_refl _, Nat.le_refl _⟩, hr, fun p e R s m args below meth c H locs n0 s0 cells slots Q la C B P S e1 e2 e3 e4 L K => K H locs cells slots pc la P S e1 e2 hd⟩
theorem x_if_eq {x : Int32} {off : Int} {tgt : Nat} (hd : decode (m_c M) pc = .ok (.ifCond .eq off, 3)) (ht : (pc : Int) + off = (tgt : Int)) (kt : x = 0 → Xj g M h tgt ls st r h') (kf : ¬ (x = 0) → Xj g M h (pc + 3) ls st r h') : Xj g M h pc ls (.int x :: st) r h' := by
  by_cases hP : x = 0
  · exact x_one (kt hP) (fun p e R s m args below meth c H locs cells slots Q la C _ _ _ _ _ _ w => lv_if_eq C.1 C.2.1 hd ht (fun _ => w) (fun q => absurd hP q))
  · exact x_one (kf hP) (fun p e R s m args below meth c H locs cells slots Q la C _ _ _ _ _ _ w => lv_if_eq C.1 C.2.1 hd ht (fun q => absurd q hP) (fun _ => w))
theorem x_if_ne {x : Int32} {off : Int} {tgt : Nat} (hd : decode (m_c M) pc = .ok (.ifCond .ne off, 3)) (ht : (pc : Int) + off = (tgt : Int)) (kt : ¬ x = 0 → Xj g M h tgt ls st r h') (kf : x = 0 → Xj g M h (pc + 3) ls st r h') : Xj g M h pc ls (.int x :: st) r h' := by
  by_cases hP : ¬ x = 0
  · exact x_one (kt hP) (fun p e R s m args below meth c H locs cells slots Q la C _ _ _ _ _ _ w => lv_if_ne C.1 C.2.1 hd ht (fun _ => w) (fun q => absurd q hP))
  · exact x_one (kf (Decidable.not_not.mp hP)) (fun p e R s m args below meth c H locs cells slots Q la C _ _ _ _ _ _ w => lv_if_ne C.1 C.2.1 hd ht (fun q => absurd q hP) (fun _ => w))
theorem x_if_lt {x : Int32} {off : Int} {tgt : Nat} (hd : decode (m_c M) pc = .ok (.ifCond .lt off, 3)) (ht : (pc : Int) + off = (tgt : Int)) (kt : x < 0 → Xj g M h tgt ls st r h') (kf : ¬ (x < 0) → Xj g M h (pc + 3) ls st r h') : Xj g M h pc ls (.int x :: st) r h' := by
  by_cases hP : x < 0
  · exact x_one (kt hP) (fun p e R s m args below meth c H locs cells slots Q la C _ _ _ _ _ _ w => lv_if_lt C.1 C.2.1 hd ht (fun _ => w) (fun q => absurd hP q))
  · exact x_one (kf hP) (fun p e R s m args below meth c H locs cells slots Q la C _ _ _ _ _ _ w => lv_if_lt C.1 C.2.1 hd ht (fun q => absurd q hP) (fun _ => w))
theorem x_if_ge {x : Int32} {off : Int} {tgt : Nat} (hd : decode (m_c M) pc = .ok (.ifCond .ge off, 3)) (ht : (pc : Int) + off = (tgt : Int)) (kt : 0 ≤ x → Xj g M h tgt ls st r h') (kf : ¬ (0 ≤ x) → Xj g M h (pc + 3) ls st r h') : Xj g M h pc ls (.int x :: st) r h' := by
  by_cases hP : 0 ≤ x
  · exact x_one (kt hP) (fun p e R s m args below meth c H locs cells slots Q la C _ _ _ _ _ _ w => lv_if_ge C.1 C.2.1 hd ht (fun _ => w) (fun q => absurd hP q))
  · exact x_one (kf hP) (fun p e R s m args below meth c H locs cells slots Q la C _ _ _ _ _ _ w => lv_if_ge C.1 C.2.1 hd ht (fun q => absurd q hP) (fun _ => w))
theorem x_if_gt {x : Int32} {off : Int} {tgt : Nat} (hd : decode (m_c M) pc = .ok (.ifCond .gt off, 3)) (ht : (pc : Int) + off = (tgt : Int)) (kt : 0 < x → Xj g M h tgt ls st r h') (kf : ¬ (0 < x) → Xj g M h (pc + 3) ls st r h') : Xj g M h pc ls (.int x :: st) r h' := by
  by_cases hP : 0 < x
  · exact x_one (kt hP) (fun p e R s m args below meth c H locs cells slots Q la C _ _ _ _ _ _ w => lv_if_gt C.1 C.2.1 hd ht (fun _ => w) (fun q => absurd hP q))
  · exact x_one (kf hP) (fun p e R s m args below meth c H locs cells slots Q la C _ _ _ _ _ _ w => lv_if_gt C.1 C.2.1 hd ht (fun q => absurd q hP) (fun _ => w))
theorem x_if_le {x : Int32} {off : Int} {tgt : Nat} (hd : decode (m_c M) pc = .ok (.ifCond .le off, 3)) (ht : (pc : Int) + off = (tgt : Int)) (kt : x ≤ 0 → Xj g M h tgt ls st r h') (kf : ¬ (x ≤ 0) → Xj g M h (pc + 3) ls st r h') : Xj g M h pc ls (.int x :: st) r h' := by
  by_cases hP : x ≤ 0
  · exact x_one (kt hP) (fun p e R s m args below meth c H locs cells slots Q la C _ _ _ _ _ _ w => lv_if_le C.1 C.2.1 hd ht (fun _ => w) (fun q => absurd hP q))
  · exact x_one (kf hP) (fun p e R s m args below meth c H locs cells slots Q la C _ _ _ _ _ _ w => lv_if_le C.1 C.2.1 hd ht (fun q => absurd q hP) (fun _ => w))
theorem x_icmp_eq {x y : Int32} {off : Int} {tgt : Nat} (hd : decode (m_c M) pc = .ok (.if_icmp .eq off, 3)) (ht : (pc : Int) + off = (tgt : Int)) (kt : x = y → Xj g M h tgt ls st r h') (kf : ¬ (x = y) → Xj g M h (pc + 3) ls st r h') : Xj g M h pc ls (.int y :: .int x :: st) r h' := by
  by_cases hP : x = y
  · exact x_one (kt hP) (fun p e R s m args below meth c H locs cells slots Q la C _ _ _ _ _ _ w => lv_icmp_eq C.1 C.2.1 hd ht (fun _ => w) (fun q => absurd hP q))
  · exact x_one (kf hP) (fun p e R s m args below meth c H locs cells slots Q la C _ _ _ _ _ _ w => lv_icmp_eq C.1 C.2.1 hd ht (fun q => absurd q hP) (fun _ => w))
theorem x_icmp_ne {x y : Int32} {off : Int} {tgt : Nat} (hd : decode (m_c M) pc = .ok (.if_icmp .ne off, 3)) (ht : (pc : Int) + off = (tgt : Int)) (kt : ¬ x = y → Xj g M h tgt ls st r h') (kf : x = y → Xj g M h (pc + 3) ls st r h') : Xj g M h pc ls (.int y :: .int x :: st) r h' := by
  by_cases hP : ¬ x = y
  · exact x_one (kt hP) (fun p e R s m args below meth c H locs cells slots Q la C _ _ _ _ _ _ w => lv_icmp_ne C.1 C.2.1 hd ht (fun _ => w) (fun q => absurd q hP))
  · exact x_one (kf (Decidable.not_not.mp hP)) (fun p e R s m args below meth c H locs cells slots Q la C _ _ _ _ _ _ w => lv_icmp_ne C.1 C.2.1 hd ht (fun q => absurd q hP) (fun _ => w))
theorem x_icmp_lt {x y : Int32} {off : Int} {tgt : Nat} (hd : decode (m_c M) pc = .ok (.if_icmp .lt off, 3)) (ht : (pc : Int) + off = (tgt : Int)) (kt : x < y → Xj g M h tgt ls st r h') (kf : ¬ (x < y) → Xj g M h (pc + 3) ls st r h') : Xj g M h pc ls (.int y :: .int x :: st) r h' := by
  by_cases hP : x < y
  · exact x_one (kt hP) (fun p e R s m args below meth c H locs cells slots Q la C _ _ _ _ _ _ w => lv_icmp_lt C.1 C.2.1 hd ht (fun _ => w) (fun q => absurd hP q))
  · exact x_one (kf hP) (fun p e R s m args below meth c H locs cells slots Q la C _ _ _ _ _ _ w => lv_icmp_lt C.1 C.2.1 hd ht (fun q => absurd q hP) (fun _ => w))
theorem x_icmp_ge {x y : Int32} {off : Int} {tgt : Nat} (hd : decode (m_c M) pc = .ok (.if_icmp .ge off, 3)) (ht : (pc : Int) + off = (tgt : Int)) (kt : y ≤ x → Xj g M h tgt ls st r h') (kf : ¬ (y ≤ x) → Xj g M h (pc + 3) ls st r h') : Xj g M h pc ls (.int y :: .int x :: st) r h' := by
  by_cases hP : y ≤ x
  · exact x_one (kt hP) (fun p e R s m args below meth c H locs cells slots Q la C _ _ _ _ _ _ w => lv_icmp_ge C.1 C.2.1 hd ht (fun _ => w) (fun q => absurd hP q))
  · exact x_one (kf hP) (fun p e R s m args below meth c H locs cells slots Q la C _ _ _ _ _ _ w => lv_icmp_ge C.1 C.2.1 hd ht (fun q => absurd q hP) (fun _ => w))
theorem x_icmp_gt {x y : Int32} {off : Int} {tgt : Nat} (hd : decode (m_c M) pc = .ok (.if_icmp .gt off, 3)) (ht : (pc : Int) + off = (tgt : Int)) (kt : y < x → Xj g M h tgt ls st r h') (kf : ¬ (y < x) → Xj g M h (pc + 3) ls st r h') : Xj g M h pc ls (.int y :: .int x :: st) r h' := by
  by_cases hP : y < x
  · exact x_one (kt hP) (fun p e R s m args below meth c H locs cells slots Q la C _ _ _ _ _ _ w => lv_icmp_gt C.1 C.2.1 hd ht (fun _ => w) (fun q => absurd hP q))
  · exact x_one (kf hP) (fun p e R s m args below meth c H locs cells slots Q la C _ _ _ _ _ _ w => lv_icmp_gt C.1 C.2.1 hd ht (fun q => absurd q hP) (fun _ => w))
theorem x_icmp_le {x y : Int32} {off : Int} {tgt : Nat} (hd : decode (m_c M) pc = .ok (.if_icmp .le off, 3)) (ht : (pc : Int) + off = (tgt : Int)) (kt : x ≤ y → Xj g M h tgt ls st r h') (kf : ¬ (x ≤ y) → Xj g M h (pc + 3) ls st r h') : Xj g M h pc ls (.int y :: .int x :: st) r h' := by
  by_cases hP : x ≤ y
  · exact x_one (kt hP) (fun p e R s m args below meth c H locs cells slots Q la C _ _ _ _ _ _ w => lv_icmp_le C.1 C.2.1 hd ht (fun _ => w) (fun q => absurd hP q))
  · exact x_one (kf hP) (fun p e R s m args below meth c H locs cells slots Q la C _ _ _ _ _ _ w => lv_icmp_le C.1 C.2.1 hd ht (fun q => absurd q hP) (fun _ => w))
end Rules1
