/-! the start: what the constructors lay -/
def tR2 (k j : Nat) : Option Nat := if 25 ≤ k ∧ k < 65 ∧ j = 3 then some (k + 1) else tR k j
def Qh (h : AH) (n s : Nat) (l : List (Nat × Nat)) (iv : Nat → Nat → Int32) : Prop := hn h = n ∧ hs h = s ∧ (∀ k, k < n → hS h k = shq k) ∧ (∀ p, p ∈ l → p.1 < n ∧ hR h p.1 p.2 = tR2 p.1 p.2) ∧ (∀ k j, hI h k j = iv k j) ∧ ∀ k j, n ≤ k → iv k j = 0
def ivs (iv : Nat → Nat → Int32) (a j : Nat) (v : Int32) (k x : Nat) : Int32 := if k = a ∧ x = j then v else iv k x
def ivf (iv : Nat → Nat → Int32) (a i len : Nat) (v : Int32) (k x : Nat) : Int32 := if k = a ∧ i ≤ x ∧ x < len then v else iv k x
section Init
variable {h : AH} {n s : Nat} {l : List (Nat × Nat)} {iv : Nat → Nat → Int32}
theorem q_nC (q : Qh h n s l iv) {kind len : Nat} (e : shq n = (kind, len)) : Qh (nC h kind len) (n + 1) (s + len) l iv := by
  obtain ⟨q1, q2, q3, q4, q5, q6⟩ := q
  refine ⟨by show hn h + 1 = n + 1; rw [q1], by show hs h + len = s + len; rw [q2], fun k hk => ?_, fun p hp => ⟨by have := (q4 p hp).1; omega, ?_⟩, fun k j => ?_, fun k j hk => q6 k j (by omega)⟩
  · show va_up (hS h) (hn h) (kind, len) k = shq k
    unfold va_up
    by_cases c : k = hn h
    · rw [if_pos c, c, q1, e]
    · rw [if_neg c]; exact q3 k (by omega)
  · show va_up (hR h) (hn h) (fun _ => none) p.1 p.2 = _
    unfold va_up
    have := q4 p hp
    rw [if_neg (by omega)]; exact this.2
  · show va_up (hI h) (hn h) (fun _ => 0) k j = _
    unfold va_up
    by_cases c : k = hn h
    · rw [if_pos c, q6 k j (by omega)]
    · rw [if_neg c]; exact q5 k j
theorem q_nA (q : Qh h n s l iv) {kind len : Nat} (e : shq n = (kind, len)) (hl : len ≤ 20000) : ∃ h', nA h kind (nI len) = some (some n, h') ∧ Qh h' (n + 1) (s + len) l iv := by
  refine ⟨_, ?_, q_nC q e⟩
  unfold nA
  rw [nI_clamp (by omega), if_pos ⟨nI_pos (by omega), by omega⟩, q.1]
theorem q_nO (q : Qh h n s l iv) {ci len : Nat} (e : shq n = (ci + 4, len)) : ∃ h', nO h ci len = some h' ∧ Qh h' (n + 1) (s + len) l iv := ⟨_, rfl, q_nC q e⟩
theorem q_sR (q : Qh h n s l iv) {a j : Nat} {v : Option Nat} (ha : a < n) (hv : v = tR2 a j) : Qh (sR h a (va_up (hR h a) j v)) n s ((a, j) :: l) iv := by
  obtain ⟨q1, q2, q3, q4, q5, q6⟩ := q
  refine ⟨q1, q2, q3, fun p hp => ?_, q5, q6⟩
  show p.1 < n ∧ va_up (hR h) a (va_up (hR h a) j v) p.1 p.2 = _
  have key : p.1 = a → p.2 = j → va_up (hR h) a (va_up (hR h a) j v) p.1 p.2 = tR2 p.1 p.2 := fun e1 e2 => by
    unfold va_up; rw [if_pos e1, if_pos e2, hv, e1, e2]
  rcases List.mem_cons.mp hp with e | e
  · rw [e] at key ⊢
    exact ⟨ha, key rfl rfl⟩
  · obtain ⟨z1, z2⟩ := q4 p e
    refine ⟨z1, ?_⟩
    by_cases c1 : p.1 = a
    · by_cases c2 : p.2 = j
      · exact key c1 c2
      · unfold va_up; rw [if_pos c1, if_neg c2, ← c1]; exact z2
    · unfold va_up; rw [if_neg c1]; exact z2
theorem q_sI (q : Qh h n s l iv) {a j : Nat} {v : Int32} (ha : a < n) : Qh (sI h a (upd (hI h a) j v)) n s l (ivs iv a j v) := by
  obtain ⟨q1, q2, q3, q4, q5, q6⟩ := q
  refine ⟨q1, q2, q3, q4, fun k x => ?_, fun k x hk => by unfold ivs; rw [if_neg (by omega)]; exact q6 k x hk⟩
  unfold ivs
  by_cases c1 : k = a
  · subst c1
    rw [sI_eq]
    unfold upd
    by_cases c2 : x = j
    · rw [if_pos c2, if_pos ⟨rfl, c2⟩]
    · rw [if_neg c2, if_neg (fun z => c2 z.2)]; exact q5 k x
  · rw [sI_ne c1, if_neg (fun z => c1 z.1)]; exact q5 k x
theorem q_iv {iv2 : Nat → Nat → Int32} (q : Qh h n s l iv) (e : ∀ k j, iv2 k j = iv k j) : Qh h n s l iv2 := ⟨q.1, q.2.1, q.2.2.1, q.2.2.2.1, fun k j => by rw [e]; exact q.2.2.2.2.1 k j, fun k j hk => by rw [e]; exact q.2.2.2.2.2 k j hk⟩
theorem q_ok (q : Qh h n s l iv) {a ci : Nat} (ha : a < n) (e : (shq a).1 = ci + 4) : a < hn h ∧ (hS h a).1 = ci + 4 := ⟨by rw [q.1]; exact ha, by rw [q.2.2.1 a ha]; exact e⟩
theorem q_pR (q : Qh h n s l iv) {a ci j : Nat} {v : Option Nat} (ha : a < n) (e : (shq a).1 = ci + 4) (hv : v = tR2 a j) : ∃ h', pR h (some a) ci j v = some h' ∧ Qh h' n s ((a, j) :: l) iv := by
  refine ⟨_, ?_, q_sR q ha hv⟩
  simp only [pR]
  rw [if_pos (q_ok q ha e)]
theorem q_pI (q : Qh h n s l iv) {a ci j : Nat} {v : Int32} (ha : a < n) (e : (shq a).1 = ci + 4) (hv : iv a j = v) : ∃ h', pI h (some a) ci j v = some h' ∧ Qh h' n s l iv := by
  refine ⟨_, ?_, q_iv (q_sI (j := j) (v := v) q ha) (fun k x => ?_)⟩
  · simp only [pI]
    rw [if_pos (q_ok q ha e)]
  · unfold ivs
    by_cases c : k = a ∧ x = j
    · rw [if_pos c, c.1, c.2, hv]
    · rw [if_neg c]
theorem q_stI (q : Qh h n s l iv) {a i : Nat} {v : Int32} (ha : a < n) (e : (shq a).1 = 0) (hi : i < (shq a).2) (hl : (shq a).2 ≤ 20000) : ∃ h', stI h (some a) (nI i) v = some h' ∧ Qh h' n s l (ivs iv a i v) := by
  refine ⟨_, ?_, q_sI (j := i) (v := v) q ha⟩
  simp only [stI]
  rw [q.2.2.1 a ha, if_pos ⟨by rw [q.1]; exact ha, e, nI_inb hi hl⟩, nI_clamp (by omega)]
theorem q_gR (q : Qh h n s l iv) {a ci j : Nat} (hm : (a, j) ∈ l) (e : (shq a).1 = ci + 4) : gR h (some a) ci j = some (tR2 a j) := by
  obtain ⟨z1, z2⟩ := q.2.2.2.1 _ hm
  simp only [gR]
  rw [if_pos (q_ok q z1 e)]
  exact congrArg some z2
theorem q_stR (q : Qh h n s l iv) {a t ci i v : Nat} (ha : a < n) (e : (shq a).1 = t) (hi : i < (shq a).2) (hl : (shq a).2 ≤ 20000) (hw : v < n) (ew : (shq v).1 = ci + 4) (hv : some v = tR2 a i) : ∃ h', stR h (some a) t ci (nI i) (some v) = some h' ∧ Qh h' n s ((a, i) :: l) iv := by
  refine ⟨_, ?_, q_sR q ha hv⟩
  simp only [stR]
  rw [q.2.2.1 a ha, if_pos ⟨⟨by rw [q.1]; exact ha, e, nI_inb hi hl⟩, q_ok q hw ew⟩, nI_clamp (by omega)]
theorem q_fill (q : Qh h n s l iv) {a len : Nat} {v : Int32} (ha : a < n) (e : shq a = (0, len)) (hl : len ≤ 19000) : ∃ h', f_J_fill h (some a) v = some h' ∧ Qh h' n s l (ivf iv a 0 len v) := by
  have lp : ∀ (m i F : Nat) (h : AH) (iv : Nat → Nat → Int32), i + m = len → Qh h n s l iv → ∃ h', g_J_fill_5 (F + m + 1) h (some a) v (nI i) (nI len) = some h' ∧ Qh h' n s l (ivf iv a i len v) := by
    intro m
    induction m with
    | zero =>
      intro i F h iv hi q
      refine ⟨h, ?_, q_iv q (fun k x => by unfold ivf; rw [if_neg (by omega)])⟩
      rw [show F + 0 + 1 = F + 1 from rfl, g_J_fill_5, if_pos (nI_le (by omega) (by omega))]
    | succ m ih =>
      intro i F h iv hi q
      obtain ⟨h1, e1, q1⟩ := q_stI q (a := a) (i := i) (v := v) ha (by rw [e]) (by rw [e]; show i < len; omega) (by rw [e]; show len ≤ 20000; omega)
      obtain ⟨h2, e2, q2⟩ := ih (i + 1) F h1 _ (by omega) q1
      refine ⟨h2, ?_, q_iv q2 (fun k x => ?_)⟩
      · rw [g_J_fill_5, if_neg (nI_ge (by omega) (by omega)), e1, bd_some, nI_1]
        exact e2
      · unfold ivf ivs
        by_cases c1 : k = a ∧ i + 1 ≤ x ∧ x < len
        · rw [if_pos (show k = a ∧ i ≤ x ∧ x < len from ⟨c1.1, by omega, c1.2.2⟩), if_pos c1]
        · rw [if_neg c1]
          by_cases c2 : k = a ∧ x = i
          · rw [if_pos c2, if_pos (show k = a ∧ i ≤ x ∧ x < len from ⟨c2.1, by omega, by omega⟩)]
          · rw [if_neg c2, if_neg (fun z => c1 ⟨z.1, by
              have : x ≠ i := fun q => c2 ⟨z.1, q⟩
              omega, z.2.2⟩)]
  obtain ⟨F, hF⟩ := NN_ge len (by omega)
  obtain ⟨h2, e2, q2⟩ := lp len 0 F h iv (by omega) q
  refine ⟨h2, ?_, q2⟩
  · unfold f_J_fill
    have ln : lenA h (some a) = some (nI len) := by
      simp only [lenA]
      rw [q.2.2.1 a ha, e, if_pos ⟨by rw [q.1]; exact ha, rfl⟩]
      rfl
    rw [ln, bd_some, hF, show (0 : Int32) = nI 0 from rfl, e2]

def ivD (k j : Nat) : Int32 := if k = 2 then (if j = 0 then 200 else if j = 1 then 4 else 0) else if k = 4 then (if j < 120 then 100 else 0) else 0
theorem ivD_0 {k j : Nat} (h1 : k ≠ 2) (h2 : k ≠ 4) : ivD k j = 0 := by unfold ivD; rw [if_neg h1, if_neg h2]
theorem in_X4 (q : Qh h (2) s l (fun _ _ => 0)) : ∃ h', f_X4_init h (1) = some h' ∧ Qh h' (11) (s + 191) ((1, 8) :: (1, 7) :: (1, 6) :: (1, 5) :: (1, 4) :: (1, 3) :: (1, 2) :: (1, 1) :: (1, 0) :: l) ivD := by
  unfold f_X4_init
  obtain ⟨h1, e1, q1⟩ := q_nA q (kind := 0) (len := 2) rfl (by decide)
  rw [show nA h 0 2 = some (some (2), h1) from e1, bd2_some]
  obtain ⟨h2, e2, q2⟩ := q_stI q1 (a := 2) (i := 0) (v := 200) (by omega) rfl (by decide) (by decide)
  rw [show stI h1 (some 2) 0 200 = some h2 from e2, bd_some]
  obtain ⟨h3, e3, q3⟩ := q_stI q2 (a := 2) (i := 1) (v := 4) (by omega) rfl (by decide) (by decide)
  rw [show stI h2 (some 2) 1 4 = some h3 from e3, bd_some]
  obtain ⟨h4, e4, q4⟩ := q_pR q3 (a := 1) (ci := 4) (j := 0) (v := some (2)) (by omega) rfl (by decide)
  rw [e4, bd_some]
  obtain ⟨h5, e5, q5⟩ := q_nA q4 (kind := 0) (len := 3) rfl (by decide)
  rw [show nA h4 0 3 = some (some (3), h5) from e5, bd2_some]
  obtain ⟨h6, e6, q6⟩ := q_pR q5 (a := 1) (ci := 4) (j := 1) (v := some (3)) (by omega) rfl (by decide)
  rw [e6, bd_some]
  obtain ⟨h7, e7, q7⟩ := q_nA q6 (kind := 0) (len := 120) rfl (by decide)
  rw [show nA h6 0 120 = some (some (4), h7) from e7, bd2_some]
  obtain ⟨h8, e8, q8⟩ := q_pR q7 (a := 1) (ci := 4) (j := 2) (v := some (4)) (by omega) rfl (by decide)
  rw [e8, bd_some]
  obtain ⟨h9, e9, q9⟩ := q_nA q8 (kind := 0) (len := 14) rfl (by decide)
  rw [show nA h8 0 14 = some (some (5), h9) from e9, bd2_some]
  obtain ⟨h10, e10, q10⟩ := q_pR q9 (a := 1) (ci := 4) (j := 3) (v := some (5)) (by omega) rfl (by decide)
  rw [e10, bd_some]
  obtain ⟨h11, e11, q11⟩ := q_nA q10 (kind := 1) (len := 14) rfl (by decide)
  rw [show nA h10 1 14 = some (some (6), h11) from e11, bd2_some]
  obtain ⟨h12, e12, q12⟩ := q_pR q11 (a := 1) (ci := 4) (j := 4) (v := some (6)) (by omega) rfl (by decide)
  rw [e12, bd_some]
  obtain ⟨h13, e13, q13⟩ := q_nA q12 (kind := 0) (len := 10) rfl (by decide)
  rw [show nA h12 0 10 = some (some (7), h13) from e13, bd2_some]
  obtain ⟨h14, e14, q14⟩ := q_pR q13 (a := 1) (ci := 4) (j := 5) (v := some (7)) (by omega) rfl (by decide)
  rw [e14, bd_some]
  obtain ⟨h15, e15, q15⟩ := q_nA q14 (kind := 0) (len := 10) rfl (by decide)
  rw [show nA h14 0 10 = some (some (8), h15) from e15, bd2_some]
  obtain ⟨h16, e16, q16⟩ := q_pR q15 (a := 1) (ci := 4) (j := 6) (v := some (8)) (by omega) rfl (by decide)
  rw [e16, bd_some]
  obtain ⟨h17, e17, q17⟩ := q_nA q16 (kind := 0) (len := 10) rfl (by decide)
  rw [show nA h16 0 10 = some (some (9), h17) from e17, bd2_some]
  obtain ⟨h18, e18, q18⟩ := q_pR q17 (a := 1) (ci := 4) (j := 7) (v := some (9)) (by omega) rfl (by decide)
  rw [e18, bd_some]
  obtain ⟨h19, e19, q19⟩ := q_nA q18 (kind := 0) (len := 8) rfl (by decide)
  rw [show nA h18 0 8 = some (some (10), h19) from e19, bd2_some]
  obtain ⟨h20, e20, q20⟩ := q_pR q19 (a := 1) (ci := 4) (j := 8) (v := some (10)) (by omega) rfl (by decide)
  rw [e20, bd_some]
  rw [show gR h20 (some 1) 4 2 = some (some 4) from q_gR q20 (by simp) rfl, bd_some]
  obtain ⟨h21, e21, q21⟩ := q_fill q20 (a := 4) (len := 120) (v := 100) (by omega) rfl (by decide)
  rw [e21, bd_some]
  refine ⟨h21, rfl, q_iv q21 (fun k j => ?_)⟩
  unfold ivf ivs ivD
  by_cases c2 : k = 2
  · subst c2
    by_cases j1 : j = 1
    · subst j1; simp
    · by_cases j0 : j = 0
      · subst j0; simp
      · simp [j0, j1]
  · by_cases c4 : k = 4
    · subst c4
      by_cases j1 : j < 120
      · simp [j1]
      · simp [j1]
    · simp [c2, c4]
theorem in_X6 (q : Qh h (12) s l iv) : ∃ h', f_X6_init h (11) = some h' ∧ Qh h' (15) (s + 701) ((11, 2) :: (11, 1) :: (11, 0) :: l) iv := by
  unfold f_X6_init
  obtain ⟨h1, e1, q1⟩ := q_nA q (kind := 0) (len := 1) rfl (by decide)
  rw [show nA h 0 1 = some (some (12), h1) from e1, bd2_some]
  obtain ⟨h2, e2, q2⟩ := q_pR q1 (a := 11) (ci := 6) (j := 0) (v := some (12)) (by omega) rfl (by decide)
  rw [e2, bd_some]
  obtain ⟨h3, e3, q3⟩ := q_nA q2 (kind := 0) (len := 350) rfl (by decide)
  rw [show nA h2 0 350 = some (some (13), h3) from e3, bd2_some]
  obtain ⟨h4, e4, q4⟩ := q_pR q3 (a := 11) (ci := 6) (j := 1) (v := some (13)) (by omega) rfl (by decide)
  rw [e4, bd_some]
  obtain ⟨h5, e5, q5⟩ := q_nA q4 (kind := 0) (len := 350) rfl (by decide)
  rw [show nA h4 0 350 = some (some (14), h5) from e5, bd2_some]
  obtain ⟨h6, e6, q6⟩ := q_pR q5 (a := 11) (ci := 6) (j := 2) (v := some (14)) (by omega) rfl (by decide)
  rw [e6, bd_some]
  exact ⟨h6, rfl, q6⟩
theorem in_X3 (q : Qh h (16) s l ivD) : ∃ h', f_X3_init h (15) = some h' ∧ Qh h' (19) (s + 288) ((15, 3) :: (15, 2) :: (15, 1) :: l) ivD := by
  unfold f_X3_init
  obtain ⟨h1, e1, q1⟩ := q_pI q (a := 15) (ci := 3) (j := 0) (v := 0) (by omega) rfl (ivD_0 (by decide) (by decide))
  rw [e1, bd_some]
  obtain ⟨h2, e2, q2⟩ := q_nA q1 (kind := 0) (len := 15) rfl (by decide)
  rw [show nA h1 0 15 = some (some (16), h2) from e2, bd2_some]
  obtain ⟨h3, e3, q3⟩ := q_pR q2 (a := 15) (ci := 3) (j := 1) (v := some (16)) (by omega) rfl (by decide)
  rw [e3, bd_some]
  obtain ⟨h4, e4, q4⟩ := q_nA q3 (kind := 0) (len := 48) rfl (by decide)
  rw [show nA h3 0 48 = some (some (17), h4) from e4, bd2_some]
  obtain ⟨h5, e5, q5⟩ := q_pR q4 (a := 15) (ci := 3) (j := 2) (v := some (17)) (by omega) rfl (by decide)
  rw [e5, bd_some]
  obtain ⟨h6, e6, q6⟩ := q_nA q5 (kind := 0) (len := 225) rfl (by decide)
  rw [show nA h5 0 225 = some (some (18), h6) from e6, bd2_some]
  obtain ⟨h7, e7, q7⟩ := q_pR q6 (a := 15) (ci := 3) (j := 3) (v := some (18)) (by omega) rfl (by decide)
  rw [e7, bd_some]
  obtain ⟨h8, e8, q8⟩ := q_pI q7 (a := 15) (ci := 3) (j := 4) (v := 0) (by omega) rfl (ivD_0 (by decide) (by decide))
  rw [e8, bd_some]
  exact ⟨h8, rfl, q8⟩
theorem in_X0 (q : Qh h (20) s l iv) : ∃ h', f_X0_init h (19) = some h' ∧ Qh h' (23) (s + 25) ((19, 2) :: (19, 1) :: (19, 0) :: l) iv := by
  unfold f_X0_init
  obtain ⟨h1, e1, q1⟩ := q_nA q (kind := 0) (len := 1) rfl (by decide)
  rw [show nA h 0 1 = some (some (20), h1) from e1, bd2_some]
  obtain ⟨h2, e2, q2⟩ := q_pR q1 (a := 19) (ci := 0) (j := 0) (v := some (20)) (by omega) rfl (by decide)
  rw [e2, bd_some]
  obtain ⟨h3, e3, q3⟩ := q_nA q2 (kind := 0) (len := 12) rfl (by decide)
  rw [show nA h2 0 12 = some (some (21), h3) from e3, bd2_some]
  obtain ⟨h4, e4, q4⟩ := q_pR q3 (a := 19) (ci := 0) (j := 1) (v := some (21)) (by omega) rfl (by decide)
  rw [e4, bd_some]
  obtain ⟨h5, e5, q5⟩ := q_nA q4 (kind := 0) (len := 12) rfl (by decide)
  rw [show nA h4 0 12 = some (some (22), h5) from e5, bd2_some]
  obtain ⟨h6, e6, q6⟩ := q_pR q5 (a := 19) (ci := 0) (j := 2) (v := some (22)) (by omega) rfl (by decide)
  rw [e6, bd_some]
  exact ⟨h6, rfl, q6⟩
theorem sq2 : ∀ i, i < 20 → shq (25 + 2 * i) = (6, 4) ∧ shq (26 + 2 * i) = (0, 1) ∧ some (26 + 2 * i) = tR2 (25 + 2 * i) 3 ∧ none = tR2 (25 + 2 * i) 0 ∧ some (25 + 2 * i) = tR2 24 i := by decide
theorem sq5 : ∀ i, i < 4 → shq (66 + 2 * i) = (9, 3) ∧ shq (67 + 2 * i) = (0, 40) ∧ some (67 + 2 * i) = tR2 (66 + 2 * i) 2 ∧ some (66 + 2 * i) = tR2 65 i := by decide
theorem in_X2 {i : Nat} (hi : i < 20) (q : Qh h (26 + 2 * i) s l ivD) : ∃ h', f_X2_init h (25 + 2 * i) = some h' ∧ Qh h' (27 + 2 * i) (s + 1) ((25 + 2 * i, 3) :: (25 + 2 * i, 0) :: l) ivD := by
  unfold f_X2_init
  obtain ⟨h1, e1, q1⟩ := q_pR q (a := 25 + 2 * i) (ci := 2) (j := 0) (v := none) (by omega) (by rw [(sq2 i hi).1]) (by exact (sq2 i hi).2.2.2.1)
  rw [e1, bd_some]
  obtain ⟨h2, e2, q2⟩ := q_pI q1 (a := 25 + 2 * i) (ci := 2) (j := 1) (v := 0) (by omega) (by rw [(sq2 i hi).1]) (ivD_0 (by omega) (by omega))
  rw [e2, bd_some]
  obtain ⟨h3, e3, q3⟩ := q_pI q2 (a := 25 + 2 * i) (ci := 2) (j := 2) (v := 0) (by omega) (by rw [(sq2 i hi).1]) (ivD_0 (by omega) (by omega))
  rw [e3, bd_some]
  obtain ⟨h4, e4, q4⟩ := q_nA q3 (kind := 0) (len := 1) (sq2 i hi).2.1 (by decide)
  rw [show nA h3 0 1 = some (some (26 + 2 * i), h4) from e4, bd2_some]
  obtain ⟨h5, e5, q5⟩ := q_pR q4 (a := 25 + 2 * i) (ci := 2) (j := 3) (v := some (26 + 2 * i)) (by omega) (by rw [(sq2 i hi).1]) (by exact (sq2 i hi).2.2.1)
  rw [e5, bd_some]
  refine ⟨h5, rfl, ?_⟩
  rw [show 27 + 2 * i = 26 + 2 * i + 1 by omega]; exact q5
theorem in_X5 {i : Nat} (hi : i < 4) (q : Qh h (67 + 2 * i) s l ivD) : ∃ h', f_X5_init h (66 + 2 * i) = some h' ∧ Qh h' (68 + 2 * i) (s + 40) ((66 + 2 * i, 2) :: l) ivD := by
  unfold f_X5_init
  obtain ⟨h1, e1, q1⟩ := q_pI q (a := 66 + 2 * i) (ci := 5) (j := 0) (v := 0) (by omega) (by rw [(sq5 i hi).1]) (ivD_0 (by omega) (by omega))
  rw [e1, bd_some]
  obtain ⟨h2, e2, q2⟩ := q_pI q1 (a := 66 + 2 * i) (ci := 5) (j := 1) (v := 0) (by omega) (by rw [(sq5 i hi).1]) (ivD_0 (by omega) (by omega))
  rw [e2, bd_some]
  obtain ⟨h3, e3, q3⟩ := q_nA q2 (kind := 0) (len := 40) (sq5 i hi).2.1 (by decide)
  rw [show nA h2 0 40 = some (some (67 + 2 * i), h3) from e3, bd2_some]
  obtain ⟨h4, e4, q4⟩ := q_pR q3 (a := 66 + 2 * i) (ci := 5) (j := 2) (v := some (67 + 2 * i)) (by omega) (by rw [(sq5 i hi).1]) (by exact (sq5 i hi).2.2.1)
  rw [e4, bd_some]
  refine ⟨h4, rfl, ?_⟩
  rw [show 68 + 2 * i = 67 + 2 * i + 1 by omega]; exact q4
def pl (i : Nat) : Nat → List (Nat × Nat) → List (Nat × Nat)
  | 0, l => l
  | m + 1, l => pl (i + 1) m ((24, i) :: (25 + 2 * i, 3) :: (25 + 2 * i, 0) :: l)
def pm (i : Nat) : Nat → List (Nat × Nat) → List (Nat × Nat)
  | 0, l => l
  | m + 1, l => pm (i + 1) m ((65, i) :: (66 + 2 * i, 2) :: l)
theorem lp_X1 : ∀ (m i F : Nat) (h : AH) (s : Nat) (l : List (Nat × Nat)), i + m = 20 → (23, 0) ∈ l → Qh h (25 + 2 * i) s l ivD → ∃ h', g_X1_init_25 (F + m + 1) h (some 23) (nI i) = some h' ∧ Qh h' 65 (s + 5 * m) (pl i m l) ivD := by
  intro m
  induction m with
  | zero =>
    intro i F h s l hi hm q
    refine ⟨h, ?_, ?_⟩
    · rw [show F + 0 + 1 = F + 1 from rfl, g_X1_init_25, if_pos (show (20 : Int32) ≤ nI i from nI_le (a := 20) (by omega) (by omega))]
    · rw [show (65 : Nat) = 25 + 2 * i by omega]; exact q
  | succ m ih =>
    intro i F h s l hi hm q
    obtain ⟨s1, s2, s3, s4, s5⟩ := sq2 i (by omega)
    obtain ⟨h1, e1, q1⟩ := q_nO q (ci := 2) (len := 4) s1
    obtain ⟨h2, e2, q2⟩ := in_X2 (i := i) (by omega) (by rw [show 26 + 2 * i = 25 + 2 * i + 1 by omega]; exact q1)
    obtain ⟨h3, e3, q3⟩ := q_stR q2 (a := 24) (t := 3) (ci := 2) (i := i) (v := 25 + 2 * i) (by omega) rfl (by show i < 20; omega) (by decide) (by omega) (by rw [s1]) s5
    obtain ⟨h4, e4, q4⟩ := ih (i + 1) F h3 (s + 4 + 1) ((24, i) :: (25 + 2 * i, 3) :: (25 + 2 * i, 0) :: l) (by omega) (by simp [hm]) (by rw [show 25 + 2 * (i + 1) = 27 + 2 * i by omega]; exact q3)
    refine ⟨h4, ?_, ?_⟩
    · rw [g_X1_init_25, if_neg (show ¬ (20 : Int32) ≤ nI i from nI_ge (b := 20) (by omega) (by omega)), show gR h (some 23) 1 0 = some (some 24) from q_gR q hm rfl, bd_some, e1, bd_some, q.1, e2, bd_some, e3, bd_some, nI_1]
      exact e4
    · rw [show s + 5 * (m + 1) = s + 4 + 1 + 5 * m by omega]; exact q4
theorem in_X1 (q : Qh h 24 s l ivD) : ∃ h', f_X1_init h 23 = some h' ∧ Qh h' 65 (s + 120) (pl 0 20 ((23, 0) :: l)) ivD := by
  unfold f_X1_init
  obtain ⟨h1, e1, q1⟩ := q_nA q (kind := 3) (len := 20) rfl (by decide)
  rw [show nA h 3 20 = some (some 24, h1) from e1, bd2_some]
  obtain ⟨h2, e2, q2⟩ := q_pR q1 (a := 23) (ci := 1) (j := 0) (v := some 24) (by omega) rfl (by decide)
  rw [e2, bd_some]
  obtain ⟨h3, e3, q3⟩ := q_pI q2 (a := 23) (ci := 1) (j := 1) (v := 0) (by omega) rfl (ivD_0 (by decide) (by decide))
  rw [e3, bd_some]
  obtain ⟨h4, e4, q4⟩ := q_pI q3 (a := 23) (ci := 1) (j := 2) (v := 0) (by omega) rfl (ivD_0 (by decide) (by decide))
  rw [e4, bd_some]
  obtain ⟨F, hF⟩ := NN_ge 20 (by omega)
  obtain ⟨h5, e5, q5⟩ := lp_X1 20 0 F h4 (s + 20) ((23, 0) :: l) rfl (by simp) q4
  refine ⟨h5, ?_, ?_⟩
  · rw [hF, show (0 : Int32) = nI 0 from rfl, e5]
  · rw [show s + 120 = s + 20 + 5 * 20 by omega]; exact q5
theorem lp_X7 : ∀ (m i F : Nat) (h : AH) (s : Nat) (l : List (Nat × Nat)), i + m = 4 → (0, 5) ∈ l → Qh h (66 + 2 * i) s l ivD → ∃ h', g_X7_init_74 (F + m + 1) h (some 0) (nI i) = some h' ∧ Qh h' 74 (s + 43 * m) (pm i m l) ivD := by
  intro m
  induction m with
  | zero =>
    intro i F h s l hi hm q
    refine ⟨h, ?_, ?_⟩
    · rw [show F + 0 + 1 = F + 1 from rfl, g_X7_init_74, if_pos (show (4 : Int32) ≤ nI i from nI_le (a := 4) (by omega) (by omega))]
    · rw [show (74 : Nat) = 66 + 2 * i by omega]; exact q
  | succ m ih =>
    intro i F h s l hi hm q
    obtain ⟨s1, s2, s3, s4⟩ := sq5 i (by omega)
    obtain ⟨h1, e1, q1⟩ := q_nO q (ci := 5) (len := 3) s1
    obtain ⟨h2, e2, q2⟩ := in_X5 (i := i) (by omega) (by rw [show 67 + 2 * i = 66 + 2 * i + 1 by omega]; exact q1)
    obtain ⟨h3, e3, q3⟩ := q_stR q2 (a := 65) (t := 2) (ci := 5) (i := i) (v := 66 + 2 * i) (by omega) rfl (by show i < 4; omega) (by decide) (by omega) (by rw [s1]) s4
    obtain ⟨h4, e4, q4⟩ := ih (i + 1) F h3 (s + 3 + 40) ((65, i) :: (66 + 2 * i, 2) :: l) (by omega) (by simp [hm]) (by rw [show 66 + 2 * (i + 1) = 68 + 2 * i by omega]; exact q3)
    refine ⟨h4, ?_, ?_⟩
    · rw [g_X7_init_74, if_neg (show ¬ (4 : Int32) ≤ nI i from nI_ge (b := 4) (by omega) (by omega)), show gR h (some 0) 7 5 = some (some 65) from q_gR q hm rfl, bd_some, e1, bd_some, q.1, e2, bd_some, e3, bd_some, nI_1]
      exact e4
    · rw [show s + 43 * (m + 1) = s + 3 + 40 + 43 * m by omega]; exact q4

def lD : List (Nat × Nat) := pm 0 4 ((0, 5) :: (0, 4) :: pl 0 20 ((23, 0) :: (0, 3) :: (19, 2) :: (19, 1) :: (19, 0) :: (0, 2) :: (15, 3) :: (15, 2) :: (15, 1) :: (0, 1) :: (11, 2) :: (11, 1) :: (11, 0) :: (0, 0) :: [(1, 8), (1, 7), (1, 6), (1, 5), (1, 4), (1, 3), (1, 2), (1, 1), (1, 0)]))
theorem in_X7 (q : Qh h 1 s [] (fun _ _ => 0)) : ∃ h' s2, f_X7_init h 0 = some h' ∧ Qh h' 74 s2 lD ivD ∧ s2 ≤ s + 3000 := by
  unfold f_X7_init
  obtain ⟨h1, e1, q1⟩ := q_nO q (ci := 4) (len := 9) rfl
  obtain ⟨h2, e2, q2⟩ := in_X4 q1
  rw [e1, bd_some, q.1, e2, bd_some]
  obtain ⟨h3, e3, q3⟩ := q_pR q2 (a := 0) (ci := 7) (j := 0) (v := some 1) (by omega) rfl (by decide)
  rw [e3, bd_some]
  obtain ⟨h4, e4, q4⟩ := q_nO q3 (ci := 6) (len := 3) rfl
  obtain ⟨h5, e5, q5⟩ := in_X6 q4
  rw [e4, bd_some, q3.1, e5, bd_some]
  obtain ⟨h6, e6, q6⟩ := q_pR q5 (a := 0) (ci := 7) (j := 1) (v := some 11) (by omega) rfl (by decide)
  rw [e6, bd_some]
  obtain ⟨h7, e7, q7⟩ := q_nO q6 (ci := 3) (len := 5) rfl
  obtain ⟨h8, e8, q8⟩ := in_X3 q7
  rw [e7, bd_some, q6.1, e8, bd_some]
  obtain ⟨h9, e9, q9⟩ := q_pR q8 (a := 0) (ci := 7) (j := 2) (v := some 15) (by omega) rfl (by decide)
  rw [e9, bd_some]
  obtain ⟨h10, e10, q10⟩ := q_nO q9 (ci := 0) (len := 3) rfl
  obtain ⟨h11, e11, q11⟩ := in_X0 q10
  rw [e10, bd_some, q9.1, e11, bd_some]
  obtain ⟨h12, e12, q12⟩ := q_pR q11 (a := 0) (ci := 7) (j := 3) (v := some 19) (by omega) rfl (by decide)
  rw [e12, bd_some]
  obtain ⟨h13, e13, q13⟩ := q_nO q12 (ci := 1) (len := 3) rfl
  obtain ⟨h14, e14, q14⟩ := in_X1 q13
  rw [e13, bd_some, q12.1, e14, bd_some]
  obtain ⟨h15, e15, q15⟩ := q_pR q14 (a := 0) (ci := 7) (j := 4) (v := some 23) (by omega) rfl (by decide)
  rw [e15, bd_some]
  obtain ⟨h16, e16, q16⟩ := q_nA q15 (kind := 2) (len := 4) rfl (by decide)
  rw [show nA h15 2 4 = some (some 65, h16) from e16, bd2_some]
  obtain ⟨h17, e17, q17⟩ := q_pR q16 (a := 0) (ci := 7) (j := 5) (v := some 65) (by omega) rfl (by decide)
  rw [e17, bd_some]
  obtain ⟨h18, e18, q18⟩ := q_pI q17 (a := 0) (ci := 7) (j := 6) (v := 0) (by omega) rfl (ivD_0 (by decide) (by decide))
  rw [e18, bd_some]
  obtain ⟨F, hF⟩ := NN_ge 4 (by omega)
  obtain ⟨h19, e19, q19⟩ := lp_X7 4 0 F h18 _ _ rfl List.mem_cons_self q18
  refine ⟨h19, _, ?_, q19, by omega⟩
  rw [hF, show (0 : Int32) = nI 0 from rfl, e19]

def iv8 (a b : Nat) (k j : Nat) : Int32 := if k = 75 then (if j = 0 then 200 else if j = 1 then 4 else if 74 ≤ j ∧ j < 74 + a then 100 else if 244 ≤ j ∧ j < 244 + b then -1 else 0) else ivD k j
theorem lp_138 : ∀ (m i F : Nat) (h : AH), i + m = 300 → (74, 0) ∈ l → Qh h 86 s l (iv8 120 i) → ∃ h', g_X8_init_138 (F + m + 1) h (some 74) (nI i) = some h' ∧ Qh h' 86 s l (iv8 120 300) := by
  intro m
  induction m with
  | zero =>
    intro i F h hi hm q
    refine ⟨h, ?_, ?_⟩
    · rw [show F + 0 + 1 = F + 1 from rfl, g_X8_init_138, if_pos (show (300 : Int32) ≤ nI i from nI_le (a := 300) (by omega) (by omega))]
    · rw [show (300 : Nat) = i by omega]; exact q
  | succ m ih =>
    intro i F h hi hm q
    obtain ⟨h1, e1, q1⟩ := q_stI q (a := 75) (i := 244 + i) (v := -1) (by omega) rfl (by show 244 + i < 556; omega) (by decide)
    obtain ⟨h2, e2, q2⟩ := ih (i + 1) F h1 (by omega) hm (q_iv q1 (fun k j => by
      unfold ivs iv8
      by_cases c : k = 75
      · by_cases cj : j = 244 + i
        · rw [if_pos c, if_pos (show k = 75 ∧ j = 244 + i from ⟨c, cj⟩), if_neg (show ¬ j = 0 by omega), if_neg (show ¬ j = 1 by omega), if_neg (show ¬ (74 ≤ j ∧ j < 74 + 120) by omega), if_pos (show 244 ≤ j ∧ j < 244 + (i + 1) by omega)]
        · rw [if_pos c, if_neg (show ¬ (k = 75 ∧ j = 244 + i) from fun z => cj z.2), if_pos c]
          by_cases c3 : 244 ≤ j ∧ j < 244 + i
          · rw [if_pos c3, if_pos (show 244 ≤ j ∧ j < 244 + (i + 1) by omega)]
          · rw [if_neg c3, if_neg (show ¬ (244 ≤ j ∧ j < 244 + (i + 1)) by omega)]
      · rw [if_neg c, if_neg (show ¬ (k = 75 ∧ j = 244 + i) from fun z => c z.1), if_neg c]))
    refine ⟨h2, ?_, q2⟩
    rw [g_X8_init_138, if_neg (show ¬ (300 : Int32) ≤ nI i from nI_ge (b := 300) (by omega) (by omega)), show gR h (some 74) 8 0 = some (some 75) from q_gR q hm rfl, bd_some, show 244 + nI i = nI (244 + i) from nI_add 244 i, e1, bd_some, nI_1]
    exact e2
theorem lp_113 : ∀ (m i F : Nat) (h : AH), i + m = 120 → (74, 0) ∈ l → Qh h 86 s l (iv8 i 0) → ∃ h', g_X8_init_113 (F + m + 1) h (some 74) (nI i) = some h' ∧ Qh h' 86 s l (iv8 120 300) := by
  intro m
  induction m with
  | zero =>
    intro i F h hi hm q
    obtain ⟨F2, hF2⟩ := NN_ge 300 (by omega)
    obtain ⟨h2, e2, q2⟩ := lp_138 300 0 F2 h rfl hm (by rw [show (120 : Nat) = i by omega]; exact q)
    refine ⟨h2, ?_, q2⟩
    rw [show F + 0 + 1 = F + 1 from rfl, g_X8_init_113, if_pos (show (120 : Int32) ≤ nI i from nI_le (a := 120) (by omega) (by omega)), hF2, show (0 : Int32) = nI 0 from rfl, e2]
  | succ m ih =>
    intro i F h hi hm q
    obtain ⟨h1, e1, q1⟩ := q_stI q (a := 75) (i := 74 + i) (v := 100) (by omega) rfl (by show 74 + i < 556; omega) (by decide)
    obtain ⟨h2, e2, q2⟩ := ih (i + 1) F h1 (by omega) hm (q_iv q1 (fun k j => by
      unfold ivs iv8
      by_cases c : k = 75
      · by_cases cj : j = 74 + i
        · rw [if_pos c, if_pos (show k = 75 ∧ j = 74 + i from ⟨c, cj⟩), if_neg (show ¬ j = 0 by omega), if_neg (show ¬ j = 1 by omega), if_pos (show 74 ≤ j ∧ j < 74 + (i + 1) by omega)]
        · rw [if_pos c, if_neg (show ¬ (k = 75 ∧ j = 74 + i) from fun z => cj z.2), if_pos c]
          by_cases c3 : 74 ≤ j ∧ j < 74 + i
          · rw [if_pos c3, if_pos (show 74 ≤ j ∧ j < 74 + (i + 1) by omega)]
          · rw [if_neg c3, if_neg (show ¬ (74 ≤ j ∧ j < 74 + (i + 1)) by omega)]
      · rw [if_neg c, if_neg (show ¬ (k = 75 ∧ j = 74 + i) from fun z => c z.1), if_neg c]))
    refine ⟨h2, ?_, q2⟩
    rw [g_X8_init_113, if_neg (show ¬ (120 : Int32) ≤ nI i from nI_ge (b := 120) (by omega) (by omega)), show gR h (some 74) 8 0 = some (some 75) from q_gR q hm rfl, bd_some, show 74 + nI i = nI (74 + i) from nI_add 74 i, e1, bd_some, nI_1]
    exact e2
theorem in_X8 (q : Qh h 75 s l ivD) : ∃ h' s2, f_X8_init h 74 = some h' ∧ Qh h' 86 s2 ((74, 12) :: (74, 11) :: (74, 10) :: (74, 9) :: (74, 8) :: (74, 7) :: (74, 5) :: (74, 4) :: (74, 3) :: (74, 1) :: (74, 0) :: l) (iv8 120 300) ∧ s2 ≤ s + 13000 := by
  unfold f_X8_init
  obtain ⟨h1, e1, q1⟩ := q_nA q (kind := 0) (len := 556) rfl (by decide)
  rw [show nA h 0 556 = some (some (75), h1) from e1, bd2_some]
  obtain ⟨h2, e2, q2⟩ := q_pR q1 (a := 74) (ci := 8) (j := 0) (v := some (75)) (by omega) rfl (by decide)
  rw [e2, bd_some]
  obtain ⟨h3, e3, q3⟩ := q_nA q2 (kind := 0) (len := 11120) rfl (by decide)
  rw [show nA h2 0 11120 = some (some (76), h3) from e3, bd2_some]
  obtain ⟨h4, e4, q4⟩ := q_pR q3 (a := 74) (ci := 8) (j := 1) (v := some (76)) (by omega) rfl (by decide)
  rw [e4, bd_some]
  obtain ⟨h5, e5, q5⟩ := q_nA q4 (kind := 0) (len := 4) rfl (by decide)
  rw [show nA h4 0 4 = some (some (77), h5) from e5, bd2_some]
  obtain ⟨h6, e6, q6⟩ := q_pR q5 (a := 74) (ci := 8) (j := 3) (v := some (77)) (by omega) rfl (by decide)
  rw [e6, bd_some]
  obtain ⟨h7, e7, q7⟩ := q_nA q6 (kind := 0) (len := 4) rfl (by decide)
  rw [show nA h6 0 4 = some (some (78), h7) from e7, bd2_some]
  obtain ⟨h8, e8, q8⟩ := q_pR q7 (a := 74) (ci := 8) (j := 4) (v := some (78)) (by omega) rfl (by decide)
  rw [e8, bd_some]
  obtain ⟨h9, e9, q9⟩ := q_nA q8 (kind := 0) (len := 160) rfl (by decide)
  rw [show nA h8 0 160 = some (some (79), h9) from e9, bd2_some]
  obtain ⟨h10, e10, q10⟩ := q_pR q9 (a := 74) (ci := 8) (j := 5) (v := some (79)) (by omega) rfl (by decide)
  rw [e10, bd_some]
  obtain ⟨h11, e11, q11⟩ := q_nA q10 (kind := 0) (len := 720) rfl (by decide)
  rw [show nA h10 0 720 = some (some (80), h11) from e11, bd2_some]
  obtain ⟨h12, e12, q12⟩ := q_pR q11 (a := 74) (ci := 8) (j := 7) (v := some (80)) (by omega) rfl (by decide)
  rw [e12, bd_some]
  obtain ⟨h13, e13, q13⟩ := q_nA q12 (kind := 0) (len := 15) rfl (by decide)
  rw [show nA h12 0 15 = some (some (81), h13) from e13, bd2_some]
  obtain ⟨h14, e14, q14⟩ := q_pR q13 (a := 74) (ci := 8) (j := 8) (v := some (81)) (by omega) rfl (by decide)
  rw [e14, bd_some]
  obtain ⟨h15, e15, q15⟩ := q_nA q14 (kind := 0) (len := 300) rfl (by decide)
  rw [show nA h14 0 300 = some (some (82), h15) from e15, bd2_some]
  obtain ⟨h16, e16, q16⟩ := q_pR q15 (a := 74) (ci := 8) (j := 9) (v := some (82)) (by omega) rfl (by decide)
  rw [e16, bd_some]
  obtain ⟨h17, e17, q17⟩ := q_nA q16 (kind := 0) (len := 12) rfl (by decide)
  rw [show nA h16 0 12 = some (some (83), h17) from e17, bd2_some]
  obtain ⟨h18, e18, q18⟩ := q_pR q17 (a := 74) (ci := 8) (j := 10) (v := some (83)) (by omega) rfl (by decide)
  rw [e18, bd_some]
  obtain ⟨h19, e19, q19⟩ := q_nA q18 (kind := 1) (len := 12) rfl (by decide)
  rw [show nA h18 1 12 = some (some (84), h19) from e19, bd2_some]
  obtain ⟨h20, e20, q20⟩ := q_pR q19 (a := 74) (ci := 8) (j := 11) (v := some (84)) (by omega) rfl (by decide)
  rw [e20, bd_some]
  obtain ⟨h21, e21, q21⟩ := q_nA q20 (kind := 0) (len := 40) rfl (by decide)
  rw [show nA h20 0 40 = some (some (85), h21) from e21, bd2_some]
  obtain ⟨h22, e22, q22⟩ := q_pR q21 (a := 74) (ci := 8) (j := 12) (v := some (85)) (by omega) rfl (by decide)
  rw [e22, bd_some]
  rw [show gR h22 (some 74) 8 0 = some (some 75) from q_gR q22 (by simp) rfl, bd_some]
  obtain ⟨h23, e23, q23⟩ := q_stI q22 (a := 75) (i := 0) (v := 200) (by omega) rfl (by decide) (by decide)
  rw [show stI h22 (some 75) 0 200 = some h23 from e23, bd_some]
  rw [show gR h23 (some 74) 8 0 = some (some 75) from q_gR q23 (by simp) rfl, bd_some]
  obtain ⟨h24, e24, q24⟩ := q_stI q23 (a := 75) (i := 1) (v := 4) (by omega) rfl (by decide) (by decide)
  rw [show stI h23 (some 75) 1 4 = some h24 from e24, bd_some]
  obtain ⟨F, hF⟩ := NN_ge 120 (by omega)
  obtain ⟨hz, ez, qz⟩ := lp_113 120 0 F h24 rfl (by simp) (q_iv q24 (fun k j => by
    unfold ivs iv8
    by_cases c : k = 75
    · subst c
      by_cases j1 : j = 1
      · subst j1; simp
      · by_cases j0 : j = 0
        · subst j0; simp
        · rw [if_pos rfl, if_neg j0, if_neg j1, if_neg (show ¬ (74 ≤ j ∧ j < 74 + 0) by omega), if_neg (show ¬ (244 ≤ j ∧ j < 244 + 0) by omega), if_neg (show ¬ (75 = 75 ∧ j = 1) from fun z => j1 z.2), if_neg (show ¬ (75 = 75 ∧ j = 0) from fun z => j0 z.2), ivD_0 (by decide) (by decide)]
    · rw [if_neg c, if_neg (show ¬ (k = 75 ∧ j = 1) from fun z => c z.1), if_neg (show ¬ (k = 75 ∧ j = 0) from fun z => c z.1)]))
  refine ⟨hz, _, ?_, qz, by omega⟩
  rw [hF, show (0 : Int32) = nI 0 from rfl, ez]
end Init
def lA : List (Nat × Nat) := (74, 12) :: (74, 11) :: (74, 10) :: (74, 9) :: (74, 8) :: (74, 7) :: (74, 5) :: (74, 4) :: (74, 3) :: (74, 1) :: (74, 0) :: lD
