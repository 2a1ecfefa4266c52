/-! small rules for the printed walks -/
theorem ret_s {a c : Int32} {b d : AH} (h : some (a, b) = some (c, d)) : a = c ∧ b = d := by cases h; exact ⟨rfl, rfl⟩
def ldS (L : Nat) (xs : Nat → Int32) (i : Int32) : Option Int32 := if ¬ (i < 0 ∨ L ≤ i.toNatClampNeg) then some (xs i.toNatClampNeg) else none
def ldT (i : Int32) : Option Int32 := match abv i.toNatClampNeg with
  | .int v => if ¬ (i < 0 ∨ 4 ≤ i.toNatClampNeg) then some v else none
  | _ => none
theorem x_ldSo {g : GT} {M : MT} {h h' : AH} {pc : Nat} {ls : List (Option Value)} {st : List Value} {r : Option Value} {i v : Int32} (hd : decode (m_c M) pc = .ok (.iaload, 1)) (hg : ldS (g_n g) (g_x g) i = some v) (kk : Xj g M h (pc + 1) ls (.int v :: st) r h') : Xj g M h pc ls (.int i :: .retAddr 0 :: st) r h' := by
  obtain ⟨h1, rfl⟩ := if_some hg
  exact x_ldS hd h1 kk
theorem x_ldTo {g : GT} {M : MT} {h h' : AH} {pc : Nat} {ls : List (Option Value)} {st : List Value} {r : Option Value} {i v : Int32} (hd : decode (m_c M) pc = .ok (.iaload, 1)) (hg : ldT i = some v) (kk : Xj g M h (pc + 1) ls (.int v :: st) r h') : Xj g M h pc ls (.int i :: .retAddr 1 :: st) r h' := by
  unfold ldT at hg
  split at hg
  · rename_i w hw
    obtain ⟨h1, rfl⟩ := if_some hg
    exact x_ldT hd h1 hw kk
  · cases hg
theorem cl_L_7 : Cond.classLink RL 7 RX7 ∈ tb := (in_tb 58 (by decide +kernel) (by decide +kernel))
theorem cl_7_7 : Cond.classLink RX7 7 RX4 ∈ tb := (in_tb 66 (by decide +kernel) (by decide +kernel))
theorem cl_7_16 : Cond.classLink RX7 16 RX6 ∈ tb := (in_tb 114 (by decide +kernel) (by decide +kernel))
theorem cl_7_23 : Cond.classLink RX7 23 RX3 ∈ tb := (in_tb 132 (by decide +kernel) (by decide +kernel))
theorem cl_7_30 : Cond.classLink RX7 30 RX0 ∈ tb := (in_tb 156 (by decide +kernel) (by decide +kernel))
theorem cl_7_37 : Cond.classLink RX7 37 RX1 ∈ tb := (in_tb 175 (by decide +kernel) (by decide +kernel))
theorem cl_1_9 : Cond.classLink RX1 9 RX2 ∈ tb := (in_tb 181 (by decide +kernel) (by decide +kernel))
theorem cl_7_44 : Cond.classLink RX7 44 RX5 ∈ tb := (in_tb 212 (by decide +kernel) (by decide +kernel))
theorem cl_L_10 : Cond.classLink RL 10 RX8 ∈ tb := (in_tb 673 (by decide +kernel) (by decide +kernel))
