def g_J_fill_5 : Nat → AH → Option Nat → Int32 → Int32 → Int32 → Option AH
  | 0, _, _, _, _, _ => none
  | n + 1, h, x0, x1, x2, x3 =>
    if x3 ≤ x2 then (
      some h
    ) else (
      bd (stI h x0 x2 x1) fun h13 =>
      g_J_fill_5  n h13 x0 x1 (x2 + 1) x3
    )

set_option maxRecDepth 100000 in
set_option maxHeartbeats 4000000 in
theorem tg_J_fill_5 {g : GT} : ∀ (n : Nat) {h : AH} {x0 : Option Nat} {x1 : Int32} {x2 : Int32} {x3 : Int32} {h' : AH}, g_J_fill_5 n h x0 x1 x2 x3 = some h' → Xj g mJ_fill h 5 [some (va_rf (x0)), some (.int (x1)), some (.int (x2)), some (.int (x3))] [] none h' := by
  intro n
  induction n with
  | zero =>
    intros
    rename_i z
    cases z
  | succ n ih =>
    intro h x0 x1 x2 x3 h' hf
    rw [g_J_fill_5] at hf
    refine x_iload_n (pc := 5) (x := x2) dJ_fill_5 rfl ?_
    refine x_iload_n (pc := 6) (x := x3) dJ_fill_6 rfl ?_
    refine x_icmp_ge (pc := 7) (tgt := 20) (x := x2) (y := x3) dJ_fill_7 rfl (fun hc => ?_) (fun hc => ?_)
    · replace hf := it_t hc hf
      obtain rfl := Option.some.inj hf
      exact x_vret (pc := 20) dJ_fill_20 rfl
    · replace hf := it_f hc hf
      refine x_aload_n (pc := 10) (a := x0) dJ_fill_10 rfl ?_
      refine x_iload_n (pc := 11) (x := x2) dJ_fill_11 rfl ?_
      refine x_iload_n (pc := 12) (x := x1) dJ_fill_12 rfl ?_
      replace hf := bd_s hf; obtain ⟨h13, e13, hf⟩ := hf
      refine x_stI (pc := 13) dJ_fill_13 e13 ?_
      refine x_iinc (pc := 14) (x := x2) (v := x2 + 1) (ls' := [some (va_rf (x0)), some (.int (x1)), some (.int (x2 + 1)), some (.int (x3))]) dJ_fill_14 rfl rfl (by decide) rfl ?_
      refine x_goto (pc := 17) (tgt := 5) dJ_fill_17 rfl ?_
      exact ih hf

def f_J_fill (h : AH) (x0 : Option Nat) (x1 : Int32) : Option AH :=
  bd (lenA h x0) fun v3 =>
  g_J_fill_5  NN h x0 x1 0 v3

set_option maxRecDepth 100000 in
set_option maxHeartbeats 4000000 in
theorem tm_J_fill {g : GT} {h : AH} {x0 : Option Nat} {x1 : Int32} {h' : AH} (hf : f_J_fill h x0 x1 = some h') : Xm g mJ_fill [va_rf (x0), .int (x1)] h none h' := by
  refine xm_of mo_J_fill (Nat.le_of_ble_eq_true rfl) (ls := [some (va_rf (x0)), some (.int (x1)), none, none]) rfl ?_
  rw [f_J_fill] at hf
  refine x_iconst (pc := 0) (v := 0) dJ_fill_0 (by decide) ?_
  refine x_istore_n (pc := 1) (ls' := [some (va_rf (x0)), some (.int (x1)), some (.int (0)), none]) dJ_fill_1 (by decide) rfl ?_
  refine x_aload_n (pc := 2) (a := x0) dJ_fill_2 rfl ?_
  replace hf := bd_s hf; obtain ⟨v3, e3, hf⟩ := hf
  refine x_len (pc := 3) dJ_fill_3 e3 ?_
  refine x_istore_n (pc := 4) (ls' := [some (va_rf (x0)), some (.int (x1)), some (.int (0)), some (.int (v3))]) dJ_fill_4 (by decide) rfl ?_
  exact tg_J_fill_5  NN hf

def f_X0_size (h : AH) (x0 : Option Nat) : Option (Int32 × AH) :=
  bd (gR h x0 0 0) fun v1 =>
  bd (ldI h v1 0) fun v5 =>
  some (v5, h)

set_option maxRecDepth 100000 in
set_option maxHeartbeats 4000000 in
theorem tm_X0_size {g : GT} {h : AH} {x0 : Option Nat} {r : Int32} {h' : AH} (hf : f_X0_size h x0 = some (r, h')) : Xm g mX0_size [va_rf (x0)] h (some (.int r)) h' := by
  refine xm_of mo_X0_size (Nat.le_of_ble_eq_true rfl) (ls := [some (va_rf (x0))]) rfl ?_
  rw [f_X0_size] at hf
  refine x_aload_n (pc := 0) (a := x0) dX0_size_0 rfl ?_
  replace hf := bd_s hf; obtain ⟨v1, e1, hf⟩ := hf
  refine x_getR (pc := 1) dX0_size_1 fl_0_7 e1 ?_
  refine x_iconst (pc := 4) (v := 0) dX0_size_4 (by decide) ?_
  replace hf := bd_s hf; obtain ⟨v5, e5, hf⟩ := hf
  refine x_ldI (pc := 5) dX0_size_5 e5 ?_
  obtain ⟨rfl, rfl⟩ := ret_s hf
  exact x_reti (pc := 6) dX0_size_6 rfl

def f_X0_everybody (h : AH) (x0 : Option Nat) : Option (Int32 × AH) :=
  bd (isO h x0 0) fun _ =>
  bd2 (f_X0_size h x0) fun v2 h2 =>
  some ((1 <<< (v2 &&& 31)) - 1, h2)

set_option maxRecDepth 100000 in
set_option maxHeartbeats 4000000 in
theorem tm_X0_everybody {g : GT} {h : AH} {x0 : Option Nat} {r : Int32} {h' : AH} (hf : f_X0_everybody h x0 = some (r, h')) : Xm g mX0_everybody [va_rf (x0)] h (some (.int r)) h' := by
  refine xm_of mo_X0_everybody (Nat.le_of_ble_eq_true rfl) (ls := [some (va_rf (x0))]) rfl ?_
  rw [f_X0_everybody] at hf
  refine x_iconst (pc := 0) (v := 1) dX0_everybody_0 (by decide) ?_
  refine x_aload_n (pc := 1) (a := x0) dX0_everybody_1 rfl ?_
  replace hf := bd_s hf; obtain ⟨u2, i2, hf⟩ := hf
  replace hf := bd2_s hf; obtain ⟨v2, h2, e2, hf⟩ := hf
  refine x_cVi (pc := 2) (M' := mX0_size) (as := []) (st := [.int (1)]) (a := x0) (ci := 0) dX0_everybody_2 mo_X0_size lk_0_19 im_X0_size se_X0_size rfl ⟨Nat.le_of_ble_eq_true rfl, Nat.le_of_ble_eq_true rfl⟩ rfl (Nat.le_of_ble_eq_true rfl) rfl i2 (tm_X0_size e2) ?_
  refine x_ishl (pc := 5) dX0_everybody_5 ?_
  refine x_iconst (pc := 6) (v := 1) dX0_everybody_6 (by decide) ?_
  refine x_isub (pc := 7) dX0_everybody_7 ?_
  obtain ⟨rfl, rfl⟩ := ret_s hf
  exact x_reti (pc := 8) dX0_everybody_8 rfl

def f_X7_holds (h : AH) (x0 : Int32) (x1 : Int32) : Option (Int32 × AH) :=
  if (x0 &&& (1 <<< (x1 &&& 31))) = 0 then (
    some (0, h)
  ) else (
    some (1, h)
  )

set_option maxRecDepth 100000 in
set_option maxHeartbeats 4000000 in
theorem tm_X7_holds {g : GT} {h : AH} {x0 : Int32} {x1 : Int32} {r : Int32} {h' : AH} (hf : f_X7_holds h x0 x1 = some (r, h')) : Xm g mX7_holds [.int (x0), .int (x1)] h (some (.int r)) h' := by
  refine xm_of mo_X7_holds (Nat.le_of_ble_eq_true rfl) (ls := [some (.int (x0)), some (.int (x1))]) rfl ?_
  rw [f_X7_holds] at hf
  refine x_iload_n (pc := 0) (x := x0) dX7_holds_0 rfl ?_
  refine x_iconst (pc := 1) (v := 1) dX7_holds_1 (by decide) ?_
  refine x_iload_n (pc := 2) (x := x1) dX7_holds_2 rfl ?_
  refine x_ishl (pc := 3) dX7_holds_3 ?_
  refine x_iand (pc := 4) dX7_holds_4 ?_
  refine x_if_eq (pc := 5) (tgt := 12) (x := (x0 &&& (1 <<< (x1 &&& 31)))) dX7_holds_5 rfl (fun hc => ?_) (fun hc => ?_)
  · replace hf := it_t hc hf
    refine x_iconst (pc := 12) (v := 0) dX7_holds_12 (by decide) ?_
    obtain ⟨rfl, rfl⟩ := ret_s hf
    exact x_retz (pc := 13) dX7_holds_13 rfl (by decide)
  · replace hf := it_f hc hf
    refine x_iconst (pc := 8) (v := 1) dX7_holds_8 (by decide) ?_
    refine x_goto (pc := 9) (tgt := 13) dX7_holds_9 rfl ?_
    obtain ⟨rfl, rfl⟩ := ret_s hf
    exact x_retz (pc := 13) dX7_holds_13 rfl (by decide)

def g_X0_together_4 : Nat → AH → Option Nat → Int32 → Int32 → Int32 → Option (Int32 × AH)
  | 0, _, _, _, _, _ => none
  | n + 1, h, x0, x1, x2, x3 =>
    bd (isO h x0 0) fun _ =>
    bd2 (f_X0_size h x0) fun v6 h6 =>
    if v6 ≤ x3 then (
      some (x2, h6)
    ) else (
      bd2 (f_X7_holds h6 x1 x3) fun v14 h14 =>
      if v14 = 0 then (
        g_X0_together_4  n h14 x0 x1 x2 (x3 + 1)
      ) else (
        bd (gR h14 x0 0 1) fun v22 =>
        bd (ldI h14 v22 x3) fun v26 =>
        g_X0_together_4  n h14 x0 x1 (x2 + v26) (x3 + 1)
      )
    )

set_option maxRecDepth 100000 in
set_option maxHeartbeats 4000000 in
theorem tg_X0_together_4 {g : GT} : ∀ (n : Nat) {h : AH} {x0 : Option Nat} {x1 : Int32} {x2 : Int32} {x3 : Int32} {r : Int32} {h' : AH}, g_X0_together_4 n h x0 x1 x2 x3 = some (r, h') → Xj g mX0_together h 4 [some (va_rf (x0)), some (.int (x1)), some (.int (x2)), some (.int (x3))] [] (some (.int r)) h' := by
  intro n
  induction n with
  | zero =>
    intros
    rename_i z
    cases z
  | succ n ih =>
    intro h x0 x1 x2 x3 r h' hf
    rw [g_X0_together_4] at hf
    refine x_iload_n (pc := 4) (x := x3) dX0_together_4 rfl ?_
    refine x_aload_n (pc := 5) (a := x0) dX0_together_5 rfl ?_
    replace hf := bd_s hf; obtain ⟨u6, i6, hf⟩ := hf
    replace hf := bd2_s hf; obtain ⟨v6, h6, e6, hf⟩ := hf
    refine x_cVi (pc := 6) (M' := mX0_size) (as := []) (st := [.int (x3)]) (a := x0) (ci := 0) dX0_together_6 mo_X0_size lk_0_19 im_X0_size se_X0_size rfl ⟨Nat.le_of_ble_eq_true rfl, Nat.le_of_ble_eq_true rfl⟩ rfl (Nat.le_of_ble_eq_true rfl) rfl i6 (tm_X0_size e6) ?_
    refine x_icmp_ge (pc := 9) (tgt := 35) (x := x3) (y := v6) dX0_together_9 rfl (fun hc => ?_) (fun hc => ?_)
    · replace hf := it_t hc hf
      refine x_iload_n (pc := 35) (x := x2) dX0_together_35 rfl ?_
      obtain ⟨rfl, rfl⟩ := ret_s hf
      exact x_reti (pc := 36) dX0_together_36 rfl
    · replace hf := it_f hc hf
      refine x_iload_n (pc := 12) (x := x1) dX0_together_12 rfl ?_
      refine x_iload_n (pc := 13) (x := x3) dX0_together_13 rfl ?_
      replace hf := bd2_s hf; obtain ⟨v14, h14, e14, hf⟩ := hf
      refine x_cNi (pc := 14) (M' := mX7_holds) (as := [.int (x1), .int (x3)]) (st := []) dX0_together_14 mo_X7_holds lk_0_23 sm_X7_holds ⟨Nat.le_of_ble_eq_true rfl, Nat.le_of_ble_eq_true rfl⟩ rfl (Nat.le_of_ble_eq_true rfl) rfl (tm_X7_holds e14) ?_
      refine x_if_eq (pc := 17) (tgt := 29) (x := v14) dX0_together_17 rfl (fun hc => ?_) (fun hc => ?_)
      · replace hf := it_t hc hf
        refine x_iinc (pc := 29) (x := x3) (v := x3 + 1) (ls' := [some (va_rf (x0)), some (.int (x1)), some (.int (x2)), some (.int (x3 + 1))]) dX0_together_29 rfl rfl (by decide) rfl ?_
        refine x_goto (pc := 32) (tgt := 4) dX0_together_32 rfl ?_
        exact ih hf
      · replace hf := it_f hc hf
        refine x_iload_n (pc := 20) (x := x2) dX0_together_20 rfl ?_
        refine x_aload_n (pc := 21) (a := x0) dX0_together_21 rfl ?_
        replace hf := bd_s hf; obtain ⟨v22, e22, hf⟩ := hf
        refine x_getR (pc := 22) dX0_together_22 fl_0_13 e22 ?_
        refine x_iload_n (pc := 25) (x := x3) dX0_together_25 rfl ?_
        replace hf := bd_s hf; obtain ⟨v26, e26, hf⟩ := hf
        refine x_ldI (pc := 26) dX0_together_26 e26 ?_
        refine x_iadd (pc := 27) dX0_together_27 ?_
        refine x_istore_n (pc := 28) (ls' := [some (va_rf (x0)), some (.int (x1)), some (.int (x2 + v26)), some (.int (x3))]) dX0_together_28 (by decide) rfl ?_
        refine x_iinc (pc := 29) (x := x3) (v := x3 + 1) (ls' := [some (va_rf (x0)), some (.int (x1)), some (.int (x2 + v26)), some (.int (x3 + 1))]) dX0_together_29 rfl rfl (by decide) rfl ?_
        refine x_goto (pc := 32) (tgt := 4) dX0_together_32 rfl ?_
        exact ih hf

def f_X0_together (h : AH) (x0 : Option Nat) (x1 : Int32) : Option (Int32 × AH) :=
  g_X0_together_4  NN h x0 x1 0 0

set_option maxRecDepth 100000 in
set_option maxHeartbeats 4000000 in
theorem tm_X0_together {g : GT} {h : AH} {x0 : Option Nat} {x1 : Int32} {r : Int32} {h' : AH} (hf : f_X0_together h x0 x1 = some (r, h')) : Xm g mX0_together [va_rf (x0), .int (x1)] h (some (.int r)) h' := by
  refine xm_of mo_X0_together (Nat.le_of_ble_eq_true rfl) (ls := [some (va_rf (x0)), some (.int (x1)), none, none]) rfl ?_
  rw [f_X0_together] at hf
  refine x_iconst (pc := 0) (v := 0) dX0_together_0 (by decide) ?_
  refine x_istore_n (pc := 1) (ls' := [some (va_rf (x0)), some (.int (x1)), some (.int (0)), none]) dX0_together_1 (by decide) rfl ?_
  refine x_iconst (pc := 2) (v := 0) dX0_together_2 (by decide) ?_
  refine x_istore_n (pc := 3) (ls' := [some (va_rf (x0)), some (.int (x1)), some (.int (0)), some (.int (0))]) dX0_together_3 (by decide) rfl ?_
  exact tg_X0_together_4  NN hf

def g_X0_owner_5 : Nat → AH → Option Nat → Int32 → Int32 → Int32 → Option (Int32 × AH)
  | 0, _, _, _, _, _ => none
  | n + 1, h, x0, x1, x3, x4 =>
    bd (isO h x0 0) fun _ =>
    bd2 (f_X0_size h x0) fun v8 h8 =>
    if v8 ≤ x4 then (
      some (0, h8)
    ) else (
      bd2 (f_X7_holds h8 x1 x4) fun v17 h17 =>
      if v17 = 0 then (
        g_X0_owner_5  n h17 x0 x1 x3 (x4 + 1)
      ) else (
        bd (gR h17 x0 0 1) fun v25 =>
        bd (ldI h17 v25 x4) fun v30 =>
        if v30 ≤ x3 then (
          bd (gR h17 x0 0 1) fun v39 =>
          bd (ldI h17 v39 x4) fun v44 =>
          g_X0_owner_5  n h17 x0 x1 (x3 - v44) (x4 + 1)
        ) else (
          some (x4, h17)
        )
      )
    )

set_option maxRecDepth 100000 in
set_option maxHeartbeats 4000000 in
theorem tg_X0_owner_5 {g : GT} : ∀ (n : Nat) {h : AH} {x0 : Option Nat} {x1 : Int32} {x3 : Int32} {x4 : Int32} {r : Int32} {h' : AH}, g_X0_owner_5 n h x0 x1 x3 x4 = some (r, h') → Xj g mX0_owner h 5 [some (va_rf (x0)), some (.int (x1)), none, some (.int (x3)), some (.int (x4))] [] (some (.int r)) h' := by
  intro n
  induction n with
  | zero =>
    intros
    rename_i z
    cases z
  | succ n ih =>
    intro h x0 x1 x3 x4 r h' hf
    rw [g_X0_owner_5] at hf
    refine x_iload (pc := 5) (x := x4) dX0_owner_5 rfl ?_
    refine x_aload_n (pc := 7) (a := x0) dX0_owner_7 rfl ?_
    replace hf := bd_s hf; obtain ⟨u8, i8, hf⟩ := hf
    replace hf := bd2_s hf; obtain ⟨v8, h8, e8, hf⟩ := hf
    refine x_cVi (pc := 8) (M' := mX0_size) (as := []) (st := [.int (x4)]) (a := x0) (ci := 0) dX0_owner_8 mo_X0_size lk_0_19 im_X0_size se_X0_size rfl ⟨Nat.le_of_ble_eq_true rfl, Nat.le_of_ble_eq_true rfl⟩ rfl (Nat.le_of_ble_eq_true rfl) rfl i8 (tm_X0_size e8) ?_
    refine x_icmp_ge (pc := 11) (tgt := 53) (x := x4) (y := v8) dX0_owner_11 rfl (fun hc => ?_) (fun hc => ?_)
    · replace hf := it_t hc hf
      refine x_iconst (pc := 53) (v := 0) dX0_owner_53 (by decide) ?_
      obtain ⟨rfl, rfl⟩ := ret_s hf
      exact x_reti (pc := 54) dX0_owner_54 rfl
    · replace hf := it_f hc hf
      refine x_iload_n (pc := 14) (x := x1) dX0_owner_14 rfl ?_
      refine x_iload (pc := 15) (x := x4) dX0_owner_15 rfl ?_
      replace hf := bd2_s hf; obtain ⟨v17, h17, e17, hf⟩ := hf
      refine x_cNi (pc := 17) (M' := mX7_holds) (as := [.int (x1), .int (x4)]) (st := []) dX0_owner_17 mo_X7_holds lk_0_23 sm_X7_holds ⟨Nat.le_of_ble_eq_true rfl, Nat.le_of_ble_eq_true rfl⟩ rfl (Nat.le_of_ble_eq_true rfl) rfl (tm_X7_holds e17) ?_
      refine x_if_eq (pc := 20) (tgt := 47) (x := v17) dX0_owner_20 rfl (fun hc => ?_) (fun hc => ?_)
      · replace hf := it_t hc hf
        refine x_iinc (pc := 47) (x := x4) (v := x4 + 1) (ls' := [some (va_rf (x0)), some (.int (x1)), none, some (.int (x3)), some (.int (x4 + 1))]) dX0_owner_47 rfl rfl (by decide) rfl ?_
        refine x_goto (pc := 50) (tgt := 5) dX0_owner_50 rfl ?_
        exact ih hf
      · replace hf := it_f hc hf
        refine x_iload_n (pc := 23) (x := x3) dX0_owner_23 rfl ?_
        refine x_aload_n (pc := 24) (a := x0) dX0_owner_24 rfl ?_
        replace hf := bd_s hf; obtain ⟨v25, e25, hf⟩ := hf
        refine x_getR (pc := 25) dX0_owner_25 fl_0_13 e25 ?_
        refine x_iload (pc := 28) (x := x4) dX0_owner_28 rfl ?_
        replace hf := bd_s hf; obtain ⟨v30, e30, hf⟩ := hf
        refine x_ldI (pc := 30) dX0_owner_30 e30 ?_
        refine x_icmp_ge (pc := 31) (tgt := 37) (x := x3) (y := v30) dX0_owner_31 rfl (fun hc => ?_) (fun hc => ?_)
        · replace hf := it_t hc hf
          refine x_iload_n (pc := 37) (x := x3) dX0_owner_37 rfl ?_
          refine x_aload_n (pc := 38) (a := x0) dX0_owner_38 rfl ?_
          replace hf := bd_s hf; obtain ⟨v39, e39, hf⟩ := hf
          refine x_getR (pc := 39) dX0_owner_39 fl_0_13 e39 ?_
          refine x_iload (pc := 42) (x := x4) dX0_owner_42 rfl ?_
          replace hf := bd_s hf; obtain ⟨v44, e44, hf⟩ := hf
          refine x_ldI (pc := 44) dX0_owner_44 e44 ?_
          refine x_isub (pc := 45) dX0_owner_45 ?_
          refine x_istore_n (pc := 46) (ls' := [some (va_rf (x0)), some (.int (x1)), none, some (.int (x3 - v44)), some (.int (x4))]) dX0_owner_46 (by decide) rfl ?_
          refine x_iinc (pc := 47) (x := x4) (v := x4 + 1) (ls' := [some (va_rf (x0)), some (.int (x1)), none, some (.int (x3 - v44)), some (.int (x4 + 1))]) dX0_owner_47 rfl rfl (by decide) rfl ?_
          refine x_goto (pc := 50) (tgt := 5) dX0_owner_50 rfl ?_
          exact ih hf
        · replace hf := it_f hc hf
          refine x_iload (pc := 34) (x := x4) dX0_owner_34 rfl ?_
          obtain ⟨rfl, rfl⟩ := ret_s hf
          exact x_reti (pc := 36) dX0_owner_36 rfl

def f_X0_owner (h : AH) (x0 : Option Nat) (x1 : Int32) (x2 : Int32) : Option (Int32 × AH) :=
  g_X0_owner_5  NN h x0 x1 x2 0

set_option maxRecDepth 100000 in
set_option maxHeartbeats 4000000 in
theorem tm_X0_owner {g : GT} {h : AH} {x0 : Option Nat} {x1 : Int32} {x2 : Int32} {r : Int32} {h' : AH} (hf : f_X0_owner h x0 x1 x2 = some (r, h')) : Xm g mX0_owner [va_rf (x0), .int (x1), .int (x2)] h (some (.int r)) h' := by
  refine xm_of mo_X0_owner (Nat.le_of_ble_eq_true rfl) (ls := [some (va_rf (x0)), some (.int (x1)), some (.int (x2)), none, none]) rfl ?_
  rw [f_X0_owner] at hf
  refine x_iload_n (pc := 0) (x := x2) dX0_owner_0 rfl ?_
  refine x_istore_n (pc := 1) (ls' := [some (va_rf (x0)), some (.int (x1)), some (.int (x2)), some (.int (x2)), none]) dX0_owner_1 (by decide) rfl ?_
  refine x_iconst (pc := 2) (v := 0) dX0_owner_2 (by decide) ?_
  refine x_istore (pc := 3) (ls' := [some (va_rf (x0)), some (.int (x1)), some (.int (x2)), some (.int (x2)), some (.int (0))]) dX0_owner_3 (by decide) rfl ?_
  refine x_mask [true, true, false, true, true] rfl ?_
  exact tg_X0_owner_5  NN hf

def g_X0_draw_10 : Nat → AH → Option Nat → Int32 → Int32 → Int32 → Option AH
  | 0, _, _, _, _, _ => none
  | n + 1, h, x0, x2, x3, x4 =>
    bd (isO h x0 0) fun _ =>
    bd2 (f_X0_size h x0) fun v13 h13 =>
    if v13 ≤ x4 then (
      some h13
    ) else (
      bd (isO h13 x0 0) fun _ =>
      bd2 (f_X0_together h13 x0 x3) fun v35 h35 =>
      bd (rm ((((1103515245 * x2) + 12345 : Int32).toUInt32 >>> ((16 : Int32).toUInt32 &&& Int32.toUInt32 31)).toInt32) (if 1 < v35 then v35 else 1)) fun v41 =>
      bd (isO h35 x0 0) fun _ =>
      bd2 (f_X0_owner h35 x0 x3 v41) fun v48 h48 =>
      bd (gR h48 x0 0 2) fun v54 =>
      bd (stI h48 v54 x4 v48) fun h61 =>
      g_X0_draw_10  n h61 x0 ((1103515245 * x2) + 12345) (x3 &&& ((1 <<< (v48 &&& 31)) ^^^ (-1))) (x4 + 1)
    )

set_option maxRecDepth 100000 in
set_option maxHeartbeats 4000000 in
theorem tg_X0_draw_10 {g : GT} : ∀ (n : Nat) {h : AH} {x0 : Option Nat} {x2 : Int32} {x3 : Int32} {x4 : Int32} {h' : AH}, g_X0_draw_10 n h x0 x2 x3 x4 = some h' → Xj g mX0_draw h 10 [some (va_rf (x0)), none, some (.int (x2)), some (.int (x3)), some (.int (x4)), none, none] [] none h' := by
  intro n
  induction n with
  | zero =>
    intros
    rename_i z
    cases z
  | succ n ih =>
    intro h x0 x2 x3 x4 h' hf
    rw [g_X0_draw_10] at hf
    refine x_iload (pc := 10) (x := x4) dX0_draw_10 rfl ?_
    refine x_aload_n (pc := 12) (a := x0) dX0_draw_12 rfl ?_
    replace hf := bd_s hf; obtain ⟨u13, i13, hf⟩ := hf
    replace hf := bd2_s hf; obtain ⟨v13, h13, e13, hf⟩ := hf
    refine x_cVi (pc := 13) (M' := mX0_size) (as := []) (st := [.int (x4)]) (a := x0) (ci := 0) dX0_draw_13 mo_X0_size lk_0_19 im_X0_size se_X0_size rfl ⟨Nat.le_of_ble_eq_true rfl, Nat.le_of_ble_eq_true rfl⟩ rfl (Nat.le_of_ble_eq_true rfl) rfl i13 (tm_X0_size e13) ?_
    refine x_icmp_ge (pc := 16) (tgt := 77) (x := x4) (y := v13) dX0_draw_16 rfl (fun hc => ?_) (fun hc => ?_)
    · replace hf := it_t hc hf
      obtain rfl := Option.some.inj hf
      exact x_vret (pc := 77) dX0_draw_77 rfl
    · replace hf := it_f hc hf
      refine x_ldc (pc := 19) (v := 1103515245) dX0_draw_19 kc_0_32 ?_
      refine x_iload_n (pc := 21) (x := x2) dX0_draw_21 rfl ?_
      refine x_imul (pc := 22) dX0_draw_22 ?_
      refine x_sipush (pc := 23) (v := 12345) dX0_draw_23 (by decide) ?_
      refine x_iadd (pc := 26) dX0_draw_26 ?_
      refine x_istore_n (pc := 27) (ls' := [some (va_rf (x0)), none, some (.int ((1103515245 * x2) + 12345)), some (.int (x3)), some (.int (x4)), none, none]) dX0_draw_27 (by decide) rfl ?_
      refine x_iload_n (pc := 28) (x := (1103515245 * x2) + 12345) dX0_draw_28 rfl ?_
      refine x_bipush (pc := 29) (v := 16) dX0_draw_29 (by decide) ?_
      refine x_iushr (pc := 31) dX0_draw_31 ?_
      refine x_iconst (pc := 32) (v := 1) dX0_draw_32 (by decide) ?_
      refine x_aload_n (pc := 33) (a := x0) dX0_draw_33 rfl ?_
      refine x_iload_n (pc := 34) (x := x3) dX0_draw_34 rfl ?_
      replace hf := bd_s hf; obtain ⟨u35, i35, hf⟩ := hf
      replace hf := bd2_s hf; obtain ⟨v35, h35, e35, hf⟩ := hf
      refine x_cVi (pc := 35) (M' := mX0_together) (as := [.int (x3)]) (st := [.int (1), .int (((((1103515245 * x2) + 12345 : Int32).toUInt32 >>> ((16 : Int32).toUInt32 &&& Int32.toUInt32 31)).toInt32))]) (a := x0) (ci := 0) dX0_draw_35 mo_X0_together lk_0_33 im_X0_together se_X0_together rfl ⟨Nat.le_of_ble_eq_true rfl, Nat.le_of_ble_eq_true rfl⟩ rfl (Nat.le_of_ble_eq_true rfl) rfl i35 (tm_X0_together e35) ?_
      refine x_max (pc := 38) dX0_draw_38 lm_0_37 ma_max_1 ma_0 ma_max_2 (Nat.le_of_ble_eq_true rfl) (Nat.le_of_ble_eq_true rfl) ?_
      replace hf := bd_s hf; obtain ⟨v41, e41, hf⟩ := hf
      refine x_rm (pc := 41) dX0_draw_41 e41 ?_
      refine x_istore (pc := 42) (ls' := [some (va_rf (x0)), none, some (.int ((1103515245 * x2) + 12345)), some (.int (x3)), some (.int (x4)), some (.int (v41)), none]) dX0_draw_42 (by decide) rfl ?_
      refine x_aload_n (pc := 44) (a := x0) dX0_draw_44 rfl ?_
      refine x_iload_n (pc := 45) (x := x3) dX0_draw_45 rfl ?_
      refine x_iload (pc := 46) (x := v41) dX0_draw_46 rfl ?_
      replace hf := bd_s hf; obtain ⟨u48, i48, hf⟩ := hf
      replace hf := bd2_s hf; obtain ⟨v48, h48, e48, hf⟩ := hf
      refine x_cVi (pc := 48) (M' := mX0_owner) (as := [.int (x3), .int (v41)]) (st := []) (a := x0) (ci := 0) dX0_draw_48 mo_X0_owner lk_0_43 im_X0_owner se_X0_owner rfl ⟨Nat.le_of_ble_eq_true rfl, Nat.le_of_ble_eq_true rfl⟩ rfl (Nat.le_of_ble_eq_true rfl) rfl i48 (tm_X0_owner e48) ?_
      refine x_istore (pc := 51) (ls' := [some (va_rf (x0)), none, some (.int ((1103515245 * x2) + 12345)), some (.int (x3)), some (.int (x4)), some (.int (v41)), some (.int (v48))]) dX0_draw_51 (by decide) rfl ?_
      refine x_aload_n (pc := 53) (a := x0) dX0_draw_53 rfl ?_
      replace hf := bd_s hf; obtain ⟨v54, e54, hf⟩ := hf
      refine x_getR (pc := 54) dX0_draw_54 fl_0_16 e54 ?_
      refine x_iload (pc := 57) (x := x4) dX0_draw_57 rfl ?_
      refine x_iload (pc := 59) (x := v48) dX0_draw_59 rfl ?_
      replace hf := bd_s hf; obtain ⟨h61, e61, hf⟩ := hf
      refine x_stI (pc := 61) dX0_draw_61 e61 ?_
      refine x_iload_n (pc := 62) (x := x3) dX0_draw_62 rfl ?_
      refine x_iconst (pc := 63) (v := 1) dX0_draw_63 (by decide) ?_
      refine x_iload (pc := 64) (x := v48) dX0_draw_64 rfl ?_
      refine x_ishl (pc := 66) dX0_draw_66 ?_
      refine x_iconst (pc := 67) (v := -1) dX0_draw_67 (by decide) ?_
      refine x_ixor (pc := 68) dX0_draw_68 ?_
      refine x_iand (pc := 69) dX0_draw_69 ?_
      refine x_istore_n (pc := 70) (ls' := [some (va_rf (x0)), none, some (.int ((1103515245 * x2) + 12345)), some (.int (x3 &&& ((1 <<< (v48 &&& 31)) ^^^ (-1)))), some (.int (x4)), some (.int (v41)), some (.int (v48))]) dX0_draw_70 (by decide) rfl ?_
      refine x_iinc (pc := 71) (x := x4) (v := x4 + 1) (ls' := [some (va_rf (x0)), none, some (.int ((1103515245 * x2) + 12345)), some (.int (x3 &&& ((1 <<< (v48 &&& 31)) ^^^ (-1)))), some (.int (x4 + 1)), some (.int (v41)), some (.int (v48))]) dX0_draw_71 rfl rfl (by decide) rfl ?_
      refine x_goto (pc := 74) (tgt := 10) dX0_draw_74 rfl ?_
      refine x_mask [true, false, true, true, true, false, false] rfl ?_
      exact ih hf

def f_X0_draw (h : AH) (x0 : Option Nat) (x1 : Int32) : Option AH :=
  bd (isO h x0 0) fun _ =>
  bd2 (f_X0_everybody h x0) fun v3 h3 =>
  g_X0_draw_10  NN h3 x0 x1 v3 0

set_option maxRecDepth 100000 in
set_option maxHeartbeats 4000000 in
theorem tm_X0_draw {g : GT} {h : AH} {x0 : Option Nat} {x1 : Int32} {h' : AH} (hf : f_X0_draw h x0 x1 = some h') : Xm g mX0_draw [va_rf (x0), .int (x1)] h none h' := by
  refine xm_of mo_X0_draw (Nat.le_of_ble_eq_true rfl) (ls := [some (va_rf (x0)), some (.int (x1)), none, none, none, none, none]) rfl ?_
  rw [f_X0_draw] at hf
  refine x_iload_n (pc := 0) (x := x1) dX0_draw_0 rfl ?_
  refine x_istore_n (pc := 1) (ls' := [some (va_rf (x0)), some (.int (x1)), some (.int (x1)), none, none, none, none]) dX0_draw_1 (by decide) rfl ?_
  refine x_aload_n (pc := 2) (a := x0) dX0_draw_2 rfl ?_
  replace hf := bd_s hf; obtain ⟨u3, i3, hf⟩ := hf
  replace hf := bd2_s hf; obtain ⟨v3, h3, e3, hf⟩ := hf
  refine x_cVi (pc := 3) (M' := mX0_everybody) (as := []) (st := []) (a := x0) (ci := 0) dX0_draw_3 mo_X0_everybody lk_0_29 im_X0_everybody se_X0_everybody rfl ⟨Nat.le_of_ble_eq_true rfl, Nat.le_of_ble_eq_true rfl⟩ rfl (Nat.le_of_ble_eq_true rfl) rfl i3 (tm_X0_everybody e3) ?_
  refine x_istore_n (pc := 6) (ls' := [some (va_rf (x0)), some (.int (x1)), some (.int (x1)), some (.int (v3)), none, none, none]) dX0_draw_6 (by decide) rfl ?_
  refine x_iconst (pc := 7) (v := 0) dX0_draw_7 (by decide) ?_
  refine x_istore (pc := 8) (ls' := [some (va_rf (x0)), some (.int (x1)), some (.int (x1)), some (.int (v3)), some (.int (0)), none, none]) dX0_draw_8 (by decide) rfl ?_
  refine x_mask [true, false, true, true, true, false, false] rfl ?_
  exact tg_X0_draw_10  NN hf

def f_X0_init (h : AH) (x0 : Nat) : Option AH :=
  bd2 (nA h 0 1) fun v6 h6 =>
  bd (pR h6 (some x0) 0 0 v6) fun h8 =>
  bd2 (nA h8 0 12) fun v14 h14 =>
  bd (pR h14 (some x0) 0 1 v14) fun h16 =>
  bd2 (nA h16 0 12) fun v22 h22 =>
  bd (pR h22 (some x0) 0 2 v22) fun h24 =>
  some h24

set_option maxRecDepth 100000 in
set_option maxHeartbeats 4000000 in
theorem tm_X0_init {g : GT} {h : AH} {x0 : Nat} {h' : AH} (hf : f_X0_init h x0 = some h') : Xm g mX0_init [va_rf (some x0)] h none h' := by
  refine xm_of mo_X0_init (Nat.le_of_ble_eq_true rfl) (ls := [some (va_rf (some x0))]) rfl ?_
  rw [f_X0_init] at hf
  refine x_aload_n (pc := 0) (a := some x0) dX0_init_0 rfl ?_
  refine x_objInit (pc := 1) dX0_init_1 lo_0_1 oi_1 oi_2 (Nat.le_of_ble_eq_true rfl) (Nat.le_of_ble_eq_true rfl) ?_
  refine x_aload_n (pc := 4) (a := some x0) dX0_init_4 rfl ?_
  refine x_iconst (pc := 5) (v := 1) dX0_init_5 (by decide) ?_
  replace hf := bd2_s hf; obtain ⟨v6, h6, e6, hf⟩ := hf
  refine x_nI (pc := 6) dX0_init_6 ac_int e6 ?_
  replace hf := bd_s hf; obtain ⟨h8, e8, hf⟩ := hf
  refine x_putR (pc := 8) dX0_init_8 fl_0_7 (fW_in rfl rfl) e8 ?_
  refine x_aload_n (pc := 11) (a := some x0) dX0_init_11 rfl ?_
  refine x_bipush (pc := 12) (v := 12) dX0_init_12 (by decide) ?_
  replace hf := bd2_s hf; obtain ⟨v14, h14, e14, hf⟩ := hf
  refine x_nI (pc := 14) dX0_init_14 ac_int e14 ?_
  replace hf := bd_s hf; obtain ⟨h16, e16, hf⟩ := hf
  refine x_putR (pc := 16) dX0_init_16 fl_0_13 (fW_in rfl rfl) e16 ?_
  refine x_aload_n (pc := 19) (a := some x0) dX0_init_19 rfl ?_
  refine x_bipush (pc := 20) (v := 12) dX0_init_20 (by decide) ?_
  replace hf := bd2_s hf; obtain ⟨v22, h22, e22, hf⟩ := hf
  refine x_nI (pc := 22) dX0_init_22 ac_int e22 ?_
  replace hf := bd_s hf; obtain ⟨h24, e24, hf⟩ := hf
  refine x_putR (pc := 24) dX0_init_24 fl_0_16 (fW_in rfl rfl) e24 ?_
  obtain rfl := Option.some.inj hf
  exact x_vret (pc := 27) dX0_init_27 rfl

def g_X0_placeOf_4 : Nat → AH → Option Nat → Int32 → Int32 → Int32 → Option (Int32 × AH)
  | 0, _, _, _, _, _ => none
  | n + 1, h, x0, x1, x2, x3 =>
    bd (isO h x0 0) fun _ =>
    bd2 (f_X0_size h x0) fun v6 h6 =>
    if v6 ≤ x3 then (
      some (x2, h6)
    ) else (
      bd (gR h6 x0 0 2) fun v13 =>
      bd (ldI h6 v13 x3) fun v17 =>
      if ¬ v17 = x1 then (
        g_X0_placeOf_4  n h6 x0 x1 x2 (x3 + 1)
      ) else (
        g_X0_placeOf_4  n h6 x0 x1 x3 (x3 + 1)
      )
    )

set_option maxRecDepth 100000 in
set_option maxHeartbeats 4000000 in
theorem tg_X0_placeOf_4 {g : GT} : ∀ (n : Nat) {h : AH} {x0 : Option Nat} {x1 : Int32} {x2 : Int32} {x3 : Int32} {r : Int32} {h' : AH}, g_X0_placeOf_4 n h x0 x1 x2 x3 = some (r, h') → Xj g mX0_placeOf h 4 [some (va_rf (x0)), some (.int (x1)), some (.int (x2)), some (.int (x3))] [] (some (.int r)) h' := by
  intro n
  induction n with
  | zero =>
    intros
    rename_i z
    cases z
  | succ n ih =>
    intro h x0 x1 x2 x3 r h' hf
    rw [g_X0_placeOf_4] at hf
    refine x_iload_n (pc := 4) (x := x3) dX0_placeOf_4 rfl ?_
    refine x_aload_n (pc := 5) (a := x0) dX0_placeOf_5 rfl ?_
    replace hf := bd_s hf; obtain ⟨u6, i6, hf⟩ := hf
    replace hf := bd2_s hf; obtain ⟨v6, h6, e6, hf⟩ := hf
    refine x_cVi (pc := 6) (M' := mX0_size) (as := []) (st := [.int (x3)]) (a := x0) (ci := 0) dX0_placeOf_6 mo_X0_size lk_0_19 im_X0_size se_X0_size rfl ⟨Nat.le_of_ble_eq_true rfl, Nat.le_of_ble_eq_true rfl⟩ rfl (Nat.le_of_ble_eq_true rfl) rfl i6 (tm_X0_size e6) ?_
    refine x_icmp_ge (pc := 9) (tgt := 30) (x := x3) (y := v6) dX0_placeOf_9 rfl (fun hc => ?_) (fun hc => ?_)
    · replace hf := it_t hc hf
      refine x_iload_n (pc := 30) (x := x2) dX0_placeOf_30 rfl ?_
      obtain ⟨rfl, rfl⟩ := ret_s hf
      exact x_reti (pc := 31) dX0_placeOf_31 rfl
    · replace hf := it_f hc hf
      refine x_aload_n (pc := 12) (a := x0) dX0_placeOf_12 rfl ?_
      replace hf := bd_s hf; obtain ⟨v13, e13, hf⟩ := hf
      refine x_getR (pc := 13) dX0_placeOf_13 fl_0_16 e13 ?_
      refine x_iload_n (pc := 16) (x := x3) dX0_placeOf_16 rfl ?_
      replace hf := bd_s hf; obtain ⟨v17, e17, hf⟩ := hf
      refine x_ldI (pc := 17) dX0_placeOf_17 e17 ?_
      refine x_iload_n (pc := 18) (x := x1) dX0_placeOf_18 rfl ?_
      refine x_icmp_ne (pc := 19) (tgt := 24) (x := v17) (y := x1) dX0_placeOf_19 rfl (fun hc => ?_) (fun hc => ?_)
      · replace hf := it_t hc hf
        refine x_iinc (pc := 24) (x := x3) (v := x3 + 1) (ls' := [some (va_rf (x0)), some (.int (x1)), some (.int (x2)), some (.int (x3 + 1))]) dX0_placeOf_24 rfl rfl (by decide) rfl ?_
        refine x_goto (pc := 27) (tgt := 4) dX0_placeOf_27 rfl ?_
        exact ih hf
      · replace hf := it_n hc hf
        refine x_iload_n (pc := 22) (x := x3) dX0_placeOf_22 rfl ?_
        refine x_istore_n (pc := 23) (ls' := [some (va_rf (x0)), some (.int (x1)), some (.int (x3)), some (.int (x3))]) dX0_placeOf_23 (by decide) rfl ?_
        refine x_iinc (pc := 24) (x := x3) (v := x3 + 1) (ls' := [some (va_rf (x0)), some (.int (x1)), some (.int (x3)), some (.int (x3 + 1))]) dX0_placeOf_24 rfl rfl (by decide) rfl ?_
        refine x_goto (pc := 27) (tgt := 4) dX0_placeOf_27 rfl ?_
        exact ih hf

def f_X0_placeOf (h : AH) (x0 : Option Nat) (x1 : Int32) : Option (Int32 × AH) :=
  g_X0_placeOf_4  NN h x0 x1 0 0

set_option maxRecDepth 100000 in
set_option maxHeartbeats 4000000 in
theorem tm_X0_placeOf {g : GT} {h : AH} {x0 : Option Nat} {x1 : Int32} {r : Int32} {h' : AH} (hf : f_X0_placeOf h x0 x1 = some (r, h')) : Xm g mX0_placeOf [va_rf (x0), .int (x1)] h (some (.int r)) h' := by
  refine xm_of mo_X0_placeOf (Nat.le_of_ble_eq_true rfl) (ls := [some (va_rf (x0)), some (.int (x1)), none, none]) rfl ?_
  rw [f_X0_placeOf] at hf
  refine x_iconst (pc := 0) (v := 0) dX0_placeOf_0 (by decide) ?_
  refine x_istore_n (pc := 1) (ls' := [some (va_rf (x0)), some (.int (x1)), some (.int (0)), none]) dX0_placeOf_1 (by decide) rfl ?_
  refine x_iconst (pc := 2) (v := 0) dX0_placeOf_2 (by decide) ?_
  refine x_istore_n (pc := 3) (ls' := [some (va_rf (x0)), some (.int (x1)), some (.int (0)), some (.int (0))]) dX0_placeOf_3 (by decide) rfl ?_
  exact tg_X0_placeOf_4  NN hf

def f_X2_bringBack (h : AH) (x0 : Option Nat) : Option AH :=
  bd (gR h x0 2 0) fun v1 =>
  match v1 with
  | none => (
    some h
  )
  | some _ => (
    bd (gR h x0 2 3) fun v8 =>
    bd (gR h x0 2 0) fun v13 =>
    bd (gI h x0 2 1) fun v17 =>
    bd (gI h x0 2 2) fun v21 =>
    bd (cpI h v8 0 v13 v17 v21) fun h24 =>
    some h24
  )

set_option maxRecDepth 100000 in
set_option maxHeartbeats 4000000 in
theorem tm_X2_bringBack {g : GT} {h : AH} {x0 : Option Nat} {h' : AH} (hf : f_X2_bringBack h x0 = some h') : Xm g mX2_bringBack [va_rf (x0)] h none h' := by
  refine xm_of mo_X2_bringBack (Nat.le_of_ble_eq_true rfl) (ls := [some (va_rf (x0))]) rfl ?_
  rw [f_X2_bringBack] at hf
  refine x_aload_n (pc := 0) (a := x0) dX2_bringBack_0 rfl ?_
  replace hf := bd_s hf; obtain ⟨v1, e1, hf⟩ := hf
  refine x_getR (pc := 1) dX2_bringBack_1 fl_2_7 e1 ?_
  cases q4 : v1 with
  | none =>
    rw [q4] at hf
    refine x_ifnullN (pc := 4) (tgt := 27) dX2_bringBack_4 rfl ?_
    obtain rfl := Option.some.inj hf
    exact x_vret (pc := 27) dX2_bringBack_27 rfl
  | some w4 =>
    rw [q4] at hf
    refine x_ifnull (pc := 4) dX2_bringBack_4 ?_
    refine x_aload_n (pc := 7) (a := x0) dX2_bringBack_7 rfl ?_
    replace hf := bd_s hf; obtain ⟨v8, e8, hf⟩ := hf
    refine x_getR (pc := 8) dX2_bringBack_8 fl_2_20 e8 ?_
    refine x_iconst (pc := 11) (v := 0) dX2_bringBack_11 (by decide) ?_
    refine x_aload_n (pc := 12) (a := x0) dX2_bringBack_12 rfl ?_
    replace hf := bd_s hf; obtain ⟨v13, e13, hf⟩ := hf
    refine x_getR (pc := 13) dX2_bringBack_13 fl_2_7 e13 ?_
    refine x_aload_n (pc := 16) (a := x0) dX2_bringBack_16 rfl ?_
    replace hf := bd_s hf; obtain ⟨v17, e17, hf⟩ := hf
    refine x_getI (pc := 17) dX2_bringBack_17 fl_2_13 e17 ?_
    refine x_aload_n (pc := 20) (a := x0) dX2_bringBack_20 rfl ?_
    replace hf := bd_s hf; obtain ⟨v21, e21, hf⟩ := hf
    refine x_getI (pc := 21) dX2_bringBack_21 fl_2_17 e21 ?_
    replace hf := bd_s hf; obtain ⟨h24, e24, hf⟩ := hf
    refine x_copy (pc := 24) dX2_bringBack_24 la_2_25 cp_1 cp_2 cp_3 (Nat.le_of_ble_eq_true rfl) (Nat.le_of_ble_eq_true rfl) e24 ?_
    obtain rfl := Option.some.inj hf
    exact x_vret (pc := 27) dX2_bringBack_27 rfl

def f_X1_bringBack (h : AH) (x0 : Option Nat) : Option (Int32 × AH) :=
  bd (gI h x0 1 2) fun v1 =>
  if ¬ v1 = 0 then (
    bd (gI h x0 1 1) fun v11 =>
    bd (rm ((v11 + 20) - 1) 20) fun v21 =>
    bd (pI h x0 1 1 v21) fun h22 =>
    bd (gI h22 x0 1 2) fun v27 =>
    bd (pI h22 x0 1 2 (v27 - 1)) fun h32 =>
    bd (gR h32 x0 1 0) fun v36 =>
    bd (gI h32 x0 1 1) fun v40 =>
    bd (ldR h32 v36 3 v40) fun v43 =>
    bd (isO h32 v43 2) fun _ =>
    bd (f_X2_bringBack h32 v43) fun h44 =>
    some (1, h44)
  ) else (
    some (0, h)
  )

set_option maxRecDepth 100000 in
set_option maxHeartbeats 4000000 in
theorem tm_X1_bringBack {g : GT} {h : AH} {x0 : Option Nat} {r : Int32} {h' : AH} (hf : f_X1_bringBack h x0 = some (r, h')) : Xm g mX1_bringBack [va_rf (x0)] h (some (.int r)) h' := by
  refine xm_of mo_X1_bringBack (Nat.le_of_ble_eq_true rfl) (ls := [some (va_rf (x0))]) rfl ?_
  rw [f_X1_bringBack] at hf
  refine x_aload_n (pc := 0) (a := x0) dX1_bringBack_0 rfl ?_
  replace hf := bd_s hf; obtain ⟨v1, e1, hf⟩ := hf
  refine x_getI (pc := 1) dX1_bringBack_1 fl_1_19 e1 ?_
  refine x_if_ne (pc := 4) (tgt := 9) (x := v1) dX1_bringBack_4 rfl (fun hc => ?_) (fun hc => ?_)
  · replace hf := it_t hc hf
    refine x_aload_n (pc := 9) (a := x0) dX1_bringBack_9 rfl ?_
    refine x_aload_n (pc := 10) (a := x0) dX1_bringBack_10 rfl ?_
    replace hf := bd_s hf; obtain ⟨v11, e11, hf⟩ := hf
    refine x_getI (pc := 11) dX1_bringBack_11 fl_1_15 e11 ?_
    refine x_bipush (pc := 14) (v := 20) dX1_bringBack_14 (by decide) ?_
    refine x_iadd (pc := 16) dX1_bringBack_16 ?_
    refine x_iconst (pc := 17) (v := 1) dX1_bringBack_17 (by decide) ?_
    refine x_isub (pc := 18) dX1_bringBack_18 ?_
    refine x_bipush (pc := 19) (v := 20) dX1_bringBack_19 (by decide) ?_
    replace hf := bd_s hf; obtain ⟨v21, e21, hf⟩ := hf
    refine x_rm (pc := 21) dX1_bringBack_21 e21 ?_
    replace hf := bd_s hf; obtain ⟨h22, e22, hf⟩ := hf
    refine x_putI (pc := 22) dX1_bringBack_22 fl_1_15 (fW_no rfl) e22 ?_
    refine x_aload_n (pc := 25) (a := x0) dX1_bringBack_25 rfl ?_
    refine x_dup (pc := 26) dX1_bringBack_26 ?_
    replace hf := bd_s hf; obtain ⟨v27, e27, hf⟩ := hf
    refine x_getI (pc := 27) dX1_bringBack_27 fl_1_19 e27 ?_
    refine x_iconst (pc := 30) (v := 1) dX1_bringBack_30 (by decide) ?_
    refine x_isub (pc := 31) dX1_bringBack_31 ?_
    replace hf := bd_s hf; obtain ⟨h32, e32, hf⟩ := hf
    refine x_putI (pc := 32) dX1_bringBack_32 fl_1_19 (fW_no rfl) e32 ?_
    refine x_aload_n (pc := 35) (a := x0) dX1_bringBack_35 rfl ?_
    replace hf := bd_s hf; obtain ⟨v36, e36, hf⟩ := hf
    refine x_getR (pc := 36) dX1_bringBack_36 fl_1_11 e36 ?_
    refine x_aload_n (pc := 39) (a := x0) dX1_bringBack_39 rfl ?_
    replace hf := bd_s hf; obtain ⟨v40, e40, hf⟩ := hf
    refine x_getI (pc := 40) dX1_bringBack_40 fl_1_15 e40 ?_
    replace hf := bd_s hf; obtain ⟨v43, e43, hf⟩ := hf
    refine x_ldR (pc := 43) (by decide) dX1_bringBack_43 e43 ?_
    replace hf := bd_s hf; obtain ⟨u44, i44, hf⟩ := hf
    replace hf := bd_s hf; obtain ⟨h44, e44, hf⟩ := hf
    refine x_cVv (pc := 44) (M' := mX2_bringBack) (as := []) (st := []) (a := v43) (ci := 2) dX1_bringBack_44 mo_X2_bringBack lk_1_33 im_X2_bringBack se_X2_bringBack rfl ⟨Nat.le_of_ble_eq_true rfl, Nat.le_of_ble_eq_true rfl⟩ rfl (Nat.le_of_ble_eq_true rfl) rfl i44 (tm_X2_bringBack e44) ?_
    refine x_iconst (pc := 47) (v := 1) dX1_bringBack_47 (by decide) ?_
    obtain ⟨rfl, rfl⟩ := ret_s hf
    exact x_retz (pc := 48) dX1_bringBack_48 rfl (by decide)
  · replace hf := it_n hc hf
    refine x_iconst (pc := 7) (v := 0) dX1_bringBack_7 (by decide) ?_
    obtain ⟨rfl, rfl⟩ := ret_s hf
    exact x_retz (pc := 8) dX1_bringBack_8 rfl (by decide)

def f_X2_init (h : AH) (x0 : Nat) : Option AH :=
  bd (pR h (some x0) 2 0 none) fun h6 =>
  bd (pI h6 (some x0) 2 1 0) fun h11 =>
  bd (pI h11 (some x0) 2 2 0) fun h16 =>
  bd2 (nA h16 0 1) fun v21 h21 =>
  bd (pR h21 (some x0) 2 3 v21) fun h23 =>
  some h23

set_option maxRecDepth 100000 in
set_option maxHeartbeats 4000000 in
theorem tm_X2_init {g : GT} {h : AH} {x0 : Nat} {h' : AH} (hf : f_X2_init h x0 = some h') : Xm g mX2_init [va_rf (some x0)] h none h' := by
  refine xm_of mo_X2_init (Nat.le_of_ble_eq_true rfl) (ls := [some (va_rf (some x0))]) rfl ?_
  rw [f_X2_init] at hf
  refine x_aload_n (pc := 0) (a := some x0) dX2_init_0 rfl ?_
  refine x_objInit (pc := 1) dX2_init_1 lo_2_1 oi_1 oi_2 (Nat.le_of_ble_eq_true rfl) (Nat.le_of_ble_eq_true rfl) ?_
  refine x_aload_n (pc := 4) (a := some x0) dX2_init_4 rfl ?_
  refine x_null (pc := 5) dX2_init_5 ?_
  replace hf := bd_s hf; obtain ⟨h6, e6, hf⟩ := hf
  refine x_putR (pc := 6) dX2_init_6 fl_2_7 (fW_no rfl) e6 ?_
  refine x_aload_n (pc := 9) (a := some x0) dX2_init_9 rfl ?_
  refine x_iconst (pc := 10) (v := 0) dX2_init_10 (by decide) ?_
  replace hf := bd_s hf; obtain ⟨h11, e11, hf⟩ := hf
  refine x_putI (pc := 11) dX2_init_11 fl_2_13 (fW_no rfl) e11 ?_
  refine x_aload_n (pc := 14) (a := some x0) dX2_init_14 rfl ?_
  refine x_iconst (pc := 15) (v := 0) dX2_init_15 (by decide) ?_
  replace hf := bd_s hf; obtain ⟨h16, e16, hf⟩ := hf
  refine x_putI (pc := 16) dX2_init_16 fl_2_17 (fW_no rfl) e16 ?_
  refine x_aload_n (pc := 19) (a := some x0) dX2_init_19 rfl ?_
  refine x_iconst (pc := 20) (v := 1) dX2_init_20 (by decide) ?_
  replace hf := bd2_s hf; obtain ⟨v21, h21, e21, hf⟩ := hf
  refine x_nI (pc := 21) dX2_init_21 ac_int e21 ?_
  replace hf := bd_s hf; obtain ⟨h23, e23, hf⟩ := hf
  refine x_putR (pc := 23) dX2_init_23 fl_2_20 (fW_no rfl) e23 ?_
  obtain rfl := Option.some.inj hf
  exact x_vret (pc := 26) dX2_init_26 rfl

def g_X1_init_25 : Nat → AH → Option Nat → Int32 → Option AH
  | 0, _, _, _ => none
  | n + 1, h, x0, x1 =>
    if 20 ≤ x1 then (
      some h
    ) else (
      bd (gR h x0 1 0) fun v32 =>
      bd (nO h 2 4) fun h36 =>
      bd (f_X2_init h36 (hn h)) fun h40 =>
      bd (stR h40 v32 3 2 x1 (some (hn h))) fun h43 =>
      g_X1_init_25  n h43 x0 (x1 + 1)
    )

set_option maxRecDepth 100000 in
set_option maxHeartbeats 4000000 in
theorem tg_X1_init_25 {g : GT} : ∀ (n : Nat) {h : AH} {x0 : Option Nat} {x1 : Int32} {h' : AH}, g_X1_init_25 n h x0 x1 = some h' → Xj g mX1_init h 25 [some (va_rf (x0)), some (.int (x1))] [] none h' := by
  intro n
  induction n with
  | zero =>
    intros
    rename_i z
    cases z
  | succ n ih =>
    intro h x0 x1 h' hf
    rw [g_X1_init_25] at hf
    refine x_iload_n (pc := 25) (x := x1) dX1_init_25 rfl ?_
    refine x_bipush (pc := 26) (v := 20) dX1_init_26 (by decide) ?_
    refine x_icmp_ge (pc := 28) (tgt := 50) (x := x1) (y := 20) dX1_init_28 rfl (fun hc => ?_) (fun hc => ?_)
    · replace hf := it_t hc hf
      obtain rfl := Option.some.inj hf
      exact x_vret (pc := 50) dX1_init_50 rfl
    · replace hf := it_f hc hf
      refine x_aload_n (pc := 31) (a := x0) dX1_init_31 rfl ?_
      replace hf := bd_s hf; obtain ⟨v32, e32, hf⟩ := hf
      refine x_getR (pc := 32) dX1_init_32 fl_1_11 e32 ?_
      refine x_iload_n (pc := 35) (x := x1) dX1_init_35 rfl ?_
      replace hf := bd_s hf; obtain ⟨h36, e36, hf⟩ := hf
      refine x_nO (pc := 36) dX1_init_36 nl_1_9 e36 ?_
      refine x_dup (pc := 39) dX1_init_39 ?_
      replace hf := bd_s hf; obtain ⟨h40, e40, hf⟩ := hf
      refine x_cIN (pc := 40) (M' := mX2_init) (as := []) (st := [va_rf (some (hn h)), .int (x1), va_rf (v32)]) (a := (hn h)) dX1_init_40 mo_X2_init lk_1_22 im_X2_init rfl rfl ⟨Nat.le_of_ble_eq_true rfl, Nat.le_of_ble_eq_true rfl⟩ rfl (Nat.le_of_ble_eq_true rfl) rfl (tm_X2_init e40) ?_
      replace hf := bd_s hf; obtain ⟨h43, e43, hf⟩ := hf
      refine x_stR (pc := 43) (by decide) dX1_init_43 e43 ?_
      refine x_iinc (pc := 44) (x := x1) (v := x1 + 1) (ls' := [some (va_rf (x0)), some (.int (x1 + 1))]) dX1_init_44 rfl rfl (by decide) rfl ?_
      refine x_goto (pc := 47) (tgt := 25) dX1_init_47 rfl ?_
      exact ih hf

def f_X1_init (h : AH) (x0 : Nat) : Option AH :=
  bd2 (nA h 3 20) fun v7 h7 =>
  bd (pR h7 (some x0) 1 0 v7) fun h10 =>
  bd (pI h10 (some x0) 1 1 0) fun h15 =>
  bd (pI h15 (some x0) 1 2 0) fun h20 =>
  g_X1_init_25  NN h20 (some x0) 0

set_option maxRecDepth 100000 in
set_option maxHeartbeats 4000000 in
theorem tm_X1_init {g : GT} {h : AH} {x0 : Nat} {h' : AH} (hf : f_X1_init h x0 = some h') : Xm g mX1_init [va_rf (some x0)] h none h' := by
  refine xm_of mo_X1_init (Nat.le_of_ble_eq_true rfl) (ls := [some (va_rf (some x0)), none]) rfl ?_
  rw [f_X1_init] at hf
  refine x_aload_n (pc := 0) (a := some x0) dX1_init_0 rfl ?_
  refine x_objInit (pc := 1) dX1_init_1 lo_1_1 oi_1 oi_2 (Nat.le_of_ble_eq_true rfl) (Nat.le_of_ble_eq_true rfl) ?_
  refine x_aload_n (pc := 4) (a := some x0) dX1_init_4 rfl ?_
  refine x_bipush (pc := 5) (v := 20) dX1_init_5 (by decide) ?_
  replace hf := bd2_s hf; obtain ⟨v7, h7, e7, hf⟩ := hf
  refine x_nR (pc := 7) (t := 3) (ci := 2) (q := (RX2, TX2, 4)) (by decide) dX1_init_7 (cl_1_9) e7 ?_
  replace hf := bd_s hf; obtain ⟨h10, e10, hf⟩ := hf
  refine x_putR (pc := 10) dX1_init_10 fl_1_11 (fW_in rfl rfl) e10 ?_
  refine x_aload_n (pc := 13) (a := some x0) dX1_init_13 rfl ?_
  refine x_iconst (pc := 14) (v := 0) dX1_init_14 (by decide) ?_
  replace hf := bd_s hf; obtain ⟨h15, e15, hf⟩ := hf
  refine x_putI (pc := 15) dX1_init_15 fl_1_15 (fW_no rfl) e15 ?_
  refine x_aload_n (pc := 18) (a := some x0) dX1_init_18 rfl ?_
  refine x_iconst (pc := 19) (v := 0) dX1_init_19 (by decide) ?_
  replace hf := bd_s hf; obtain ⟨h20, e20, hf⟩ := hf
  refine x_putI (pc := 20) dX1_init_20 fl_1_19 (fW_no rfl) e20 ?_
  refine x_iconst (pc := 23) (v := 0) dX1_init_23 (by decide) ?_
  refine x_istore_n (pc := 24) (ls' := [some (va_rf (some x0)), some (.int (0))]) dX1_init_24 (by decide) rfl ?_
  exact tg_X1_init_25  NN hf

def j_X2_keep_28 (h : AH) (x0 : Option Nat) (x1 : Option Nat) (x2 : Int32) (x3 : Int32) : Option AH :=
  bd (pR h x0 2 0 x1) fun h30 =>
  bd (pI h30 x0 2 1 x2) fun h35 =>
  bd (pI h35 x0 2 2 x3) fun h40 =>
  bd (gR h40 x0 2 0) fun v44 =>
  bd (gI h40 x0 2 1) fun v48 =>
  bd (gR h40 x0 2 3) fun v52 =>
  bd (gI h40 x0 2 2) fun v57 =>
  bd (cpI h40 v44 v48 v52 0 v57) fun h60 =>
  some h60

set_option maxRecDepth 100000 in
set_option maxHeartbeats 4000000 in
theorem tj_X2_keep_28 {g : GT} {h : AH} {x0 : Option Nat} {x1 : Option Nat} {x2 : Int32} {x3 : Int32} {h' : AH} (hf : j_X2_keep_28 h x0 x1 x2 x3 = some h') : Xj g mX2_keep h 28 [some (va_rf (x0)), some (va_rf (x1)), some (.int (x2)), some (.int (x3))] [] none h' := by
  rw [j_X2_keep_28] at hf
  refine x_aload_n (pc := 28) (a := x0) dX2_keep_28 rfl ?_
  refine x_aload_n (pc := 29) (a := x1) dX2_keep_29 rfl ?_
  replace hf := bd_s hf; obtain ⟨h30, e30, hf⟩ := hf
  refine x_putR (pc := 30) dX2_keep_30 fl_2_7 (fW_no rfl) e30 ?_
  refine x_aload_n (pc := 33) (a := x0) dX2_keep_33 rfl ?_
  refine x_iload_n (pc := 34) (x := x2) dX2_keep_34 rfl ?_
  replace hf := bd_s hf; obtain ⟨h35, e35, hf⟩ := hf
  refine x_putI (pc := 35) dX2_keep_35 fl_2_13 (fW_no rfl) e35 ?_
  refine x_aload_n (pc := 38) (a := x0) dX2_keep_38 rfl ?_
  refine x_iload_n (pc := 39) (x := x3) dX2_keep_39 rfl ?_
  replace hf := bd_s hf; obtain ⟨h40, e40, hf⟩ := hf
  refine x_putI (pc := 40) dX2_keep_40 fl_2_17 (fW_no rfl) e40 ?_
  refine x_aload_n (pc := 43) (a := x0) dX2_keep_43 rfl ?_
  replace hf := bd_s hf; obtain ⟨v44, e44, hf⟩ := hf
  refine x_getR (pc := 44) dX2_keep_44 fl_2_7 e44 ?_
  refine x_aload_n (pc := 47) (a := x0) dX2_keep_47 rfl ?_
  replace hf := bd_s hf; obtain ⟨v48, e48, hf⟩ := hf
  refine x_getI (pc := 48) dX2_keep_48 fl_2_13 e48 ?_
  refine x_aload_n (pc := 51) (a := x0) dX2_keep_51 rfl ?_
  replace hf := bd_s hf; obtain ⟨v52, e52, hf⟩ := hf
  refine x_getR (pc := 52) dX2_keep_52 fl_2_20 e52 ?_
  refine x_iconst (pc := 55) (v := 0) dX2_keep_55 (by decide) ?_
  refine x_aload_n (pc := 56) (a := x0) dX2_keep_56 rfl ?_
  replace hf := bd_s hf; obtain ⟨v57, e57, hf⟩ := hf
  refine x_getI (pc := 57) dX2_keep_57 fl_2_17 e57 ?_
  replace hf := bd_s hf; obtain ⟨h60, e60, hf⟩ := hf
  refine x_copy (pc := 60) dX2_keep_60 la_2_25 cp_1 cp_2 cp_3 (Nat.le_of_ble_eq_true rfl) (Nat.le_of_ble_eq_true rfl) e60 ?_
  obtain rfl := Option.some.inj hf
  exact x_vret (pc := 63) dX2_keep_63 rfl

def j_X2_keep_23 (h : AH) (x0 : Option Nat) (x1 : Option Nat) (x2 : Int32) (x3 : Int32) (y0 : Option Nat) (y1 : Int32) : Option AH :=
  bd2 (nA h 0 y1) fun v23 h23 =>
  bd (pR h23 y0 2 3 v23) fun h25 =>
  j_X2_keep_28  h25 x0 x1 x2 x3

set_option maxRecDepth 100000 in
set_option maxHeartbeats 4000000 in
theorem tj_X2_keep_23 {g : GT} {h : AH} {x0 : Option Nat} {x1 : Option Nat} {x2 : Int32} {x3 : Int32} {y0 : Option Nat} {y1 : Int32} {h' : AH} (hf : j_X2_keep_23 h x0 x1 x2 x3 y0 y1 = some h') : Xj g mX2_keep h 23 [some (va_rf (x0)), some (va_rf (x1)), some (.int (x2)), some (.int (x3))] [.int (y1), va_rf (y0)] none h' := by
  rw [j_X2_keep_23] at hf
  replace hf := bd2_s hf; obtain ⟨v23, h23, e23, hf⟩ := hf
  refine x_nI (pc := 23) dX2_keep_23 ac_int e23 ?_
  replace hf := bd_s hf; obtain ⟨h25, e25, hf⟩ := hf
  refine x_putR (pc := 25) dX2_keep_25 fl_2_20 (fW_no rfl) e25 ?_
  exact tj_X2_keep_28  hf

def f_X2_keep (h : AH) (x0 : Option Nat) (x1 : Option Nat) (x2 : Int32) (x3 : Int32) : Option AH :=
  bd (gR h x0 2 3) fun v1 =>
  bd (lenA h v1) fun v4 =>
  if x3 ≤ v4 then (
    j_X2_keep_28  h x0 x1 x2 x3
  ) else (
    if 40 < x3 then (
      bd (lenA h x1) fun v22 =>
      j_X2_keep_23  h x0 x1 x2 x3 x0 v22
    ) else (
      j_X2_keep_23  h x0 x1 x2 x3 x0 40
    )
  )

set_option maxRecDepth 100000 in
set_option maxHeartbeats 4000000 in
theorem tm_X2_keep {g : GT} {h : AH} {x0 : Option Nat} {x1 : Option Nat} {x2 : Int32} {x3 : Int32} {h' : AH} (hf : f_X2_keep h x0 x1 x2 x3 = some h') : Xm g mX2_keep [va_rf (x0), va_rf (x1), .int (x2), .int (x3)] h none h' := by
  refine xm_of mo_X2_keep (Nat.le_of_ble_eq_true rfl) (ls := [some (va_rf (x0)), some (va_rf (x1)), some (.int (x2)), some (.int (x3))]) rfl ?_
  rw [f_X2_keep] at hf
  refine x_aload_n (pc := 0) (a := x0) dX2_keep_0 rfl ?_
  replace hf := bd_s hf; obtain ⟨v1, e1, hf⟩ := hf
  refine x_getR (pc := 1) dX2_keep_1 fl_2_20 e1 ?_
  replace hf := bd_s hf; obtain ⟨v4, e4, hf⟩ := hf
  refine x_len (pc := 4) dX2_keep_4 e4 ?_
  refine x_iload_n (pc := 5) (x := x3) dX2_keep_5 rfl ?_
  refine x_icmp_ge (pc := 6) (tgt := 28) (x := v4) (y := x3) dX2_keep_6 rfl (fun hc => ?_) (fun hc => ?_)
  · replace hf := it_t hc hf
    exact tj_X2_keep_28  hf
  · replace hf := it_f hc hf
    refine x_aload_n (pc := 9) (a := x0) dX2_keep_9 rfl ?_
    refine x_iload_n (pc := 10) (x := x3) dX2_keep_10 rfl ?_
    refine x_bipush (pc := 11) (v := 40) dX2_keep_11 (by decide) ?_
    refine x_icmp_gt (pc := 13) (tgt := 21) (x := x3) (y := 40) dX2_keep_13 rfl (fun hc => ?_) (fun hc => ?_)
    · replace hf := it_t hc hf
      refine x_aload_n (pc := 21) (a := x1) dX2_keep_21 rfl ?_
      replace hf := bd_s hf; obtain ⟨v22, e22, hf⟩ := hf
      refine x_len (pc := 22) dX2_keep_22 e22 ?_
      exact tj_X2_keep_23  hf
    · replace hf := it_f hc hf
      refine x_bipush (pc := 16) (v := 40) dX2_keep_16 (by decide) ?_
      refine x_goto (pc := 18) (tgt := 23) dX2_keep_18 rfl ?_
      exact tj_X2_keep_23  hf

def f_X1_keep (h : AH) (x0 : Option Nat) (x1 : Option Nat) (x2 : Int32) (x3 : Int32) : Option AH :=
  bd (gR h x0 1 0) fun v1 =>
  bd (gI h x0 1 1) fun v5 =>
  bd (ldR h v1 3 v5) fun v8 =>
  bd (isO h v8 2) fun _ =>
  bd (f_X2_keep h v8 x1 x2 x3) fun h12 =>
  bd (gI h12 x0 1 1) fun v17 =>
  bd (rm (v17 + 1) 20) fun v24 =>
  bd (pI h12 x0 1 1 v24) fun h25 =>
  bd (gI h25 x0 1 2) fun v32 =>
  bd (pI h25 x0 1 2 (if (v32 + 1) < 20 then (v32 + 1) else 20)) fun h40 =>
  some h40

set_option maxRecDepth 100000 in
set_option maxHeartbeats 4000000 in
theorem tm_X1_keep {g : GT} {h : AH} {x0 : Option Nat} {x1 : Option Nat} {x2 : Int32} {x3 : Int32} {h' : AH} (hf : f_X1_keep h x0 x1 x2 x3 = some h') : Xm g mX1_keep [va_rf (x0), va_rf (x1), .int (x2), .int (x3)] h none h' := by
  refine xm_of mo_X1_keep (Nat.le_of_ble_eq_true rfl) (ls := [some (va_rf (x0)), some (va_rf (x1)), some (.int (x2)), some (.int (x3))]) rfl ?_
  rw [f_X1_keep] at hf
  refine x_aload_n (pc := 0) (a := x0) dX1_keep_0 rfl ?_
  replace hf := bd_s hf; obtain ⟨v1, e1, hf⟩ := hf
  refine x_getR (pc := 1) dX1_keep_1 fl_1_11 e1 ?_
  refine x_aload_n (pc := 4) (a := x0) dX1_keep_4 rfl ?_
  replace hf := bd_s hf; obtain ⟨v5, e5, hf⟩ := hf
  refine x_getI (pc := 5) dX1_keep_5 fl_1_15 e5 ?_
  replace hf := bd_s hf; obtain ⟨v8, e8, hf⟩ := hf
  refine x_ldR (pc := 8) (by decide) dX1_keep_8 e8 ?_
  refine x_aload_n (pc := 9) (a := x1) dX1_keep_9 rfl ?_
  refine x_iload_n (pc := 10) (x := x2) dX1_keep_10 rfl ?_
  refine x_iload_n (pc := 11) (x := x3) dX1_keep_11 rfl ?_
  replace hf := bd_s hf; obtain ⟨u12, i12, hf⟩ := hf
  replace hf := bd_s hf; obtain ⟨h12, e12, hf⟩ := hf
  refine x_cVv (pc := 12) (M' := mX2_keep) (as := [va_rf (x1), .int (x2), .int (x3)]) (st := []) (a := v8) (ci := 2) dX1_keep_12 mo_X2_keep lk_1_23 im_X2_keep se_X2_keep rfl ⟨Nat.le_of_ble_eq_true rfl, Nat.le_of_ble_eq_true rfl⟩ rfl (Nat.le_of_ble_eq_true rfl) rfl i12 (tm_X2_keep e12) ?_
  refine x_aload_n (pc := 15) (a := x0) dX1_keep_15 rfl ?_
  refine x_aload_n (pc := 16) (a := x0) dX1_keep_16 rfl ?_
  replace hf := bd_s hf; obtain ⟨v17, e17, hf⟩ := hf
  refine x_getI (pc := 17) dX1_keep_17 fl_1_15 e17 ?_
  refine x_iconst (pc := 20) (v := 1) dX1_keep_20 (by decide) ?_
  refine x_iadd (pc := 21) dX1_keep_21 ?_
  refine x_bipush (pc := 22) (v := 20) dX1_keep_22 (by decide) ?_
  replace hf := bd_s hf; obtain ⟨v24, e24, hf⟩ := hf
  refine x_rm (pc := 24) dX1_keep_24 e24 ?_
  replace hf := bd_s hf; obtain ⟨h25, e25, hf⟩ := hf
  refine x_putI (pc := 25) dX1_keep_25 fl_1_15 (fW_no rfl) e25 ?_
  refine x_aload_n (pc := 28) (a := x0) dX1_keep_28 rfl ?_
  refine x_bipush (pc := 29) (v := 20) dX1_keep_29 (by decide) ?_
  refine x_aload_n (pc := 31) (a := x0) dX1_keep_31 rfl ?_
  replace hf := bd_s hf; obtain ⟨v32, e32, hf⟩ := hf
  refine x_getI (pc := 32) dX1_keep_32 fl_1_19 e32 ?_
  refine x_iconst (pc := 35) (v := 1) dX1_keep_35 (by decide) ?_
  refine x_iadd (pc := 36) dX1_keep_36 ?_
  refine x_min (pc := 37) dX1_keep_37 lm_1_27 ma_min_1 ma_0 ma_min_2 (Nat.le_of_ble_eq_true rfl) (Nat.le_of_ble_eq_true rfl) ?_
  replace hf := bd_s hf; obtain ⟨h40, e40, hf⟩ := hf
  refine x_putI (pc := 40) dX1_keep_40 fl_1_19 (fW_no rfl) e40 ?_
  obtain rfl := Option.some.inj hf
  exact x_vret (pc := 43) dX1_keep_43 rfl

def f_X3_goers (h : AH) (x0 : Option Nat) (x1 : Int32) (x2 : Int32) (x3 : Int32) : Option (Int32 × AH) :=
  bd (gR h x0 3 3) fun v1 =>
  bd (ldI h v1 ((x1 * 15) + x3)) fun v10 =>
  bd (gR h x0 3 2) fun v12 =>
  bd (ldI h v12 (((x1 + 1) * 3) + x2)) fun v22 =>
  some (v10 &&& v22, h)

set_option maxRecDepth 100000 in
set_option maxHeartbeats 4000000 in
theorem tm_X3_goers {g : GT} {h : AH} {x0 : Option Nat} {x1 : Int32} {x2 : Int32} {x3 : Int32} {r : Int32} {h' : AH} (hf : f_X3_goers h x0 x1 x2 x3 = some (r, h')) : Xm g mX3_goers [va_rf (x0), .int (x1), .int (x2), .int (x3)] h (some (.int r)) h' := by
  refine xm_of mo_X3_goers (Nat.le_of_ble_eq_true rfl) (ls := [some (va_rf (x0)), some (.int (x1)), some (.int (x2)), some (.int (x3))]) rfl ?_
  rw [f_X3_goers] at hf
  refine x_aload_n (pc := 0) (a := x0) dX3_goers_0 rfl ?_
  replace hf := bd_s hf; obtain ⟨v1, e1, hf⟩ := hf
  refine x_getR (pc := 1) dX3_goers_1 fl_3_24 e1 ?_
  refine x_iload_n (pc := 4) (x := x1) dX3_goers_4 rfl ?_
  refine x_bipush (pc := 5) (v := 15) dX3_goers_5 (by decide) ?_
  refine x_imul (pc := 7) dX3_goers_7 ?_
  refine x_iload_n (pc := 8) (x := x3) dX3_goers_8 rfl ?_
  refine x_iadd (pc := 9) dX3_goers_9 ?_
  replace hf := bd_s hf; obtain ⟨v10, e10, hf⟩ := hf
  refine x_ldI (pc := 10) dX3_goers_10 e10 ?_
  refine x_aload_n (pc := 11) (a := x0) dX3_goers_11 rfl ?_
  replace hf := bd_s hf; obtain ⟨v12, e12, hf⟩ := hf
  refine x_getR (pc := 12) dX3_goers_12 fl_3_21 e12 ?_
  refine x_iload_n (pc := 15) (x := x1) dX3_goers_15 rfl ?_
  refine x_iconst (pc := 16) (v := 1) dX3_goers_16 (by decide) ?_
  refine x_iadd (pc := 17) dX3_goers_17 ?_
  refine x_iconst (pc := 18) (v := 3) dX3_goers_18 (by decide) ?_
  refine x_imul (pc := 19) dX3_goers_19 ?_
  refine x_iload_n (pc := 20) (x := x2) dX3_goers_20 rfl ?_
  refine x_iadd (pc := 21) dX3_goers_21 ?_
  replace hf := bd_s hf; obtain ⟨v22, e22, hf⟩ := hf
  refine x_ldI (pc := 22) dX3_goers_22 e22 ?_
  refine x_iand (pc := 23) dX3_goers_23 ?_
  obtain ⟨rfl, rfl⟩ := ret_s hf
  exact x_reti (pc := 24) dX3_goers_24 rfl

def g_X3_lowest_2 : Nat → AH → Int32 → Int32 → Option (Int32 × AH)
  | 0, _, _, _ => none
  | n + 1, h, x0, x1 =>
    if 14 ≤ x1 then (
      some (14, h)
    ) else (
      bd2 (f_X7_holds h x0 x1) fun v10 h10 =>
      if v10 = 0 then (
        g_X3_lowest_2  n h10 x0 (x1 + 1)
      ) else (
        some (x1, h10)
      )
    )

set_option maxRecDepth 100000 in
set_option maxHeartbeats 4000000 in
theorem tg_X3_lowest_2 {g : GT} : ∀ (n : Nat) {h : AH} {x0 : Int32} {x1 : Int32} {r : Int32} {h' : AH}, g_X3_lowest_2 n h x0 x1 = some (r, h') → Xj g mX3_lowest h 2 [some (.int (x0)), some (.int (x1))] [] (some (.int r)) h' := by
  intro n
  induction n with
  | zero =>
    intros
    rename_i z
    cases z
  | succ n ih =>
    intro h x0 x1 r h' hf
    rw [g_X3_lowest_2] at hf
    refine x_iload_n (pc := 2) (x := x1) dX3_lowest_2 rfl ?_
    refine x_bipush (pc := 3) (v := 14) dX3_lowest_3 (by decide) ?_
    refine x_icmp_ge (pc := 5) (tgt := 24) (x := x1) (y := 14) dX3_lowest_5 rfl (fun hc => ?_) (fun hc => ?_)
    · replace hf := it_t hc hf
      refine x_bipush (pc := 24) (v := 14) dX3_lowest_24 (by decide) ?_
      obtain ⟨rfl, rfl⟩ := ret_s hf
      exact x_reti (pc := 26) dX3_lowest_26 rfl
    · replace hf := it_f hc hf
      refine x_iload_n (pc := 8) (x := x0) dX3_lowest_8 rfl ?_
      refine x_iload_n (pc := 9) (x := x1) dX3_lowest_9 rfl ?_
      replace hf := bd2_s hf; obtain ⟨v10, h10, e10, hf⟩ := hf
      refine x_cNi (pc := 10) (M' := mX7_holds) (as := [.int (x0), .int (x1)]) (st := []) dX3_lowest_10 mo_X7_holds lk_3_86 sm_X7_holds ⟨Nat.le_of_ble_eq_true rfl, Nat.le_of_ble_eq_true rfl⟩ rfl (Nat.le_of_ble_eq_true rfl) rfl (tm_X7_holds e10) ?_
      refine x_if_eq (pc := 13) (tgt := 18) (x := v10) dX3_lowest_13 rfl (fun hc => ?_) (fun hc => ?_)
      · replace hf := it_t hc hf
        refine x_iinc (pc := 18) (x := x1) (v := x1 + 1) (ls' := [some (.int (x0)), some (.int (x1 + 1))]) dX3_lowest_18 rfl rfl (by decide) rfl ?_
        refine x_goto (pc := 21) (tgt := 2) dX3_lowest_21 rfl ?_
        exact ih hf
      · replace hf := it_f hc hf
        refine x_iload_n (pc := 16) (x := x1) dX3_lowest_16 rfl ?_
        obtain ⟨rfl, rfl⟩ := ret_s hf
        exact x_reti (pc := 17) dX3_lowest_17 rfl

def f_X3_lowest (h : AH) (x0 : Int32) : Option (Int32 × AH) :=
  g_X3_lowest_2  NN h x0 0

set_option maxRecDepth 100000 in
set_option maxHeartbeats 4000000 in
theorem tm_X3_lowest {g : GT} {h : AH} {x0 : Int32} {r : Int32} {h' : AH} (hf : f_X3_lowest h x0 = some (r, h')) : Xm g mX3_lowest [.int (x0)] h (some (.int r)) h' := by
  refine xm_of mo_X3_lowest (Nat.le_of_ble_eq_true rfl) (ls := [some (.int (x0)), none]) rfl ?_
  rw [f_X3_lowest] at hf
  refine x_iconst (pc := 0) (v := 0) dX3_lowest_0 (by decide) ?_
  refine x_istore_n (pc := 1) (ls' := [some (.int (x0)), some (.int (0))]) dX3_lowest_1 (by decide) rfl ?_
  exact tg_X3_lowest_2  NN hf

def f_X3_mayStay (h : AH) (x0 : Option Nat) (x1 : Int32) (x2 : Int32) (x3 : Int32) : Option (Int32 × AH) :=
  if 2 ≤ x2 then (
    some (0, h)
  ) else (
    bd (gR h x0 3 2) fun v6 =>
    bd (ldI h v6 ((((x1 + 1) * 3) + x2) + 1)) fun v18 =>
    bd2 (f_X7_holds h v18 x3) fun v20 h20 =>
    if v20 = 0 then (
      some (0, h20)
    ) else (
      some (1, h20)
    )
  )

set_option maxRecDepth 100000 in
set_option maxHeartbeats 4000000 in
theorem tm_X3_mayStay {g : GT} {h : AH} {x0 : Option Nat} {x1 : Int32} {x2 : Int32} {x3 : Int32} {r : Int32} {h' : AH} (hf : f_X3_mayStay h x0 x1 x2 x3 = some (r, h')) : Xm g mX3_mayStay [va_rf (x0), .int (x1), .int (x2), .int (x3)] h (some (.int r)) h' := by
  refine xm_of mo_X3_mayStay (Nat.le_of_ble_eq_true rfl) (ls := [some (va_rf (x0)), some (.int (x1)), some (.int (x2)), some (.int (x3))]) rfl ?_
  rw [f_X3_mayStay] at hf
  refine x_iload_n (pc := 0) (x := x2) dX3_mayStay_0 rfl ?_
  refine x_iconst (pc := 1) (v := 2) dX3_mayStay_1 (by decide) ?_
  refine x_icmp_ge (pc := 2) (tgt := 30) (x := x2) (y := 2) dX3_mayStay_2 rfl (fun hc => ?_) (fun hc => ?_)
  · replace hf := it_t hc hf
    refine x_iconst (pc := 30) (v := 0) dX3_mayStay_30 (by decide) ?_
    obtain ⟨rfl, rfl⟩ := ret_s hf
    exact x_retz (pc := 31) dX3_mayStay_31 rfl (by decide)
  · replace hf := it_f hc hf
    refine x_aload_n (pc := 5) (a := x0) dX3_mayStay_5 rfl ?_
    replace hf := bd_s hf; obtain ⟨v6, e6, hf⟩ := hf
    refine x_getR (pc := 6) dX3_mayStay_6 fl_3_21 e6 ?_
    refine x_iload_n (pc := 9) (x := x1) dX3_mayStay_9 rfl ?_
    refine x_iconst (pc := 10) (v := 1) dX3_mayStay_10 (by decide) ?_
    refine x_iadd (pc := 11) dX3_mayStay_11 ?_
    refine x_iconst (pc := 12) (v := 3) dX3_mayStay_12 (by decide) ?_
    refine x_imul (pc := 13) dX3_mayStay_13 ?_
    refine x_iload_n (pc := 14) (x := x2) dX3_mayStay_14 rfl ?_
    refine x_iadd (pc := 15) dX3_mayStay_15 ?_
    refine x_iconst (pc := 16) (v := 1) dX3_mayStay_16 (by decide) ?_
    refine x_iadd (pc := 17) dX3_mayStay_17 ?_
    replace hf := bd_s hf; obtain ⟨v18, e18, hf⟩ := hf
    refine x_ldI (pc := 18) dX3_mayStay_18 e18 ?_
    refine x_iload_n (pc := 19) (x := x3) dX3_mayStay_19 rfl ?_
    replace hf := bd2_s hf; obtain ⟨v20, h20, e20, hf⟩ := hf
    refine x_cNi (pc := 20) (M' := mX7_holds) (as := [.int (v18), .int (x3)]) (st := []) dX3_mayStay_20 mo_X7_holds lk_3_86 sm_X7_holds ⟨Nat.le_of_ble_eq_true rfl, Nat.le_of_ble_eq_true rfl⟩ rfl (Nat.le_of_ble_eq_true rfl) rfl (tm_X7_holds e20) ?_
    refine x_if_eq (pc := 23) (tgt := 30) (x := v20) dX3_mayStay_23 rfl (fun hc => ?_) (fun hc => ?_)
    · replace hf := it_t hc hf
      refine x_iconst (pc := 30) (v := 0) dX3_mayStay_30 (by decide) ?_
      obtain ⟨rfl, rfl⟩ := ret_s hf
      exact x_retz (pc := 31) dX3_mayStay_31 rfl (by decide)
    · replace hf := it_f hc hf
      refine x_iconst (pc := 26) (v := 1) dX3_mayStay_26 (by decide) ?_
      refine x_goto (pc := 27) (tgt := 31) dX3_mayStay_27 rfl ?_
      obtain ⟨rfl, rfl⟩ := ret_s hf
      exact x_retz (pc := 31) dX3_mayStay_31 rfl (by decide)

def j_X3_chooseCamps_54 (k7 : AH → Option Nat → Int32 → Int32 → Int32 → Option AH) (h : AH) (x0 : Option Nat) (x1 : Int32) (x2 : Int32) (x3 : Int32) : Option AH :=
  bd (gR h x0 3 1) fun v55 =>
  bd (stI h v55 x3 x1) fun h60 =>
  k7 h60 x0 x1 x2 (x3 + 1)

set_option maxRecDepth 100000 in
set_option maxHeartbeats 4000000 in
theorem tj_X3_chooseCamps_54 {g : GT} {k7 : AH → Option Nat → Int32 → Int32 → Int32 → Option AH} (hk7 : ∀ (h : AH) (x0 : Option Nat) (x1 : Int32) (x2 : Int32) (x3 : Int32) (h' : AH), k7 h x0 x1 x2 x3 = some h' → Xj g mX3_chooseCamps h 7 [some (va_rf (x0)), some (.int (x1)), some (.int (x2)), some (.int (x3)), none] [] none h') {h : AH} {x0 : Option Nat} {x1 : Int32} {x2 : Int32} {x3 : Int32} {h' : AH} (hf : j_X3_chooseCamps_54 k7 h x0 x1 x2 x3 = some h') : Xj g mX3_chooseCamps h 54 [some (va_rf (x0)), some (.int (x1)), some (.int (x2)), some (.int (x3)), none] [] none h' := by
  rw [j_X3_chooseCamps_54] at hf
  refine x_aload_n (pc := 54) (a := x0) dX3_chooseCamps_54 rfl ?_
  replace hf := bd_s hf; obtain ⟨v55, e55, hf⟩ := hf
  refine x_getR (pc := 55) dX3_chooseCamps_55 fl_3_17 e55 ?_
  refine x_iload_n (pc := 58) (x := x3) dX3_chooseCamps_58 rfl ?_
  refine x_iload_n (pc := 59) (x := x1) dX3_chooseCamps_59 rfl ?_
  replace hf := bd_s hf; obtain ⟨h60, e60, hf⟩ := hf
  refine x_stI (pc := 60) dX3_chooseCamps_60 e60 ?_
  refine x_iinc (pc := 61) (x := x3) (v := x3 + 1) (ls' := [some (va_rf (x0)), some (.int (x1)), some (.int (x2)), some (.int (x3 + 1)), none]) dX3_chooseCamps_61 rfl rfl (by decide) rfl ?_
  refine x_goto (pc := 64) (tgt := 7) dX3_chooseCamps_64 rfl ?_
  exact hk7 _ _ _ _ _ _ hf

def j_X3_chooseCamps_51 (k7 : AH → Option Nat → Int32 → Int32 → Int32 → Option AH) (h : AH) (x0 : Option Nat) (x2 : Int32) (x3 : Int32) (x4 : Int32) : Option AH :=
  j_X3_chooseCamps_54 k7 h x0 x4 x2 x3

set_option maxRecDepth 100000 in
set_option maxHeartbeats 4000000 in
theorem tj_X3_chooseCamps_51 {g : GT} {k7 : AH → Option Nat → Int32 → Int32 → Int32 → Option AH} (hk7 : ∀ (h : AH) (x0 : Option Nat) (x1 : Int32) (x2 : Int32) (x3 : Int32) (h' : AH), k7 h x0 x1 x2 x3 = some h' → Xj g mX3_chooseCamps h 7 [some (va_rf (x0)), some (.int (x1)), some (.int (x2)), some (.int (x3)), none] [] none h') {h : AH} {x0 : Option Nat} {x2 : Int32} {x3 : Int32} {x4 : Int32} {h' : AH} (hf : j_X3_chooseCamps_51 k7 h x0 x2 x3 x4 = some h') : Xj g mX3_chooseCamps h 51 [some (va_rf (x0)), none, some (.int (x2)), some (.int (x3)), some (.int (x4))] [] none h' := by
  rw [j_X3_chooseCamps_51] at hf
  refine x_iload (pc := 51) (x := x4) dX3_chooseCamps_51 rfl ?_
  refine x_istore_n (pc := 53) (ls' := [some (va_rf (x0)), some (.int (x4)), some (.int (x2)), some (.int (x3)), some (.int (x4))]) dX3_chooseCamps_53 (by decide) rfl ?_
  refine x_mask [true, true, true, true, false] rfl ?_
  exact tj_X3_chooseCamps_54 hk7 hf

def g_X3_chooseCamps_7 : Nat → AH → Option Nat → Int32 → Int32 → Int32 → Option AH
  | 0, _, _, _, _, _ => none
  | n + 1, h, x0, x1, x2, x3 =>
    bd (gI h x0 3 0) fun v9 =>
    if (v9 - 1) ≤ x3 then (
      some h
    ) else (
      bd (isO h x0 3) fun _ =>
      bd2 (f_X3_goers h x0 x3 x2 x1) fun v21 h21 =>
      bd2 (f_X3_lowest h21 v21) fun v24 h24 =>
      bd (isO h24 x0 3) fun _ =>
      bd2 (f_X3_mayStay h24 x0 x3 x2 x1) fun v33 h33 =>
      if v33 = 0 then (
        j_X3_chooseCamps_51 (fun h x0 x1 x2 x3 => g_X3_chooseCamps_7  n h x0 x1 x2 x3) h33 x0 x2 x3 v24
      ) else (
        if v24 ≤ x1 then (
          j_X3_chooseCamps_51 (fun h x0 x1 x2 x3 => g_X3_chooseCamps_7  n h x0 x1 x2 x3) h33 x0 x2 x3 v24
        ) else (
          j_X3_chooseCamps_54 (fun h x0 x1 x2 x3 => g_X3_chooseCamps_7  n h x0 x1 x2 x3) h33 x0 x1 (x2 + 1) x3
        )
      )
    )

set_option maxRecDepth 100000 in
set_option maxHeartbeats 4000000 in
theorem tg_X3_chooseCamps_7 {g : GT} : ∀ (n : Nat) {h : AH} {x0 : Option Nat} {x1 : Int32} {x2 : Int32} {x3 : Int32} {h' : AH}, g_X3_chooseCamps_7 n h x0 x1 x2 x3 = some h' → Xj g mX3_chooseCamps h 7 [some (va_rf (x0)), some (.int (x1)), some (.int (x2)), some (.int (x3)), none] [] none h' := by
  intro n
  induction n with
  | zero =>
    intros
    rename_i z
    cases z
  | succ n ih =>
    intro h x0 x1 x2 x3 h' hf
    rw [g_X3_chooseCamps_7] at hf
    refine x_iload_n (pc := 7) (x := x3) dX3_chooseCamps_7 rfl ?_
    refine x_aload_n (pc := 8) (a := x0) dX3_chooseCamps_8 rfl ?_
    replace hf := bd_s hf; obtain ⟨v9, e9, hf⟩ := hf
    refine x_getI (pc := 9) dX3_chooseCamps_9 fl_3_13 e9 ?_
    refine x_iconst (pc := 12) (v := 1) dX3_chooseCamps_12 (by decide) ?_
    refine x_isub (pc := 13) dX3_chooseCamps_13 ?_
    refine x_icmp_ge (pc := 14) (tgt := 67) (x := x3) (y := (v9 - 1)) dX3_chooseCamps_14 rfl (fun hc => ?_) (fun hc => ?_)
    · replace hf := it_t hc hf
      obtain rfl := Option.some.inj hf
      exact x_vret (pc := 67) dX3_chooseCamps_67 rfl
    · replace hf := it_f hc hf
      refine x_aload_n (pc := 17) (a := x0) dX3_chooseCamps_17 rfl ?_
      refine x_iload_n (pc := 18) (x := x3) dX3_chooseCamps_18 rfl ?_
      refine x_iload_n (pc := 19) (x := x2) dX3_chooseCamps_19 rfl ?_
      refine x_iload_n (pc := 20) (x := x1) dX3_chooseCamps_20 rfl ?_
      replace hf := bd_s hf; obtain ⟨u21, i21, hf⟩ := hf
      replace hf := bd2_s hf; obtain ⟨v21, h21, e21, hf⟩ := hf
      refine x_cVi (pc := 21) (M' := mX3_goers) (as := [.int (x3), .int (x2), .int (x1)]) (st := []) (a := x0) (ci := 3) dX3_chooseCamps_21 mo_X3_goers lk_3_115 im_X3_goers se_X3_goers rfl ⟨Nat.le_of_ble_eq_true rfl, Nat.le_of_ble_eq_true rfl⟩ rfl (Nat.le_of_ble_eq_true rfl) rfl i21 (tm_X3_goers e21) ?_
      replace hf := bd2_s hf; obtain ⟨v24, h24, e24, hf⟩ := hf
      refine x_cSi (pc := 24) (M' := mX3_lowest) (as := [.int (v21)]) (st := []) dX3_chooseCamps_24 mo_X3_lowest lk_3_121 sm_X3_lowest ⟨Nat.le_of_ble_eq_true rfl, Nat.le_of_ble_eq_true rfl⟩ rfl (Nat.le_of_ble_eq_true rfl) rfl (tm_X3_lowest e24) ?_
      refine x_istore (pc := 27) (ls' := [some (va_rf (x0)), some (.int (x1)), some (.int (x2)), some (.int (x3)), some (.int (v24))]) dX3_chooseCamps_27 (by decide) rfl ?_
      refine x_aload_n (pc := 29) (a := x0) dX3_chooseCamps_29 rfl ?_
      refine x_iload_n (pc := 30) (x := x3) dX3_chooseCamps_30 rfl ?_
      refine x_iload_n (pc := 31) (x := x2) dX3_chooseCamps_31 rfl ?_
      refine x_iload_n (pc := 32) (x := x1) dX3_chooseCamps_32 rfl ?_
      replace hf := bd_s hf; obtain ⟨u33, i33, hf⟩ := hf
      replace hf := bd2_s hf; obtain ⟨v33, h33, e33, hf⟩ := hf
      refine x_cVi (pc := 33) (M' := mX3_mayStay) (as := [.int (x3), .int (x2), .int (x1)]) (st := []) (a := x0) (ci := 3) dX3_chooseCamps_33 mo_X3_mayStay lk_3_118 im_X3_mayStay se_X3_mayStay rfl ⟨Nat.le_of_ble_eq_true rfl, Nat.le_of_ble_eq_true rfl⟩ rfl (Nat.le_of_ble_eq_true rfl) rfl i33 (tm_X3_mayStay e33) ?_
      refine x_if_eq (pc := 36) (tgt := 51) (x := v33) dX3_chooseCamps_36 rfl (fun hc => ?_) (fun hc => ?_)
      · replace hf := it_t hc hf
        refine x_mask [true, false, true, true, true] rfl ?_
        exact tj_X3_chooseCamps_51 (fun _ _ _ _ _ _ z => ih z) hf
      · replace hf := it_f hc hf
        refine x_iload_n (pc := 39) (x := x1) dX3_chooseCamps_39 rfl ?_
        refine x_iload (pc := 40) (x := v24) dX3_chooseCamps_40 rfl ?_
        refine x_icmp_ge (pc := 42) (tgt := 51) (x := x1) (y := v24) dX3_chooseCamps_42 rfl (fun hc => ?_) (fun hc => ?_)
        · replace hf := it_t hc hf
          refine x_mask [true, false, true, true, true] rfl ?_
          exact tj_X3_chooseCamps_51 (fun _ _ _ _ _ _ z => ih z) hf
        · replace hf := it_f hc hf
          refine x_iinc (pc := 45) (x := x2) (v := x2 + 1) (ls' := [some (va_rf (x0)), some (.int (x1)), some (.int (x2 + 1)), some (.int (x3)), some (.int (v24))]) dX3_chooseCamps_45 rfl rfl (by decide) rfl ?_
          refine x_goto (pc := 48) (tgt := 54) dX3_chooseCamps_48 rfl ?_
          refine x_mask [true, true, true, true, false] rfl ?_
          exact tj_X3_chooseCamps_54 (fun _ _ _ _ _ _ z => ih z) hf

def f_X3_chooseCamps (h : AH) (x0 : Option Nat) : Option AH :=
  g_X3_chooseCamps_7  NN h x0 14 0 0

set_option maxRecDepth 100000 in
set_option maxHeartbeats 4000000 in
theorem tm_X3_chooseCamps {g : GT} {h : AH} {x0 : Option Nat} {h' : AH} (hf : f_X3_chooseCamps h x0 = some h') : Xm g mX3_chooseCamps [va_rf (x0)] h none h' := by
  refine xm_of mo_X3_chooseCamps (Nat.le_of_ble_eq_true rfl) (ls := [some (va_rf (x0)), none, none, none, none]) rfl ?_
  rw [f_X3_chooseCamps] at hf
  refine x_bipush (pc := 0) (v := 14) dX3_chooseCamps_0 (by decide) ?_
  refine x_istore_n (pc := 2) (ls' := [some (va_rf (x0)), some (.int (14)), none, none, none]) dX3_chooseCamps_2 (by decide) rfl ?_
  refine x_iconst (pc := 3) (v := 0) dX3_chooseCamps_3 (by decide) ?_
  refine x_istore_n (pc := 4) (ls' := [some (va_rf (x0)), some (.int (14)), some (.int (0)), none, none]) dX3_chooseCamps_4 (by decide) rfl ?_
  refine x_iconst (pc := 5) (v := 0) dX3_chooseCamps_5 (by decide) ?_
  refine x_istore_n (pc := 6) (ls' := [some (va_rf (x0)), some (.int (14)), some (.int (0)), some (.int (0)), none]) dX3_chooseCamps_6 (by decide) rfl ?_
  exact tg_X3_chooseCamps_7  NN hf

def f_X3_goesOn (h : AH) (x0 : Option Nat) (x1 : Int32) (x2 : Int32) (x3 : Int32) : Option (Int32 × AH) :=
  bd (isO h x0 3) fun _ =>
  bd2 (f_X3_goers h x0 x1 x2 x3) fun v4 h4 =>
  if ¬ v4 = 0 then (
    some (1, h4)
  ) else (
    bd (isO h4 x0 3) fun _ =>
    bd2 (f_X3_mayStay h4 x0 x1 x2 x3) fun v14 h14 =>
    if v14 = 0 then (
      some (0, h14)
    ) else (
      some (1, h14)
    )
  )

set_option maxRecDepth 100000 in
set_option maxHeartbeats 4000000 in
theorem tm_X3_goesOn {g : GT} {h : AH} {x0 : Option Nat} {x1 : Int32} {x2 : Int32} {x3 : Int32} {r : Int32} {h' : AH} (hf : f_X3_goesOn h x0 x1 x2 x3 = some (r, h')) : Xm g mX3_goesOn [va_rf (x0), .int (x1), .int (x2), .int (x3)] h (some (.int r)) h' := by
  refine xm_of mo_X3_goesOn (Nat.le_of_ble_eq_true rfl) (ls := [some (va_rf (x0)), some (.int (x1)), some (.int (x2)), some (.int (x3))]) rfl ?_
  rw [f_X3_goesOn] at hf
  refine x_aload_n (pc := 0) (a := x0) dX3_goesOn_0 rfl ?_
  refine x_iload_n (pc := 1) (x := x1) dX3_goesOn_1 rfl ?_
  refine x_iload_n (pc := 2) (x := x2) dX3_goesOn_2 rfl ?_
  refine x_iload_n (pc := 3) (x := x3) dX3_goesOn_3 rfl ?_
  replace hf := bd_s hf; obtain ⟨u4, i4, hf⟩ := hf
  replace hf := bd2_s hf; obtain ⟨v4, h4, e4, hf⟩ := hf
  refine x_cVi (pc := 4) (M' := mX3_goers) (as := [.int (x1), .int (x2), .int (x3)]) (st := []) (a := x0) (ci := 3) dX3_goesOn_4 mo_X3_goers lk_3_115 im_X3_goers se_X3_goers rfl ⟨Nat.le_of_ble_eq_true rfl, Nat.le_of_ble_eq_true rfl⟩ rfl (Nat.le_of_ble_eq_true rfl) rfl i4 (tm_X3_goers e4) ?_
  refine x_if_ne (pc := 7) (tgt := 20) (x := v4) dX3_goesOn_7 rfl (fun hc => ?_) (fun hc => ?_)
  · replace hf := it_t hc hf
    refine x_iconst (pc := 20) (v := 1) dX3_goesOn_20 (by decide) ?_
    refine x_goto (pc := 21) (tgt := 25) dX3_goesOn_21 rfl ?_
    obtain ⟨rfl, rfl⟩ := ret_s hf
    exact x_retz (pc := 25) dX3_goesOn_25 rfl (by decide)
  · replace hf := it_n hc hf
    refine x_aload_n (pc := 10) (a := x0) dX3_goesOn_10 rfl ?_
    refine x_iload_n (pc := 11) (x := x1) dX3_goesOn_11 rfl ?_
    refine x_iload_n (pc := 12) (x := x2) dX3_goesOn_12 rfl ?_
    refine x_iload_n (pc := 13) (x := x3) dX3_goesOn_13 rfl ?_
    replace hf := bd_s hf; obtain ⟨u14, i14, hf⟩ := hf
    replace hf := bd2_s hf; obtain ⟨v14, h14, e14, hf⟩ := hf
    refine x_cVi (pc := 14) (M' := mX3_mayStay) (as := [.int (x1), .int (x2), .int (x3)]) (st := []) (a := x0) (ci := 3) dX3_goesOn_14 mo_X3_mayStay lk_3_118 im_X3_mayStay se_X3_mayStay rfl ⟨Nat.le_of_ble_eq_true rfl, Nat.le_of_ble_eq_true rfl⟩ rfl (Nat.le_of_ble_eq_true rfl) rfl i14 (tm_X3_mayStay e14) ?_
    refine x_if_eq (pc := 17) (tgt := 24) (x := v14) dX3_goesOn_17 rfl (fun hc => ?_) (fun hc => ?_)
    · replace hf := it_t hc hf
      refine x_iconst (pc := 24) (v := 0) dX3_goesOn_24 (by decide) ?_
      obtain ⟨rfl, rfl⟩ := ret_s hf
      exact x_retz (pc := 25) dX3_goesOn_25 rfl (by decide)
    · replace hf := it_f hc hf
      refine x_iconst (pc := 20) (v := 1) dX3_goesOn_20 (by decide) ?_
      refine x_goto (pc := 21) (tgt := 25) dX3_goesOn_21 rfl ?_
      obtain ⟨rfl, rfl⟩ := ret_s hf
      exact x_retz (pc := 25) dX3_goesOn_25 rfl (by decide)
