def f_X5_lowest (h : AH) (x0 : Option Nat) (x1 : Int32) : Option (Int32 × AH) :=
  bd (gI h x0 5 0) fun v1 =>
  if v1 = 8 then (
    some (((x1 : Int32).toInt8.toInt32), h)
  ) else
  if v1 = 16 then (
    some (((x1 : Int32).toInt16.toInt32), h)
  ) else
  (
    some (x1, h)
  )

set_option maxRecDepth 100000 in
set_option maxHeartbeats 4000000 in
theorem tm_X5_lowest {g : GT} {h : AH} {x0 : Option Nat} {x1 : Int32} {r : Int32} {h' : AH} (hf : f_X5_lowest h x0 x1 = some (r, h')) : Xm g mX5_lowest [va_rf (x0), .int (x1)] h (some (.int r)) h' := by
  refine xm_of mo_X5_lowest (Nat.le_of_ble_eq_true rfl) (ls := [some (va_rf (x0)), some (.int (x1))]) rfl ?_
  rw [f_X5_lowest] at hf
  refine x_aload_n (pc := 0) (a := x0) dX5_lowest_0 rfl ?_
  replace hf := bd_s hf; obtain ⟨v1, e1, hf⟩ := hf
  refine x_getI (pc := 1) dX5_lowest_1 fl_5_7 e1 ?_
  by_cases hc0 : v1 = 8
  · replace hf := it_t hc0 hf
    refine x_lkK (pc := 4) (k := 8) (tgt := 32) dX5_lowest_4 hc0 (by decide) (by rfl) rfl ?_
    refine x_iload_n (pc := 32) (x := x1) dX5_lowest_32 rfl ?_
    refine x_i2b (pc := 33) dX5_lowest_33 ?_
    obtain ⟨rfl, rfl⟩ := ret_s hf
    exact x_reti (pc := 34) dX5_lowest_34 rfl
  replace hf := it_f hc0 hf
  by_cases hc1 : v1 = 16
  · replace hf := it_t hc1 hf
    refine x_lkK (pc := 4) (k := 16) (tgt := 35) dX5_lowest_4 hc1 (by decide) (by rfl) rfl ?_
    refine x_iload_n (pc := 35) (x := x1) dX5_lowest_35 rfl ?_
    refine x_i2s (pc := 36) dX5_lowest_36 ?_
    obtain ⟨rfl, rfl⟩ := ret_s hf
    exact x_reti (pc := 37) dX5_lowest_37 rfl
  replace hf := it_f hc1 hf
  refine x_lookup (pc := 4) (tgt := 38) dX5_lowest_4 (by decide) ((lv_osw hc0 rfl).trans ((lv_osw hc1 rfl).trans rfl)) rfl ?_
  refine x_iload_n (pc := 38) (x := x1) dX5_lowest_38 rfl ?_
  obtain ⟨rfl, rfl⟩ := ret_s hf
  exact x_reti (pc := 39) dX5_lowest_39 rfl

def j_X5_renew_18 (h : AH) (x0 : Option Nat) (y0 : Option Nat) (y1 : Int32) : Option (Int32 × AH) :=
  bd (pI h y0 5 1 y1) fun h18 =>
  bd (gR h18 x0 5 2) fun v22 =>
  bd (f_J_fill h18 v22 0) fun h26 =>
  bd (gI h26 x0 5 1) fun v30 =>
  some (v30, h26)

set_option maxRecDepth 100000 in
set_option maxHeartbeats 4000000 in
theorem tj_X5_renew_18 {g : GT} {h : AH} {x0 : Option Nat} {y0 : Option Nat} {y1 : Int32} {r : Int32} {h' : AH} (hf : j_X5_renew_18 h x0 y0 y1 = some (r, h')) : Xj g mX5_renew h 18 [some (va_rf (x0)), none, none] [.int (y1), va_rf (y0)] (some (.int r)) h' := by
  rw [j_X5_renew_18] at hf
  replace hf := bd_s hf; obtain ⟨h18, e18, hf⟩ := hf
  refine x_putI (pc := 18) dX5_renew_18 fl_5_13 (fW_no rfl) e18 ?_
  refine x_aload_n (pc := 21) (a := x0) dX5_renew_21 rfl ?_
  replace hf := bd_s hf; obtain ⟨v22, e22, hf⟩ := hf
  refine x_getR (pc := 22) dX5_renew_22 fl_5_16 e22 ?_
  refine x_iconst (pc := 25) (v := 0) dX5_renew_25 (by decide) ?_
  replace hf := bd_s hf; obtain ⟨h26, e26, hf⟩ := hf
  refine x_cSv (pc := 26) (M' := mJ_fill) (as := [va_rf (v22), .int (0)]) (st := []) dX5_renew_26 mo_J_fill lk_5_24 sm_J_fill ⟨Nat.le_of_ble_eq_true rfl, Nat.le_of_ble_eq_true rfl⟩ rfl (Nat.le_of_ble_eq_true rfl) rfl (tm_J_fill e26) ?_
  refine x_aload_n (pc := 29) (a := x0) dX5_renew_29 rfl ?_
  replace hf := bd_s hf; obtain ⟨v30, e30, hf⟩ := hf
  refine x_getI (pc := 30) dX5_renew_30 fl_5_13 e30 ?_
  obtain ⟨rfl, rfl⟩ := ret_s hf
  exact x_reti (pc := 33) dX5_renew_33 rfl

def f_X5_renew (h : AH) (x0 : Option Nat) (x1 : Int32) (x2 : Int32) : Option (Int32 × AH) :=
  bd (pI h x0 5 0 x1) fun h2 =>
  bd (isO h2 x0 5) fun _ =>
  bd2 (f_X5_isMissing h2 x0) fun v7 h7 =>
  if v7 = 0 then (
    j_X5_renew_18  h7 x0 x0 x2
  ) else (
    j_X5_renew_18  h7 x0 x0 0
  )

set_option maxRecDepth 100000 in
set_option maxHeartbeats 4000000 in
theorem tm_X5_renew {g : GT} {h : AH} {x0 : Option Nat} {x1 : Int32} {x2 : Int32} {r : Int32} {h' : AH} (hf : f_X5_renew h x0 x1 x2 = some (r, h')) : Xm g mX5_renew [va_rf (x0), .int (x1), .int (x2)] h (some (.int r)) h' := by
  refine xm_of mo_X5_renew (Nat.le_of_ble_eq_true rfl) (ls := [some (va_rf (x0)), some (.int (x1)), some (.int (x2))]) rfl ?_
  rw [f_X5_renew] at hf
  refine x_aload_n (pc := 0) (a := x0) dX5_renew_0 rfl ?_
  refine x_iload_n (pc := 1) (x := x1) dX5_renew_1 rfl ?_
  replace hf := bd_s hf; obtain ⟨h2, e2, hf⟩ := hf
  refine x_putI (pc := 2) dX5_renew_2 fl_5_7 (fW_no rfl) e2 ?_
  refine x_aload_n (pc := 5) (a := x0) dX5_renew_5 rfl ?_
  refine x_aload_n (pc := 6) (a := x0) dX5_renew_6 rfl ?_
  replace hf := bd_s hf; obtain ⟨u7, i7, hf⟩ := hf
  replace hf := bd2_s hf; obtain ⟨v7, h7, e7, hf⟩ := hf
  refine x_cVi (pc := 7) (M' := mX5_isMissing) (as := []) (st := [va_rf (x0)]) (a := x0) (ci := 5) dX5_renew_7 mo_X5_isMissing lk_5_20 im_X5_isMissing se_X5_isMissing rfl ⟨Nat.le_of_ble_eq_true rfl, Nat.le_of_ble_eq_true rfl⟩ rfl (Nat.le_of_ble_eq_true rfl) rfl i7 (tm_X5_isMissing e7) ?_
  refine x_if_eq (pc := 10) (tgt := 17) (x := v7) dX5_renew_10 rfl (fun hc => ?_) (fun hc => ?_)
  · replace hf := it_t hc hf
    refine x_iload_n (pc := 17) (x := x2) dX5_renew_17 rfl ?_
    refine x_mask [true, false, false] rfl ?_
    exact tj_X5_renew_18  hf
  · replace hf := it_f hc hf
    refine x_iconst (pc := 13) (v := 0) dX5_renew_13 (by decide) ?_
    refine x_goto (pc := 14) (tgt := 18) dX5_renew_14 rfl ?_
    refine x_mask [true, false, false] rfl ?_
    exact tj_X5_renew_18  hf

def f_X6_bringRowsBack (h : AH) (x0 : Option Nat) : Option AH :=
  bd (gR h x0 6 2) fun v1 =>
  bd (gR h x0 6 1) fun v6 =>
  bd (gR h x0 6 1) fun v11 =>
  bd (lenA h v11) fun v14 =>
  bd (cpI h v1 0 v6 0 v14) fun h15 =>
  some h15

set_option maxRecDepth 100000 in
set_option maxHeartbeats 4000000 in
theorem tm_X6_bringRowsBack {g : GT} {h : AH} {x0 : Option Nat} {h' : AH} (hf : f_X6_bringRowsBack h x0 = some h') : Xm g mX6_bringRowsBack [va_rf (x0)] h none h' := by
  refine xm_of mo_X6_bringRowsBack (Nat.le_of_ble_eq_true rfl) (ls := [some (va_rf (x0))]) rfl ?_
  rw [f_X6_bringRowsBack] at hf
  refine x_aload_n (pc := 0) (a := x0) dX6_bringRowsBack_0 rfl ?_
  replace hf := bd_s hf; obtain ⟨v1, e1, hf⟩ := hf
  refine x_getR (pc := 1) dX6_bringRowsBack_1 fl_6_18 e1 ?_
  refine x_iconst (pc := 4) (v := 0) dX6_bringRowsBack_4 (by decide) ?_
  refine x_aload_n (pc := 5) (a := x0) dX6_bringRowsBack_5 rfl ?_
  replace hf := bd_s hf; obtain ⟨v6, e6, hf⟩ := hf
  refine x_getR (pc := 6) dX6_bringRowsBack_6 fl_6_15 e6 ?_
  refine x_iconst (pc := 9) (v := 0) dX6_bringRowsBack_9 (by decide) ?_
  refine x_aload_n (pc := 10) (a := x0) dX6_bringRowsBack_10 rfl ?_
  replace hf := bd_s hf; obtain ⟨v11, e11, hf⟩ := hf
  refine x_getR (pc := 11) dX6_bringRowsBack_11 fl_6_15 e11 ?_
  replace hf := bd_s hf; obtain ⟨v14, e14, hf⟩ := hf
  refine x_len (pc := 14) dX6_bringRowsBack_14 e14 ?_
  replace hf := bd_s hf; obtain ⟨h15, e15, hf⟩ := hf
  refine x_copy (pc := 15) dX6_bringRowsBack_15 la_6_36 cp_1 cp_2 cp_3 (Nat.le_of_ble_eq_true rfl) (Nat.le_of_ble_eq_true rfl) e15 ?_
  obtain rfl := Option.some.inj hf
  exact x_vret (pc := 18) dX6_bringRowsBack_18 rfl

def g_X6_guest_2 : Nat → AH → Option Nat → Int32 → Int32 → Int32 → Option (Int32 × AH)
  | 0, _, _, _, _, _ => none
  | n + 1, h, x0, x1, x2, x3 =>
    bd (isO h x0 6) fun _ =>
    bd2 (f_X6_size h x0) fun v4 h4 =>
    if v4 ≤ x3 then (
      some ((-1), h4)
    ) else (
      bd (isO h4 x0 6) fun _ =>
      bd2 (f_X6_read h4 x0 x3 (5 + x2)) fun v15 h15 =>
      if ¬ v15 = x1 then (
        g_X6_guest_2  n h15 x0 x1 x2 (x3 + 1)
      ) else (
        some (x3, h15)
      )
    )

set_option maxRecDepth 100000 in
set_option maxHeartbeats 4000000 in
theorem tg_X6_guest_2 {g : GT} : ∀ (n : Nat) {h : AH} {x0 : Option Nat} {x1 : Int32} {x2 : Int32} {x3 : Int32} {r : Int32} {h' : AH}, g_X6_guest_2 n h x0 x1 x2 x3 = some (r, h') → Xj g mX6_guest h 2 [some (va_rf (x0)), some (.int (x1)), some (.int (x2)), some (.int (x3))] [] (some (.int r)) h' := by
  intro n
  induction n with
  | zero =>
    intros
    rename_i z
    cases z
  | succ n ih =>
    intro h x0 x1 x2 x3 r h' hf
    rw [g_X6_guest_2] at hf
    refine x_iload_n (pc := 2) (x := x3) dX6_guest_2 rfl ?_
    refine x_aload_n (pc := 3) (a := x0) dX6_guest_3 rfl ?_
    replace hf := bd_s hf; obtain ⟨u4, i4, hf⟩ := hf
    replace hf := bd2_s hf; obtain ⟨v4, h4, e4, hf⟩ := hf
    refine x_cVi (pc := 4) (M' := mX6_size) (as := []) (st := [.int (x3)]) (a := x0) (ci := 6) dX6_guest_4 mo_X6_size lk_6_32 im_X6_size se_X6_size rfl ⟨Nat.le_of_ble_eq_true rfl, Nat.le_of_ble_eq_true rfl⟩ rfl (Nat.le_of_ble_eq_true rfl) rfl i4 (tm_X6_size e4) ?_
    refine x_icmp_ge (pc := 7) (tgt := 30) (x := x3) (y := v4) dX6_guest_7 rfl (fun hc => ?_) (fun hc => ?_)
    · replace hf := it_t hc hf
      refine x_iconst (pc := 30) (v := -1) dX6_guest_30 (by decide) ?_
      obtain ⟨rfl, rfl⟩ := ret_s hf
      exact x_reti (pc := 31) dX6_guest_31 rfl
    · replace hf := it_f hc hf
      refine x_aload_n (pc := 10) (a := x0) dX6_guest_10 rfl ?_
      refine x_iload_n (pc := 11) (x := x3) dX6_guest_11 rfl ?_
      refine x_iconst (pc := 12) (v := 5) dX6_guest_12 (by decide) ?_
      refine x_iload_n (pc := 13) (x := x2) dX6_guest_13 rfl ?_
      refine x_iadd (pc := 14) dX6_guest_14 ?_
      replace hf := bd_s hf; obtain ⟨u15, i15, hf⟩ := hf
      replace hf := bd2_s hf; obtain ⟨v15, h15, e15, hf⟩ := hf
      refine x_cVi (pc := 15) (M' := mX6_read) (as := [.int (x3), .int (5 + x2)]) (st := []) (a := x0) (ci := 6) dX6_guest_15 mo_X6_read lk_6_29 im_X6_read se_X6_read rfl ⟨Nat.le_of_ble_eq_true rfl, Nat.le_of_ble_eq_true rfl⟩ rfl (Nat.le_of_ble_eq_true rfl) rfl i15 (tm_X6_read e15) ?_
      refine x_iload_n (pc := 18) (x := x1) dX6_guest_18 rfl ?_
      refine x_icmp_ne (pc := 19) (tgt := 24) (x := v15) (y := x1) dX6_guest_19 rfl (fun hc => ?_) (fun hc => ?_)
      · replace hf := it_t hc hf
        refine x_iinc (pc := 24) (x := x3) (v := x3 + 1) (ls' := [some (va_rf (x0)), some (.int (x1)), some (.int (x2)), some (.int (x3 + 1))]) dX6_guest_24 rfl rfl (by decide) rfl ?_
        refine x_goto (pc := 27) (tgt := 2) dX6_guest_27 rfl ?_
        exact ih hf
      · replace hf := it_n hc hf
        refine x_iload_n (pc := 22) (x := x3) dX6_guest_22 rfl ?_
        obtain ⟨rfl, rfl⟩ := ret_s hf
        exact x_reti (pc := 23) dX6_guest_23 rfl

def f_X6_guest (h : AH) (x0 : Option Nat) (x1 : Int32) (x2 : Int32) : Option (Int32 × AH) :=
  g_X6_guest_2  NN h x0 x1 x2 0

set_option maxRecDepth 100000 in
set_option maxHeartbeats 4000000 in
theorem tm_X6_guest {g : GT} {h : AH} {x0 : Option Nat} {x1 : Int32} {x2 : Int32} {r : Int32} {h' : AH} (hf : f_X6_guest h x0 x1 x2 = some (r, h')) : Xm g mX6_guest [va_rf (x0), .int (x1), .int (x2)] h (some (.int r)) h' := by
  refine xm_of mo_X6_guest (Nat.le_of_ble_eq_true rfl) (ls := [some (va_rf (x0)), some (.int (x1)), some (.int (x2)), none]) rfl ?_
  rw [f_X6_guest] at hf
  refine x_iconst (pc := 0) (v := 0) dX6_guest_0 (by decide) ?_
  refine x_istore_n (pc := 1) (ls' := [some (va_rf (x0)), some (.int (x1)), some (.int (x2)), some (.int (0))]) dX6_guest_1 (by decide) rfl ?_
  exact tg_X6_guest_2  NN hf

def f_X6_init (h : AH) (x0 : Nat) : Option AH :=
  bd2 (nA h 0 1) fun v6 h6 =>
  bd (pR h6 (some x0) 6 0 v6) fun h8 =>
  bd2 (nA h8 0 350) fun v15 h15 =>
  bd (pR h15 (some x0) 6 1 v15) fun h17 =>
  bd2 (nA h17 0 350) fun v24 h24 =>
  bd (pR h24 (some x0) 6 2 v24) fun h26 =>
  some h26

set_option maxRecDepth 100000 in
set_option maxHeartbeats 4000000 in
theorem tm_X6_init {g : GT} {h : AH} {x0 : Nat} {h' : AH} (hf : f_X6_init h x0 = some h') : Xm g mX6_init [va_rf (some x0)] h none h' := by
  refine xm_of mo_X6_init (Nat.le_of_ble_eq_true rfl) (ls := [some (va_rf (some x0))]) rfl ?_
  rw [f_X6_init] at hf
  refine x_aload_n (pc := 0) (a := some x0) dX6_init_0 rfl ?_
  refine x_objInit (pc := 1) dX6_init_1 lo_6_5 oi_1 oi_2 (Nat.le_of_ble_eq_true rfl) (Nat.le_of_ble_eq_true rfl) ?_
  refine x_aload_n (pc := 4) (a := some x0) dX6_init_4 rfl ?_
  refine x_iconst (pc := 5) (v := 1) dX6_init_5 (by decide) ?_
  replace hf := bd2_s hf; obtain ⟨v6, h6, e6, hf⟩ := hf
  refine x_nI (pc := 6) dX6_init_6 ac_int e6 ?_
  replace hf := bd_s hf; obtain ⟨h8, e8, hf⟩ := hf
  refine x_putR (pc := 8) dX6_init_8 fl_6_11 (fW_in rfl rfl) e8 ?_
  refine x_aload_n (pc := 11) (a := some x0) dX6_init_11 rfl ?_
  refine x_sipush (pc := 12) (v := 350) dX6_init_12 (by decide) ?_
  replace hf := bd2_s hf; obtain ⟨v15, h15, e15, hf⟩ := hf
  refine x_nI (pc := 15) dX6_init_15 ac_int e15 ?_
  replace hf := bd_s hf; obtain ⟨h17, e17, hf⟩ := hf
  refine x_putR (pc := 17) dX6_init_17 fl_6_15 (fW_in rfl rfl) e17 ?_
  refine x_aload_n (pc := 20) (a := some x0) dX6_init_20 rfl ?_
  refine x_sipush (pc := 21) (v := 350) dX6_init_21 (by decide) ?_
  replace hf := bd2_s hf; obtain ⟨v24, h24, e24, hf⟩ := hf
  refine x_nI (pc := 24) dX6_init_24 ac_int e24 ?_
  replace hf := bd_s hf; obtain ⟨h26, e26, hf⟩ := hf
  refine x_putR (pc := 26) dX6_init_26 fl_6_18 (fW_in rfl rfl) e26 ?_
  obtain rfl := Option.some.inj hf
  exact x_vret (pc := 29) dX6_init_29 rfl

def g_X6_nightsOf_4 : Nat → AH → Option Nat → Int32 → Int32 → Int32 → Option (Int32 × AH)
  | 0, _, _, _, _, _ => none
  | n + 1, h, x0, x1, x2, x3 =>
    if 30 ≤ x3 then (
      some (x2, h)
    ) else (
      bd (isO h x0 6) fun _ =>
      bd2 (f_X6_read h x0 x1 (5 + x3)) fun v15 h15 =>
      if v15 = (-1) then (
        g_X6_nightsOf_4  n h15 x0 x1 x2 (x3 + 1)
      ) else (
        g_X6_nightsOf_4  n h15 x0 x1 (x2 + 1) (x3 + 1)
      )
    )

set_option maxRecDepth 100000 in
set_option maxHeartbeats 4000000 in
theorem tg_X6_nightsOf_4 {g : GT} : ∀ (n : Nat) {h : AH} {x0 : Option Nat} {x1 : Int32} {x2 : Int32} {x3 : Int32} {r : Int32} {h' : AH}, g_X6_nightsOf_4 n h x0 x1 x2 x3 = some (r, h') → Xj g mX6_nightsOf h 4 [some (va_rf (x0)), some (.int (x1)), some (.int (x2)), some (.int (x3))] [] (some (.int r)) h' := by
  intro n
  induction n with
  | zero =>
    intros
    rename_i z
    cases z
  | succ n ih =>
    intro h x0 x1 x2 x3 r h' hf
    rw [g_X6_nightsOf_4] at hf
    refine x_iload_n (pc := 4) (x := x3) dX6_nightsOf_4 rfl ?_
    refine x_bipush (pc := 5) (v := 30) dX6_nightsOf_5 (by decide) ?_
    refine x_icmp_ge (pc := 7) (tgt := 31) (x := x3) (y := 30) dX6_nightsOf_7 rfl (fun hc => ?_) (fun hc => ?_)
    · replace hf := it_t hc hf
      refine x_iload_n (pc := 31) (x := x2) dX6_nightsOf_31 rfl ?_
      obtain ⟨rfl, rfl⟩ := ret_s hf
      exact x_reti (pc := 32) dX6_nightsOf_32 rfl
    · replace hf := it_f hc hf
      refine x_aload_n (pc := 10) (a := x0) dX6_nightsOf_10 rfl ?_
      refine x_iload_n (pc := 11) (x := x1) dX6_nightsOf_11 rfl ?_
      refine x_iconst (pc := 12) (v := 5) dX6_nightsOf_12 (by decide) ?_
      refine x_iload_n (pc := 13) (x := x3) dX6_nightsOf_13 rfl ?_
      refine x_iadd (pc := 14) dX6_nightsOf_14 ?_
      replace hf := bd_s hf; obtain ⟨u15, i15, hf⟩ := hf
      replace hf := bd2_s hf; obtain ⟨v15, h15, e15, hf⟩ := hf
      refine x_cVi (pc := 15) (M' := mX6_read) (as := [.int (x1), .int (5 + x3)]) (st := []) (a := x0) (ci := 6) dX6_nightsOf_15 mo_X6_read lk_6_29 im_X6_read se_X6_read rfl ⟨Nat.le_of_ble_eq_true rfl, Nat.le_of_ble_eq_true rfl⟩ rfl (Nat.le_of_ble_eq_true rfl) rfl i15 (tm_X6_read e15) ?_
      refine x_iconst (pc := 18) (v := -1) dX6_nightsOf_18 (by decide) ?_
      refine x_icmp_eq (pc := 19) (tgt := 25) (x := v15) (y := (-1)) dX6_nightsOf_19 rfl (fun hc => ?_) (fun hc => ?_)
      · replace hf := it_t hc hf
        refine x_iinc (pc := 25) (x := x3) (v := x3 + 1) (ls' := [some (va_rf (x0)), some (.int (x1)), some (.int (x2)), some (.int (x3 + 1))]) dX6_nightsOf_25 rfl rfl (by decide) rfl ?_
        refine x_goto (pc := 28) (tgt := 4) dX6_nightsOf_28 rfl ?_
        exact ih hf
      · replace hf := it_f hc hf
        refine x_iinc (pc := 22) (x := x2) (v := x2 + 1) (ls' := [some (va_rf (x0)), some (.int (x1)), some (.int (x2 + 1)), some (.int (x3))]) dX6_nightsOf_22 rfl rfl (by decide) rfl ?_
        refine x_iinc (pc := 25) (x := x3) (v := x3 + 1) (ls' := [some (va_rf (x0)), some (.int (x1)), some (.int (x2 + 1)), some (.int (x3 + 1))]) dX6_nightsOf_25 rfl rfl (by decide) rfl ?_
        refine x_goto (pc := 28) (tgt := 4) dX6_nightsOf_28 rfl ?_
        exact ih hf

def f_X6_nightsOf (h : AH) (x0 : Option Nat) (x1 : Int32) : Option (Int32 × AH) :=
  g_X6_nightsOf_4  NN h x0 x1 0 0

set_option maxRecDepth 100000 in
set_option maxHeartbeats 4000000 in
theorem tm_X6_nightsOf {g : GT} {h : AH} {x0 : Option Nat} {x1 : Int32} {r : Int32} {h' : AH} (hf : f_X6_nightsOf h x0 x1 = some (r, h')) : Xm g mX6_nightsOf [va_rf (x0), .int (x1)] h (some (.int r)) h' := by
  refine xm_of mo_X6_nightsOf (Nat.le_of_ble_eq_true rfl) (ls := [some (va_rf (x0)), some (.int (x1)), none, none]) rfl ?_
  rw [f_X6_nightsOf] at hf
  refine x_iconst (pc := 0) (v := 0) dX6_nightsOf_0 (by decide) ?_
  refine x_istore_n (pc := 1) (ls' := [some (va_rf (x0)), some (.int (x1)), some (.int (0)), none]) dX6_nightsOf_1 (by decide) rfl ?_
  refine x_iconst (pc := 2) (v := 0) dX6_nightsOf_2 (by decide) ?_
  refine x_istore_n (pc := 3) (ls' := [some (va_rf (x0)), some (.int (x1)), some (.int (0)), some (.int (0))]) dX6_nightsOf_3 (by decide) rfl ?_
  exact tg_X6_nightsOf_4  NN hf

def f_X6_saveRows (h : AH) (x0 : Option Nat) : Option AH :=
  bd (gR h x0 6 1) fun v1 =>
  bd (gR h x0 6 2) fun v6 =>
  bd (gR h x0 6 1) fun v11 =>
  bd (lenA h v11) fun v14 =>
  bd (cpI h v1 0 v6 0 v14) fun h15 =>
  some h15

set_option maxRecDepth 100000 in
set_option maxHeartbeats 4000000 in
theorem tm_X6_saveRows {g : GT} {h : AH} {x0 : Option Nat} {h' : AH} (hf : f_X6_saveRows h x0 = some h') : Xm g mX6_saveRows [va_rf (x0)] h none h' := by
  refine xm_of mo_X6_saveRows (Nat.le_of_ble_eq_true rfl) (ls := [some (va_rf (x0))]) rfl ?_
  rw [f_X6_saveRows] at hf
  refine x_aload_n (pc := 0) (a := x0) dX6_saveRows_0 rfl ?_
  replace hf := bd_s hf; obtain ⟨v1, e1, hf⟩ := hf
  refine x_getR (pc := 1) dX6_saveRows_1 fl_6_15 e1 ?_
  refine x_iconst (pc := 4) (v := 0) dX6_saveRows_4 (by decide) ?_
  refine x_aload_n (pc := 5) (a := x0) dX6_saveRows_5 rfl ?_
  replace hf := bd_s hf; obtain ⟨v6, e6, hf⟩ := hf
  refine x_getR (pc := 6) dX6_saveRows_6 fl_6_18 e6 ?_
  refine x_iconst (pc := 9) (v := 0) dX6_saveRows_9 (by decide) ?_
  refine x_aload_n (pc := 10) (a := x0) dX6_saveRows_10 rfl ?_
  replace hf := bd_s hf; obtain ⟨v11, e11, hf⟩ := hf
  refine x_getR (pc := 11) dX6_saveRows_11 fl_6_15 e11 ?_
  replace hf := bd_s hf; obtain ⟨v14, e14, hf⟩ := hf
  refine x_len (pc := 14) dX6_saveRows_14 e14 ?_
  replace hf := bd_s hf; obtain ⟨h15, e15, hf⟩ := hf
  refine x_copy (pc := 15) dX6_saveRows_15 la_6_36 cp_1 cp_2 cp_3 (Nat.le_of_ble_eq_true rfl) (Nat.le_of_ble_eq_true rfl) e15 ?_
  obtain rfl := Option.some.inj hf
  exact x_vret (pc := 18) dX6_saveRows_18 rfl

def f_X7_finding (h : AH) (x0 : Option Nat) (x1 : Int32) : Option (Int32 × AH) :=
  bd (gI h x0 7 6) fun v2 =>
  bd (pI h x0 7 6 (v2 + 1)) fun h7 =>
  some (x1, h7)

set_option maxRecDepth 100000 in
set_option maxHeartbeats 4000000 in
theorem tm_X7_finding {g : GT} {h : AH} {x0 : Option Nat} {x1 : Int32} {r : Int32} {h' : AH} (hf : f_X7_finding h x0 x1 = some (r, h')) : Xm g mX7_finding [va_rf (x0), .int (x1)] h (some (.int r)) h' := by
  refine xm_of mo_X7_finding (Nat.le_of_ble_eq_true rfl) (ls := [some (va_rf (x0)), some (.int (x1))]) rfl ?_
  rw [f_X7_finding] at hf
  refine x_aload_n (pc := 0) (a := x0) dX7_finding_0 rfl ?_
  refine x_dup (pc := 1) dX7_finding_1 ?_
  replace hf := bd_s hf; obtain ⟨v2, e2, hf⟩ := hf
  refine x_getI (pc := 2) dX7_finding_2 fl_7_50 e2 ?_
  refine x_iconst (pc := 5) (v := 1) dX7_finding_5 (by decide) ?_
  refine x_iadd (pc := 6) dX7_finding_6 ?_
  replace hf := bd_s hf; obtain ⟨h7, e7, hf⟩ := hf
  refine x_putI (pc := 7) dX7_finding_7 fl_7_50 (fW_no rfl) e7 ?_
  refine x_iload_n (pc := 10) (x := x1) dX7_finding_10 rfl ?_
  obtain ⟨rfl, rfl⟩ := ret_s hf
  exact x_reti (pc := 11) dX7_finding_11 rfl

def f_X7_all (h : AH) (x0 : Option Nat) (x1 : Int32) : Option (Int32 × AH) :=
  if x1 = 0 then (
    bd (gR h x0 7 0) fun v41 =>
    bd (gR h v41 4 1) fun v44 =>
    bd (ldI h v44 0) fun v48 =>
    some (v48, h)
  ) else
  if x1 = 1 then (
    bd (gR h x0 7 0) fun v51 =>
    bd (gR h v51 4 1) fun v54 =>
    bd (ldI h v54 1) fun v58 =>
    some (v58, h)
  ) else
  if x1 = 2 then (
    bd (gR h x0 7 0) fun v61 =>
    bd (gR h v61 4 1) fun v64 =>
    bd (ldI h v64 2) fun v68 =>
    some (v68, h)
  ) else
  if x1 = 3 then (
    bd (gR h x0 7 1) fun v71 =>
    bd (isO h v71 6) fun _ =>
    bd2 (f_X6_size h v71) fun v74 h74 =>
    some (v74, h74)
  ) else
  if x1 = 4 then (
    bd (gR h x0 7 3) fun v79 =>
    bd (isO h v79 0) fun _ =>
    bd2 (f_X0_size h v79) fun v82 h82 =>
    some (v82, h82)
  ) else
  if x1 = 5 then (
    bd (gI h x0 7 6) fun v87 =>
    some (v87, h)
  ) else
  (
    bd (isO h x0 7) fun _ =>
    bd2 (f_X7_finding h x0 (-100001)) fun v94 h94 =>
    some (v94, h94)
  )

set_option maxRecDepth 100000 in
set_option maxHeartbeats 4000000 in
theorem tm_X7_all {g : GT} {h : AH} {x0 : Option Nat} {x1 : Int32} {r : Int32} {h' : AH} (hf : f_X7_all h x0 x1 = some (r, h')) : Xm g mX7_all [va_rf (x0), .int (x1)] h (some (.int r)) h' := by
  refine xm_of mo_X7_all (Nat.le_of_ble_eq_true rfl) (ls := [some (va_rf (x0)), some (.int (x1))]) rfl ?_
  rw [f_X7_all] at hf
  refine x_iload_n (pc := 0) (x := x1) dX7_all_0 rfl ?_
  by_cases hc0 : x1 = 0
  · replace hf := it_t hc0 hf
    refine x_tabK (pc := 1) (k := 0) (tgt := 40) dX7_all_1 hc0 (by decide) (by decide) (by rfl) rfl ?_
    refine x_aload_n (pc := 40) (a := x0) dX7_all_40 rfl ?_
    replace hf := bd_s hf; obtain ⟨v41, e41, hf⟩ := hf
    refine x_getR (pc := 41) dX7_all_41 fl_7_10 e41 ?_
    replace hf := bd_s hf; obtain ⟨v44, e44, hf⟩ := hf
    refine x_getR (pc := 44) dX7_all_44 fl_7_72 e44 ?_
    refine x_iconst (pc := 47) (v := 0) dX7_all_47 (by decide) ?_
    replace hf := bd_s hf; obtain ⟨v48, e48, hf⟩ := hf
    refine x_ldI (pc := 48) dX7_all_48 e48 ?_
    obtain ⟨rfl, rfl⟩ := ret_s hf
    exact x_reti (pc := 49) dX7_all_49 rfl
  replace hf := it_f hc0 hf
  by_cases hc1 : x1 = 1
  · replace hf := it_t hc1 hf
    refine x_tabK (pc := 1) (k := 1) (tgt := 50) dX7_all_1 hc1 (by decide) (by decide) (by rfl) rfl ?_
    refine x_aload_n (pc := 50) (a := x0) dX7_all_50 rfl ?_
    replace hf := bd_s hf; obtain ⟨v51, e51, hf⟩ := hf
    refine x_getR (pc := 51) dX7_all_51 fl_7_10 e51 ?_
    replace hf := bd_s hf; obtain ⟨v54, e54, hf⟩ := hf
    refine x_getR (pc := 54) dX7_all_54 fl_7_72 e54 ?_
    refine x_iconst (pc := 57) (v := 1) dX7_all_57 (by decide) ?_
    replace hf := bd_s hf; obtain ⟨v58, e58, hf⟩ := hf
    refine x_ldI (pc := 58) dX7_all_58 e58 ?_
    obtain ⟨rfl, rfl⟩ := ret_s hf
    exact x_reti (pc := 59) dX7_all_59 rfl
  replace hf := it_f hc1 hf
  by_cases hc2 : x1 = 2
  · replace hf := it_t hc2 hf
    refine x_tabK (pc := 1) (k := 2) (tgt := 60) dX7_all_1 hc2 (by decide) (by decide) (by rfl) rfl ?_
    refine x_aload_n (pc := 60) (a := x0) dX7_all_60 rfl ?_
    replace hf := bd_s hf; obtain ⟨v61, e61, hf⟩ := hf
    refine x_getR (pc := 61) dX7_all_61 fl_7_10 e61 ?_
    replace hf := bd_s hf; obtain ⟨v64, e64, hf⟩ := hf
    refine x_getR (pc := 64) dX7_all_64 fl_7_72 e64 ?_
    refine x_iconst (pc := 67) (v := 2) dX7_all_67 (by decide) ?_
    replace hf := bd_s hf; obtain ⟨v68, e68, hf⟩ := hf
    refine x_ldI (pc := 68) dX7_all_68 e68 ?_
    obtain ⟨rfl, rfl⟩ := ret_s hf
    exact x_reti (pc := 69) dX7_all_69 rfl
  replace hf := it_f hc2 hf
  by_cases hc3 : x1 = 3
  · replace hf := it_t hc3 hf
    refine x_tabK (pc := 1) (k := 3) (tgt := 70) dX7_all_1 hc3 (by decide) (by decide) (by rfl) rfl ?_
    refine x_aload_n (pc := 70) (a := x0) dX7_all_70 rfl ?_
    replace hf := bd_s hf; obtain ⟨v71, e71, hf⟩ := hf
    refine x_getR (pc := 71) dX7_all_71 fl_7_19 e71 ?_
    replace hf := bd_s hf; obtain ⟨u74, i74, hf⟩ := hf
    replace hf := bd2_s hf; obtain ⟨v74, h74, e74, hf⟩ := hf
    refine x_cVi (pc := 74) (M' := mX6_size) (as := []) (st := []) (a := v71) (ci := 6) dX7_all_74 mo_X6_size lk_7_119 im_X6_size se_X6_size rfl ⟨Nat.le_of_ble_eq_true rfl, Nat.le_of_ble_eq_true rfl⟩ rfl (Nat.le_of_ble_eq_true rfl) rfl i74 (tm_X6_size e74) ?_
    obtain ⟨rfl, rfl⟩ := ret_s hf
    exact x_reti (pc := 77) dX7_all_77 rfl
  replace hf := it_f hc3 hf
  by_cases hc4 : x1 = 4
  · replace hf := it_t hc4 hf
    refine x_tabK (pc := 1) (k := 4) (tgt := 78) dX7_all_1 hc4 (by decide) (by decide) (by rfl) rfl ?_
    refine x_aload_n (pc := 78) (a := x0) dX7_all_78 rfl ?_
    replace hf := bd_s hf; obtain ⟨v79, e79, hf⟩ := hf
    refine x_getR (pc := 79) dX7_all_79 fl_7_33 e79 ?_
    replace hf := bd_s hf; obtain ⟨u82, i82, hf⟩ := hf
    replace hf := bd2_s hf; obtain ⟨v82, h82, e82, hf⟩ := hf
    refine x_cVi (pc := 82) (M' := mX0_size) (as := []) (st := []) (a := v79) (ci := 0) dX7_all_82 mo_X0_size lk_7_202 im_X0_size se_X0_size rfl ⟨Nat.le_of_ble_eq_true rfl, Nat.le_of_ble_eq_true rfl⟩ rfl (Nat.le_of_ble_eq_true rfl) rfl i82 (tm_X0_size e82) ?_
    obtain ⟨rfl, rfl⟩ := ret_s hf
    exact x_reti (pc := 85) dX7_all_85 rfl
  replace hf := it_f hc4 hf
  by_cases hc5 : x1 = 5
  · replace hf := it_t hc5 hf
    refine x_tabK (pc := 1) (k := 5) (tgt := 86) dX7_all_1 hc5 (by decide) (by decide) (by rfl) rfl ?_
    refine x_aload_n (pc := 86) (a := x0) dX7_all_86 rfl ?_
    replace hf := bd_s hf; obtain ⟨v87, e87, hf⟩ := hf
    refine x_getI (pc := 87) dX7_all_87 fl_7_50 e87 ?_
    obtain ⟨rfl, rfl⟩ := ret_s hf
    exact x_reti (pc := 90) dX7_all_90 rfl
  replace hf := it_f hc5 hf
  refine x_tabD (pc := 1) (n := 5) (tgt := 91) dX7_all_1 (fun k hk => match k, hk with
    | 0, _ => hc0
    | 1, _ => hc1
    | 2, _ => hc2
    | 3, _ => hc3
    | 4, _ => hc4
    | 5, _ => hc5
    | k + 6, hk => absurd hk (by omega)) (by decide) rfl ?_
  refine x_aload_n (pc := 91) (a := x0) dX7_all_91 rfl ?_
  refine x_ldc (pc := 92) (v := -100001) dX7_all_92 kc_7_59 ?_
  replace hf := bd_s hf; obtain ⟨u94, i94, hf⟩ := hf
  replace hf := bd2_s hf; obtain ⟨v94, h94, e94, hf⟩ := hf
  refine x_cVi (pc := 94) (M' := mX7_finding) (as := [.int ((-100001))]) (st := []) (a := x0) (ci := 7) dX7_all_94 mo_X7_finding lk_7_60 im_X7_finding se_X7_finding rfl ⟨Nat.le_of_ble_eq_true rfl, Nat.le_of_ble_eq_true rfl⟩ rfl (Nat.le_of_ble_eq_true rfl) rfl i94 (tm_X7_finding e94) ?_
  obtain ⟨rfl, rfl⟩ := ret_s hf
  exact x_reti (pc := 97) dX7_all_97 rfl

def f_X7_change (h : AH) (x0 : Option Nat) (x1 : Option Nat) (x2 : Int32) (x3 : Int32) : Option (Int32 × AH) :=
  bd (gR h x0 7 4) fun v1 =>
  bd (isO h v1 1) fun _ =>
  bd (f_X1_keep h v1 x1 x2 1) fun h7 =>
  bd (ldI h7 x1 x2) fun v12 =>
  bd (stI h7 x1 x2 x3) fun h18 =>
  some (v12, h18)

set_option maxRecDepth 100000 in
set_option maxHeartbeats 4000000 in
theorem tm_X7_change {g : GT} {h : AH} {x0 : Option Nat} {x1 : Option Nat} {x2 : Int32} {x3 : Int32} {r : Int32} {h' : AH} (hf : f_X7_change h x0 x1 x2 x3 = some (r, h')) : Xm g mX7_change [va_rf (x0), va_rf (x1), .int (x2), .int (x3)] h (some (.int r)) h' := by
  refine xm_of mo_X7_change (Nat.le_of_ble_eq_true rfl) (ls := [some (va_rf (x0)), some (va_rf (x1)), some (.int (x2)), some (.int (x3)), none]) rfl ?_
  rw [f_X7_change] at hf
  refine x_aload_n (pc := 0) (a := x0) dX7_change_0 rfl ?_
  replace hf := bd_s hf; obtain ⟨v1, e1, hf⟩ := hf
  refine x_getR (pc := 1) dX7_change_1 fl_7_40 e1 ?_
  refine x_aload_n (pc := 4) (a := x1) dX7_change_4 rfl ?_
  refine x_iload_n (pc := 5) (x := x2) dX7_change_5 rfl ?_
  refine x_iconst (pc := 6) (v := 1) dX7_change_6 (by decide) ?_
  replace hf := bd_s hf; obtain ⟨u7, i7, hf⟩ := hf
  replace hf := bd_s hf; obtain ⟨h7, e7, hf⟩ := hf
  refine x_cVv (pc := 7) (M' := mX1_keep) (as := [va_rf (x1), .int (x2), .int (1)]) (st := []) (a := v1) (ci := 1) dX7_change_7 mo_X1_keep lk_7_260 im_X1_keep se_X1_keep rfl ⟨Nat.le_of_ble_eq_true rfl, Nat.le_of_ble_eq_true rfl⟩ rfl (Nat.le_of_ble_eq_true rfl) rfl i7 (tm_X1_keep e7) ?_
  refine x_aload_n (pc := 10) (a := x1) dX7_change_10 rfl ?_
  refine x_iload_n (pc := 11) (x := x2) dX7_change_11 rfl ?_
  replace hf := bd_s hf; obtain ⟨v12, e12, hf⟩ := hf
  refine x_ldI (pc := 12) dX7_change_12 e12 ?_
  refine x_istore (pc := 13) (ls' := [some (va_rf (x0)), some (va_rf (x1)), some (.int (x2)), some (.int (x3)), some (.int (v12))]) dX7_change_13 (by decide) rfl ?_
  refine x_aload_n (pc := 15) (a := x1) dX7_change_15 rfl ?_
  refine x_iload_n (pc := 16) (x := x2) dX7_change_16 rfl ?_
  refine x_iload_n (pc := 17) (x := x3) dX7_change_17 rfl ?_
  replace hf := bd_s hf; obtain ⟨h18, e18, hf⟩ := hf
  refine x_stI (pc := 18) dX7_change_18 e18 ?_
  refine x_iload (pc := 19) (x := v12) dX7_change_19 rfl ?_
  obtain ⟨rfl, rfl⟩ := ret_s hf
  exact x_reti (pc := 21) dX7_change_21 rfl

def f_X7_applicant (h : AH) (x0 : Option Nat) (x1 : Int32) : Option (Int32 × AH) :=
  bd2 (f_X7_within h x1 1 99) fun v4 h4 =>
  if ¬ v4 = 0 then (
    bd (gR h4 x0 7 3) fun v18 =>
    bd (isO h4 v18 0) fun _ =>
    bd2 (f_X0_size h4 v18) fun v21 h21 =>
    if v21 < 12 then (
      bd (gR h21 x0 7 3) fun v39 =>
      bd (gR h21 v39 0 1) fun v42 =>
      bd (stI h21 v42 v21 x1) fun h47 =>
      bd (gR h47 x0 7 3) fun v50 =>
      bd (gR h47 v50 0 0) fun v53 =>
      bd (isO h47 x0 7) fun _ =>
      bd2 (f_X7_change h47 x0 v53 0 (v21 + 1)) fun v60 h60 =>
      some (v60, h60)
    ) else (
      bd (isO h21 x0 7) fun _ =>
      bd2 (f_X7_finding h21 x0 (-100005)) fun v34 h34 =>
      some (v34, h34)
    )
  ) else (
    bd (isO h4 x0 7) fun _ =>
    bd2 (f_X7_finding h4 x0 (-100001)) fun v13 h13 =>
    some (v13, h13)
  )

set_option maxRecDepth 100000 in
set_option maxHeartbeats 4000000 in
theorem tm_X7_applicant {g : GT} {h : AH} {x0 : Option Nat} {x1 : Int32} {r : Int32} {h' : AH} (hf : f_X7_applicant h x0 x1 = some (r, h')) : Xm g mX7_applicant [va_rf (x0), .int (x1)] h (some (.int r)) h' := by
  refine xm_of mo_X7_applicant (Nat.le_of_ble_eq_true rfl) (ls := [some (va_rf (x0)), some (.int (x1)), none]) rfl ?_
  rw [f_X7_applicant] at hf
  refine x_iload_n (pc := 0) (x := x1) dX7_applicant_0 rfl ?_
  refine x_iconst (pc := 1) (v := 1) dX7_applicant_1 (by decide) ?_
  refine x_bipush (pc := 2) (v := 99) dX7_applicant_2 (by decide) ?_
  replace hf := bd2_s hf; obtain ⟨v4, h4, e4, hf⟩ := hf
  refine x_cSi (pc := 4) (M' := mX7_within) (as := [.int (x1), .int (1), .int (99)]) (st := []) dX7_applicant_4 mo_X7_within lk_7_55 sm_X7_within ⟨Nat.le_of_ble_eq_true rfl, Nat.le_of_ble_eq_true rfl⟩ rfl (Nat.le_of_ble_eq_true rfl) rfl (tm_X7_within e4) ?_
  refine x_if_ne (pc := 7) (tgt := 17) (x := v4) dX7_applicant_7 rfl (fun hc => ?_) (fun hc => ?_)
  · replace hf := it_t hc hf
    refine x_aload_n (pc := 17) (a := x0) dX7_applicant_17 rfl ?_
    replace hf := bd_s hf; obtain ⟨v18, e18, hf⟩ := hf
    refine x_getR (pc := 18) dX7_applicant_18 fl_7_33 e18 ?_
    replace hf := bd_s hf; obtain ⟨u21, i21, hf⟩ := hf
    replace hf := bd2_s hf; obtain ⟨v21, h21, e21, hf⟩ := hf
    refine x_cVi (pc := 21) (M' := mX0_size) (as := []) (st := []) (a := v18) (ci := 0) dX7_applicant_21 mo_X0_size lk_7_202 im_X0_size se_X0_size rfl ⟨Nat.le_of_ble_eq_true rfl, Nat.le_of_ble_eq_true rfl⟩ rfl (Nat.le_of_ble_eq_true rfl) rfl i21 (tm_X0_size e21) ?_
    refine x_istore_n (pc := 24) (ls' := [some (va_rf (x0)), some (.int (x1)), some (.int (v21))]) dX7_applicant_24 (by decide) rfl ?_
    refine x_iload_n (pc := 25) (x := v21) dX7_applicant_25 rfl ?_
    refine x_bipush (pc := 26) (v := 12) dX7_applicant_26 (by decide) ?_
    refine x_icmp_lt (pc := 28) (tgt := 38) (x := v21) (y := 12) dX7_applicant_28 rfl (fun hc => ?_) (fun hc => ?_)
    · replace hf := it_t hc hf
      refine x_aload_n (pc := 38) (a := x0) dX7_applicant_38 rfl ?_
      replace hf := bd_s hf; obtain ⟨v39, e39, hf⟩ := hf
      refine x_getR (pc := 39) dX7_applicant_39 fl_7_33 e39 ?_
      replace hf := bd_s hf; obtain ⟨v42, e42, hf⟩ := hf
      refine x_getR (pc := 42) dX7_applicant_42 fl_7_203 e42 ?_
      refine x_iload_n (pc := 45) (x := v21) dX7_applicant_45 rfl ?_
      refine x_iload_n (pc := 46) (x := x1) dX7_applicant_46 rfl ?_
      replace hf := bd_s hf; obtain ⟨h47, e47, hf⟩ := hf
      refine x_stI (pc := 47) dX7_applicant_47 e47 ?_
      refine x_aload_n (pc := 48) (a := x0) dX7_applicant_48 rfl ?_
      refine x_aload_n (pc := 49) (a := x0) dX7_applicant_49 rfl ?_
      replace hf := bd_s hf; obtain ⟨v50, e50, hf⟩ := hf
      refine x_getR (pc := 50) dX7_applicant_50 fl_7_33 e50 ?_
      replace hf := bd_s hf; obtain ⟨v53, e53, hf⟩ := hf
      refine x_getR (pc := 53) dX7_applicant_53 fl_7_206 e53 ?_
      refine x_iconst (pc := 56) (v := 0) dX7_applicant_56 (by decide) ?_
      refine x_iload_n (pc := 57) (x := v21) dX7_applicant_57 rfl ?_
      refine x_iconst (pc := 58) (v := 1) dX7_applicant_58 (by decide) ?_
      refine x_iadd (pc := 59) dX7_applicant_59 ?_
      replace hf := bd_s hf; obtain ⟨u60, i60, hf⟩ := hf
      replace hf := bd2_s hf; obtain ⟨v60, h60, e60, hf⟩ := hf
      refine x_cVi (pc := 60) (M' := mX7_change) (as := [va_rf (v53), .int (0), .int (v21 + 1)]) (st := []) (a := x0) (ci := 7) dX7_applicant_60 mo_X7_change lk_7_68 im_X7_change se_X7_change rfl ⟨Nat.le_of_ble_eq_true rfl, Nat.le_of_ble_eq_true rfl⟩ rfl (Nat.le_of_ble_eq_true rfl) rfl i60 (tm_X7_change e60) ?_
      obtain ⟨rfl, rfl⟩ := ret_s hf
      exact x_reti (pc := 63) dX7_applicant_63 rfl
    · replace hf := it_f hc hf
      refine x_aload_n (pc := 31) (a := x0) dX7_applicant_31 rfl ?_
      refine x_ldc (pc := 32) (v := -100005) dX7_applicant_32 kc_7_75 ?_
      replace hf := bd_s hf; obtain ⟨u34, i34, hf⟩ := hf
      replace hf := bd2_s hf; obtain ⟨v34, h34, e34, hf⟩ := hf
      refine x_cVi (pc := 34) (M' := mX7_finding) (as := [.int ((-100005))]) (st := []) (a := x0) (ci := 7) dX7_applicant_34 mo_X7_finding lk_7_60 im_X7_finding se_X7_finding rfl ⟨Nat.le_of_ble_eq_true rfl, Nat.le_of_ble_eq_true rfl⟩ rfl (Nat.le_of_ble_eq_true rfl) rfl i34 (tm_X7_finding e34) ?_
      obtain ⟨rfl, rfl⟩ := ret_s hf
      exact x_reti (pc := 37) dX7_applicant_37 rfl
  · replace hf := it_n hc hf
    refine x_aload_n (pc := 10) (a := x0) dX7_applicant_10 rfl ?_
    refine x_ldc (pc := 11) (v := -100001) dX7_applicant_11 kc_7_59 ?_
    replace hf := bd_s hf; obtain ⟨u13, i13, hf⟩ := hf
    replace hf := bd2_s hf; obtain ⟨v13, h13, e13, hf⟩ := hf
    refine x_cVi (pc := 13) (M' := mX7_finding) (as := [.int ((-100001))]) (st := []) (a := x0) (ci := 7) dX7_applicant_13 mo_X7_finding lk_7_60 im_X7_finding se_X7_finding rfl ⟨Nat.le_of_ble_eq_true rfl, Nat.le_of_ble_eq_true rfl⟩ rfl (Nat.le_of_ble_eq_true rfl) rfl i13 (tm_X7_finding e13) ?_
    obtain ⟨rfl, rfl⟩ := ret_s hf
    exact x_reti (pc := 16) dX7_applicant_16 rfl

def f_X7_isTrip (h : AH) (x0 : Option Nat) (x1 : Int32) : Option (Int32 × AH) :=
  bd (gR h x0 7 1) fun v3 =>
  bd (isO h v3 6) fun _ =>
  bd2 (f_X6_size h v3) fun v6 h6 =>
  bd2 (f_X7_within h6 x1 0 (v6 - 1)) fun v11 h11 =>
  bd (bl v11) fun v14 =>
  some (v14, h11)

set_option maxRecDepth 100000 in
set_option maxHeartbeats 4000000 in
theorem tm_X7_isTrip {g : GT} {h : AH} {x0 : Option Nat} {x1 : Int32} {r : Int32} {h' : AH} (hf : f_X7_isTrip h x0 x1 = some (r, h')) : Xm g mX7_isTrip [va_rf (x0), .int (x1)] h (some (.int r)) h' := by
  refine xm_of mo_X7_isTrip (Nat.le_of_ble_eq_true rfl) (ls := [some (va_rf (x0)), some (.int (x1))]) rfl ?_
  rw [f_X7_isTrip] at hf
  refine x_iload_n (pc := 0) (x := x1) dX7_isTrip_0 rfl ?_
  refine x_iconst (pc := 1) (v := 0) dX7_isTrip_1 (by decide) ?_
  refine x_aload_n (pc := 2) (a := x0) dX7_isTrip_2 rfl ?_
  replace hf := bd_s hf; obtain ⟨v3, e3, hf⟩ := hf
  refine x_getR (pc := 3) dX7_isTrip_3 fl_7_19 e3 ?_
  replace hf := bd_s hf; obtain ⟨u6, i6, hf⟩ := hf
  replace hf := bd2_s hf; obtain ⟨v6, h6, e6, hf⟩ := hf
  refine x_cVi (pc := 6) (M' := mX6_size) (as := []) (st := [.int (0), .int (x1)]) (a := v3) (ci := 6) dX7_isTrip_6 mo_X6_size lk_7_119 im_X6_size se_X6_size rfl ⟨Nat.le_of_ble_eq_true rfl, Nat.le_of_ble_eq_true rfl⟩ rfl (Nat.le_of_ble_eq_true rfl) rfl i6 (tm_X6_size e6) ?_
  refine x_iconst (pc := 9) (v := 1) dX7_isTrip_9 (by decide) ?_
  refine x_isub (pc := 10) dX7_isTrip_10 ?_
  replace hf := bd2_s hf; obtain ⟨v11, h11, e11, hf⟩ := hf
  refine x_cSi (pc := 11) (M' := mX7_within) (as := [.int (x1), .int (0), .int (v6 - 1)]) (st := []) dX7_isTrip_11 mo_X7_within lk_7_55 sm_X7_within ⟨Nat.le_of_ble_eq_true rfl, Nat.le_of_ble_eq_true rfl⟩ rfl (Nat.le_of_ble_eq_true rfl) rfl (tm_X7_within e11) ?_
  replace hf := bd_s hf; obtain ⟨v14, e14, hf⟩ := hf
  obtain ⟨z14, q14⟩ := bl_s e14
  obtain ⟨rfl, rfl⟩ := ret_s hf
  rw [q14]
  exact x_retz (pc := 14) dX7_isTrip_14 rfl z14

def f_X7_isKind (h : AH) (x0 : Int32) : Option (Int32 × AH) :=
  bd2 (f_X7_within h x0 0 3) fun v3 h3 =>
  bd (bl v3) fun v6 =>
  some (v6, h3)

set_option maxRecDepth 100000 in
set_option maxHeartbeats 4000000 in
theorem tm_X7_isKind {g : GT} {h : AH} {x0 : Int32} {r : Int32} {h' : AH} (hf : f_X7_isKind h x0 = some (r, h')) : Xm g mX7_isKind [.int (x0)] h (some (.int r)) h' := by
  refine xm_of mo_X7_isKind (Nat.le_of_ble_eq_true rfl) (ls := [some (.int (x0))]) rfl ?_
  rw [f_X7_isKind] at hf
  refine x_iload_n (pc := 0) (x := x0) dX7_isKind_0 rfl ?_
  refine x_iconst (pc := 1) (v := 0) dX7_isKind_1 (by decide) ?_
  refine x_iconst (pc := 2) (v := 3) dX7_isKind_2 (by decide) ?_
  replace hf := bd2_s hf; obtain ⟨v3, h3, e3, hf⟩ := hf
  refine x_cSi (pc := 3) (M' := mX7_within) (as := [.int (x0), .int (0), .int (3)]) (st := []) dX7_isKind_3 mo_X7_within lk_7_55 sm_X7_within ⟨Nat.le_of_ble_eq_true rfl, Nat.le_of_ble_eq_true rfl⟩ rfl (Nat.le_of_ble_eq_true rfl) rfl (tm_X7_within e3) ?_
  replace hf := bd_s hf; obtain ⟨v6, e6, hf⟩ := hf
  obtain ⟨z6, q6⟩ := bl_s e6
  obtain ⟨rfl, rfl⟩ := ret_s hf
  rw [q6]
  exact x_retz (pc := 6) dX7_isKind_6 rfl z6

def j_X7_as_65 (h : AH) (x0 : Option Nat) (x1 : Int32) (x2 : Int32) (x3 : Int32) : Option (Int32 × AH) :=
  if ¬ x3 = x2 then (
    bd (isO h x0 7) fun _ =>
    bd2 (f_X7_finding h x0 (-100004)) fun v77 h77 =>
    some (v77, h77)
  ) else (
    some (x1, h)
  )

set_option maxRecDepth 100000 in
set_option maxHeartbeats 4000000 in
theorem tj_X7_as_65 {g : GT} {h : AH} {x0 : Option Nat} {x1 : Int32} {x2 : Int32} {x3 : Int32} {r : Int32} {h' : AH} (hf : j_X7_as_65 h x0 x1 x2 x3 = some (r, h')) : Xj g mX7_as h 65 [some (va_rf (x0)), some (.int (x1)), some (.int (x2)), some (.int (x3)), none] [] (some (.int r)) h' := by
  rw [j_X7_as_65] at hf
  refine x_iload_n (pc := 65) (x := x3) dX7_as_65 rfl ?_
  refine x_iload_n (pc := 66) (x := x2) dX7_as_66 rfl ?_
  refine x_icmp_ne (pc := 67) (tgt := 74) (x := x3) (y := x2) dX7_as_67 rfl (fun hc => ?_) (fun hc => ?_)
  · replace hf := it_t hc hf
    refine x_aload_n (pc := 74) (a := x0) dX7_as_74 rfl ?_
    refine x_ldc (pc := 75) (v := -100004) dX7_as_75 kc_7_144 ?_
    replace hf := bd_s hf; obtain ⟨u77, i77, hf⟩ := hf
    replace hf := bd2_s hf; obtain ⟨v77, h77, e77, hf⟩ := hf
    refine x_cVi (pc := 77) (M' := mX7_finding) (as := [.int ((-100004))]) (st := []) (a := x0) (ci := 7) dX7_as_77 mo_X7_finding lk_7_60 im_X7_finding se_X7_finding rfl ⟨Nat.le_of_ble_eq_true rfl, Nat.le_of_ble_eq_true rfl⟩ rfl (Nat.le_of_ble_eq_true rfl) rfl i77 (tm_X7_finding e77) ?_
    obtain ⟨rfl, rfl⟩ := ret_s hf
    exact x_reti (pc := 80) dX7_as_80 rfl
  · replace hf := it_n hc hf
    refine x_iload_n (pc := 70) (x := x1) dX7_as_70 rfl ?_
    refine x_goto (pc := 71) (tgt := 80) dX7_as_71 rfl ?_
    obtain ⟨rfl, rfl⟩ := ret_s hf
    exact x_reti (pc := 80) dX7_as_80 rfl

def g_X7_as_35 : Nat → AH → Option Nat → Int32 → Int32 → Int32 → Int32 → Option (Int32 × AH)
  | 0, _, _, _, _, _, _ => none
  | n + 1, h, x0, x1, x2, x3, x4 =>
    if 4 ≤ x4 then (
      j_X7_as_65  h x0 x1 x2 x3
    ) else (
      if x3 = x2 then (
        j_X7_as_65  h x0 x1 x2 x3
      ) else (
        bd2 (f_X7_isKind h x3) fun v47 h47 =>
        if v47 = 0 then (
          j_X7_as_65  h47 x0 x1 x2 x3
        ) else (
          bd (ldT x3) fun v57 =>
          g_X7_as_35  n h47 x0 x1 x2 v57 (x4 + 1)
        )
      )
    )

set_option maxRecDepth 100000 in
set_option maxHeartbeats 4000000 in
theorem tg_X7_as_35 {g : GT} : ∀ (n : Nat) {h : AH} {x0 : Option Nat} {x1 : Int32} {x2 : Int32} {x3 : Int32} {x4 : Int32} {r : Int32} {h' : AH}, g_X7_as_35 n h x0 x1 x2 x3 x4 = some (r, h') → Xj g mX7_as h 35 [some (va_rf (x0)), some (.int (x1)), some (.int (x2)), some (.int (x3)), some (.int (x4))] [] (some (.int r)) h' := by
  intro n
  induction n with
  | zero =>
    intros
    rename_i z
    cases z
  | succ n ih =>
    intro h x0 x1 x2 x3 x4 r h' hf
    rw [g_X7_as_35] at hf
    refine x_iload (pc := 35) (x := x4) dX7_as_35 rfl ?_
    refine x_iconst (pc := 37) (v := 4) dX7_as_37 (by decide) ?_
    refine x_icmp_ge (pc := 38) (tgt := 65) (x := x4) (y := 4) dX7_as_38 rfl (fun hc => ?_) (fun hc => ?_)
    · replace hf := it_t hc hf
      refine x_mask [true, true, true, true, false] rfl ?_
      exact tj_X7_as_65  hf
    · replace hf := it_f hc hf
      refine x_iload_n (pc := 41) (x := x3) dX7_as_41 rfl ?_
      refine x_iload_n (pc := 42) (x := x2) dX7_as_42 rfl ?_
      refine x_icmp_eq (pc := 43) (tgt := 65) (x := x3) (y := x2) dX7_as_43 rfl (fun hc => ?_) (fun hc => ?_)
      · replace hf := it_t hc hf
        refine x_mask [true, true, true, true, false] rfl ?_
        exact tj_X7_as_65  hf
      · replace hf := it_f hc hf
        refine x_iload_n (pc := 46) (x := x3) dX7_as_46 rfl ?_
        replace hf := bd2_s hf; obtain ⟨v47, h47, e47, hf⟩ := hf
        refine x_cSi (pc := 47) (M' := mX7_isKind) (as := [.int (x3)]) (st := []) dX7_as_47 mo_X7_isKind lk_7_113 sm_X7_isKind ⟨Nat.le_of_ble_eq_true rfl, Nat.le_of_ble_eq_true rfl⟩ rfl (Nat.le_of_ble_eq_true rfl) rfl (tm_X7_isKind e47) ?_
        refine x_if_eq (pc := 50) (tgt := 65) (x := v47) dX7_as_50 rfl (fun hc => ?_) (fun hc => ?_)
        · replace hf := it_t hc hf
          refine x_mask [true, true, true, true, false] rfl ?_
          exact tj_X7_as_65  hf
        · replace hf := it_f hc hf
          refine x_getT (pc := 53) dX7_as_53 ab_link ?_
          refine x_iload_n (pc := 56) (x := x3) dX7_as_56 rfl ?_
          replace hf := bd_s hf; obtain ⟨v57, e57, hf⟩ := hf
          refine x_ldTo (pc := 57) dX7_as_57 e57 ?_
          refine x_istore_n (pc := 58) (ls' := [some (va_rf (x0)), some (.int (x1)), some (.int (x2)), some (.int (v57)), some (.int (x4))]) dX7_as_58 (by decide) rfl ?_
          refine x_iinc (pc := 59) (x := x4) (v := x4 + 1) (ls' := [some (va_rf (x0)), some (.int (x1)), some (.int (x2)), some (.int (v57)), some (.int (x4 + 1))]) dX7_as_59 rfl rfl (by decide) rfl ?_
          refine x_goto (pc := 62) (tgt := 35) dX7_as_62 rfl ?_
          exact ih hf

def f_X7_as (h : AH) (x0 : Option Nat) (x1 : Int32) (x2 : Int32) : Option (Int32 × AH) :=
  bd (isO h x0 7) fun _ =>
  bd2 (f_X7_isTrip h x0 x1) fun v2 h2 =>
  if v2 = 0 then (
    bd (isO h2 x0 7) fun _ =>
    bd2 (f_X7_finding h2 x0 (-100001)) fun v18 h18 =>
    some (v18, h18)
  ) else (
    bd2 (f_X7_isKind h2 x2) fun v9 h9 =>
    if ¬ v9 = 0 then (
      bd (gR h9 x0 7 1) fun v23 =>
      bd (isO h9 v23 6) fun _ =>
      bd2 (f_X6_read h9 v23 x1 0) fun v28 h28 =>
      g_X7_as_35  NN h28 x0 x1 x2 v28 0
    ) else (
      bd (isO h9 x0 7) fun _ =>
      bd2 (f_X7_finding h9 x0 (-100001)) fun v18 h18 =>
      some (v18, h18)
    )
  )

set_option maxRecDepth 100000 in
set_option maxHeartbeats 4000000 in
theorem tm_X7_as {g : GT} {h : AH} {x0 : Option Nat} {x1 : Int32} {x2 : Int32} {r : Int32} {h' : AH} (hf : f_X7_as h x0 x1 x2 = some (r, h')) : Xm g mX7_as [va_rf (x0), .int (x1), .int (x2)] h (some (.int r)) h' := by
  refine xm_of mo_X7_as (Nat.le_of_ble_eq_true rfl) (ls := [some (va_rf (x0)), some (.int (x1)), some (.int (x2)), none, none]) rfl ?_
  rw [f_X7_as] at hf
  refine x_aload_n (pc := 0) (a := x0) dX7_as_0 rfl ?_
  refine x_iload_n (pc := 1) (x := x1) dX7_as_1 rfl ?_
  replace hf := bd_s hf; obtain ⟨u2, i2, hf⟩ := hf
  replace hf := bd2_s hf; obtain ⟨v2, h2, e2, hf⟩ := hf
  refine x_cVi (pc := 2) (M' := mX7_isTrip) (as := [.int (x1)]) (st := []) (a := x0) (ci := 7) dX7_as_2 mo_X7_isTrip lk_7_134 im_X7_isTrip se_X7_isTrip rfl ⟨Nat.le_of_ble_eq_true rfl, Nat.le_of_ble_eq_true rfl⟩ rfl (Nat.le_of_ble_eq_true rfl) rfl i2 (tm_X7_isTrip e2) ?_
  refine x_if_eq (pc := 5) (tgt := 15) (x := v2) dX7_as_5 rfl (fun hc => ?_) (fun hc => ?_)
  · replace hf := it_t hc hf
    refine x_aload_n (pc := 15) (a := x0) dX7_as_15 rfl ?_
    refine x_ldc (pc := 16) (v := -100001) dX7_as_16 kc_7_59 ?_
    replace hf := bd_s hf; obtain ⟨u18, i18, hf⟩ := hf
    replace hf := bd2_s hf; obtain ⟨v18, h18, e18, hf⟩ := hf
    refine x_cVi (pc := 18) (M' := mX7_finding) (as := [.int ((-100001))]) (st := []) (a := x0) (ci := 7) dX7_as_18 mo_X7_finding lk_7_60 im_X7_finding se_X7_finding rfl ⟨Nat.le_of_ble_eq_true rfl, Nat.le_of_ble_eq_true rfl⟩ rfl (Nat.le_of_ble_eq_true rfl) rfl i18 (tm_X7_finding e18) ?_
    obtain ⟨rfl, rfl⟩ := ret_s hf
    exact x_reti (pc := 21) dX7_as_21 rfl
  · replace hf := it_f hc hf
    refine x_iload_n (pc := 8) (x := x2) dX7_as_8 rfl ?_
    replace hf := bd2_s hf; obtain ⟨v9, h9, e9, hf⟩ := hf
    refine x_cSi (pc := 9) (M' := mX7_isKind) (as := [.int (x2)]) (st := []) dX7_as_9 mo_X7_isKind lk_7_113 sm_X7_isKind ⟨Nat.le_of_ble_eq_true rfl, Nat.le_of_ble_eq_true rfl⟩ rfl (Nat.le_of_ble_eq_true rfl) rfl (tm_X7_isKind e9) ?_
    refine x_if_ne (pc := 12) (tgt := 22) (x := v9) dX7_as_12 rfl (fun hc => ?_) (fun hc => ?_)
    · replace hf := it_t hc hf
      refine x_aload_n (pc := 22) (a := x0) dX7_as_22 rfl ?_
      replace hf := bd_s hf; obtain ⟨v23, e23, hf⟩ := hf
      refine x_getR (pc := 23) dX7_as_23 fl_7_19 e23 ?_
      refine x_iload_n (pc := 26) (x := x1) dX7_as_26 rfl ?_
      refine x_iconst (pc := 27) (v := 0) dX7_as_27 (by decide) ?_
      replace hf := bd_s hf; obtain ⟨u28, i28, hf⟩ := hf
      replace hf := bd2_s hf; obtain ⟨v28, h28, e28, hf⟩ := hf
      refine x_cVi (pc := 28) (M' := mX6_read) (as := [.int (x1), .int (0)]) (st := []) (a := v23) (ci := 6) dX7_as_28 mo_X6_read lk_7_137 im_X6_read se_X6_read rfl ⟨Nat.le_of_ble_eq_true rfl, Nat.le_of_ble_eq_true rfl⟩ rfl (Nat.le_of_ble_eq_true rfl) rfl i28 (tm_X6_read e28) ?_
      refine x_istore_n (pc := 31) (ls' := [some (va_rf (x0)), some (.int (x1)), some (.int (x2)), some (.int (v28)), none]) dX7_as_31 (by decide) rfl ?_
      refine x_iconst (pc := 32) (v := 0) dX7_as_32 (by decide) ?_
      refine x_istore (pc := 33) (ls' := [some (va_rf (x0)), some (.int (x1)), some (.int (x2)), some (.int (v28)), some (.int (0))]) dX7_as_33 (by decide) rfl ?_
      exact tg_X7_as_35  NN hf
    · replace hf := it_n hc hf
      refine x_aload_n (pc := 15) (a := x0) dX7_as_15 rfl ?_
      refine x_ldc (pc := 16) (v := -100001) dX7_as_16 kc_7_59 ?_
      replace hf := bd_s hf; obtain ⟨u18, i18, hf⟩ := hf
      replace hf := bd2_s hf; obtain ⟨v18, h18, e18, hf⟩ := hf
      refine x_cVi (pc := 18) (M' := mX7_finding) (as := [.int ((-100001))]) (st := []) (a := x0) (ci := 7) dX7_as_18 mo_X7_finding lk_7_60 im_X7_finding se_X7_finding rfl ⟨Nat.le_of_ble_eq_true rfl, Nat.le_of_ble_eq_true rfl⟩ rfl (Nat.le_of_ble_eq_true rfl) rfl i18 (tm_X7_finding e18) ?_
      obtain ⟨rfl, rfl⟩ := ret_s hf
      exact x_reti (pc := 21) dX7_as_21 rfl

def f_X7_isDay (h : AH) (x0 : Int32) : Option (Int32 × AH) :=
  bd2 (f_X7_within h x0 0 29) fun v4 h4 =>
  bd (bl v4) fun v7 =>
  some (v7, h4)

set_option maxRecDepth 100000 in
set_option maxHeartbeats 4000000 in
theorem tm_X7_isDay {g : GT} {h : AH} {x0 : Int32} {r : Int32} {h' : AH} (hf : f_X7_isDay h x0 = some (r, h')) : Xm g mX7_isDay [.int (x0)] h (some (.int r)) h' := by
  refine xm_of mo_X7_isDay (Nat.le_of_ble_eq_true rfl) (ls := [some (.int (x0))]) rfl ?_
  rw [f_X7_isDay] at hf
  refine x_iload_n (pc := 0) (x := x0) dX7_isDay_0 rfl ?_
  refine x_iconst (pc := 1) (v := 0) dX7_isDay_1 (by decide) ?_
  refine x_bipush (pc := 2) (v := 29) dX7_isDay_2 (by decide) ?_
  replace hf := bd2_s hf; obtain ⟨v4, h4, e4, hf⟩ := hf
  refine x_cSi (pc := 4) (M' := mX7_within) (as := [.int (x0), .int (0), .int (29)]) (st := []) dX7_isDay_4 mo_X7_within lk_7_55 sm_X7_within ⟨Nat.le_of_ble_eq_true rfl, Nat.le_of_ble_eq_true rfl⟩ rfl (Nat.le_of_ble_eq_true rfl) rfl (tm_X7_within e4) ?_
  replace hf := bd_s hf; obtain ⟨v7, e7, hf⟩ := hf
  obtain ⟨z7, q7⟩ := bl_s e7
  obtain ⟨rfl, rfl⟩ := ret_s hf
  rw [q7]
  exact x_retz (pc := 7) dX7_isDay_7 rfl z7

def f_X7_at (h : AH) (x0 : Option Nat) (x1 : Int32) (x2 : Int32) : Option (Int32 × AH) :=
  bd (isO h x0 7) fun _ =>
  bd2 (f_X7_isTrip h x0 x1) fun v2 h2 =>
  if v2 = 0 then (
    bd (isO h2 x0 7) fun _ =>
    bd2 (f_X7_finding h2 x0 (-100001)) fun v18 h18 =>
    some (v18, h18)
  ) else (
    bd2 (f_X7_isDay h2 x2) fun v9 h9 =>
    if ¬ v9 = 0 then (
      bd (gR h9 x0 7 1) fun v23 =>
      bd (isO h9 v23 6) fun _ =>
      bd2 (f_X6_read h9 v23 x1 (5 + x2)) fun v30 h30 =>
      if ¬ v30 = (-1) then (
        some (v30, h30)
      ) else (
        bd (isO h30 x0 7) fun _ =>
        bd2 (f_X7_finding h30 x0 (-100006)) fun v42 h42 =>
        some (v42, h42)
      )
    ) else (
      bd (isO h9 x0 7) fun _ =>
      bd2 (f_X7_finding h9 x0 (-100001)) fun v18 h18 =>
      some (v18, h18)
    )
  )

set_option maxRecDepth 100000 in
set_option maxHeartbeats 4000000 in
theorem tm_X7_at {g : GT} {h : AH} {x0 : Option Nat} {x1 : Int32} {x2 : Int32} {r : Int32} {h' : AH} (hf : f_X7_at h x0 x1 x2 = some (r, h')) : Xm g mX7_at [va_rf (x0), .int (x1), .int (x2)] h (some (.int r)) h' := by
  refine xm_of mo_X7_at (Nat.le_of_ble_eq_true rfl) (ls := [some (va_rf (x0)), some (.int (x1)), some (.int (x2)), none]) rfl ?_
  rw [f_X7_at] at hf
  refine x_aload_n (pc := 0) (a := x0) dX7_at_0 rfl ?_
  refine x_iload_n (pc := 1) (x := x1) dX7_at_1 rfl ?_
  replace hf := bd_s hf; obtain ⟨u2, i2, hf⟩ := hf
  replace hf := bd2_s hf; obtain ⟨v2, h2, e2, hf⟩ := hf
  refine x_cVi (pc := 2) (M' := mX7_isTrip) (as := [.int (x1)]) (st := []) (a := x0) (ci := 7) dX7_at_2 mo_X7_isTrip lk_7_134 im_X7_isTrip se_X7_isTrip rfl ⟨Nat.le_of_ble_eq_true rfl, Nat.le_of_ble_eq_true rfl⟩ rfl (Nat.le_of_ble_eq_true rfl) rfl i2 (tm_X7_isTrip e2) ?_
  refine x_if_eq (pc := 5) (tgt := 15) (x := v2) dX7_at_5 rfl (fun hc => ?_) (fun hc => ?_)
  · replace hf := it_t hc hf
    refine x_aload_n (pc := 15) (a := x0) dX7_at_15 rfl ?_
    refine x_ldc (pc := 16) (v := -100001) dX7_at_16 kc_7_59 ?_
    replace hf := bd_s hf; obtain ⟨u18, i18, hf⟩ := hf
    replace hf := bd2_s hf; obtain ⟨v18, h18, e18, hf⟩ := hf
    refine x_cVi (pc := 18) (M' := mX7_finding) (as := [.int ((-100001))]) (st := []) (a := x0) (ci := 7) dX7_at_18 mo_X7_finding lk_7_60 im_X7_finding se_X7_finding rfl ⟨Nat.le_of_ble_eq_true rfl, Nat.le_of_ble_eq_true rfl⟩ rfl (Nat.le_of_ble_eq_true rfl) rfl i18 (tm_X7_finding e18) ?_
    obtain ⟨rfl, rfl⟩ := ret_s hf
    exact x_reti (pc := 21) dX7_at_21 rfl
  · replace hf := it_f hc hf
    refine x_iload_n (pc := 8) (x := x2) dX7_at_8 rfl ?_
    replace hf := bd2_s hf; obtain ⟨v9, h9, e9, hf⟩ := hf
    refine x_cSi (pc := 9) (M' := mX7_isDay) (as := [.int (x2)]) (st := []) dX7_at_9 mo_X7_isDay lk_7_103 sm_X7_isDay ⟨Nat.le_of_ble_eq_true rfl, Nat.le_of_ble_eq_true rfl⟩ rfl (Nat.le_of_ble_eq_true rfl) rfl (tm_X7_isDay e9) ?_
    refine x_if_ne (pc := 12) (tgt := 22) (x := v9) dX7_at_12 rfl (fun hc => ?_) (fun hc => ?_)
    · replace hf := it_t hc hf
      refine x_aload_n (pc := 22) (a := x0) dX7_at_22 rfl ?_
      replace hf := bd_s hf; obtain ⟨v23, e23, hf⟩ := hf
      refine x_getR (pc := 23) dX7_at_23 fl_7_19 e23 ?_
      refine x_iload_n (pc := 26) (x := x1) dX7_at_26 rfl ?_
      refine x_iconst (pc := 27) (v := 5) dX7_at_27 (by decide) ?_
      refine x_iload_n (pc := 28) (x := x2) dX7_at_28 rfl ?_
      refine x_iadd (pc := 29) dX7_at_29 ?_
      replace hf := bd_s hf; obtain ⟨u30, i30, hf⟩ := hf
      replace hf := bd2_s hf; obtain ⟨v30, h30, e30, hf⟩ := hf
      refine x_cVi (pc := 30) (M' := mX6_read) (as := [.int (x1), .int (5 + x2)]) (st := []) (a := v23) (ci := 6) dX7_at_30 mo_X6_read lk_7_137 im_X6_read se_X6_read rfl ⟨Nat.le_of_ble_eq_true rfl, Nat.le_of_ble_eq_true rfl⟩ rfl (Nat.le_of_ble_eq_true rfl) rfl i30 (tm_X6_read e30) ?_
      refine x_istore_n (pc := 33) (ls' := [some (va_rf (x0)), some (.int (x1)), some (.int (x2)), some (.int (v30))]) dX7_at_33 (by decide) rfl ?_
      refine x_iload_n (pc := 34) (x := v30) dX7_at_34 rfl ?_
      refine x_iconst (pc := 35) (v := -1) dX7_at_35 (by decide) ?_
      refine x_icmp_ne (pc := 36) (tgt := 48) (x := v30) (y := (-1)) dX7_at_36 rfl (fun hc => ?_) (fun hc => ?_)
      · replace hf := it_t hc hf
        refine x_iload_n (pc := 48) (x := v30) dX7_at_48 rfl ?_
        obtain ⟨rfl, rfl⟩ := ret_s hf
        exact x_reti (pc := 49) dX7_at_49 rfl
      · replace hf := it_n hc hf
        refine x_aload_n (pc := 39) (a := x0) dX7_at_39 rfl ?_
        refine x_ldc (pc := 40) (v := -100006) dX7_at_40 kc_7_165 ?_
        replace hf := bd_s hf; obtain ⟨u42, i42, hf⟩ := hf
        replace hf := bd2_s hf; obtain ⟨v42, h42, e42, hf⟩ := hf
        refine x_cVi (pc := 42) (M' := mX7_finding) (as := [.int ((-100006))]) (st := []) (a := x0) (ci := 7) dX7_at_42 mo_X7_finding lk_7_60 im_X7_finding se_X7_finding rfl ⟨Nat.le_of_ble_eq_true rfl, Nat.le_of_ble_eq_true rfl⟩ rfl (Nat.le_of_ble_eq_true rfl) rfl i42 (tm_X7_finding e42) ?_
        refine x_goto (pc := 45) (tgt := 49) dX7_at_45 rfl ?_
        obtain ⟨rfl, rfl⟩ := ret_s hf
        exact x_reti (pc := 49) dX7_at_49 rfl
    · replace hf := it_n hc hf
      refine x_aload_n (pc := 15) (a := x0) dX7_at_15 rfl ?_
      refine x_ldc (pc := 16) (v := -100001) dX7_at_16 kc_7_59 ?_
      replace hf := bd_s hf; obtain ⟨u18, i18, hf⟩ := hf
      replace hf := bd2_s hf; obtain ⟨v18, h18, e18, hf⟩ := hf
      refine x_cVi (pc := 18) (M' := mX7_finding) (as := [.int ((-100001))]) (st := []) (a := x0) (ci := 7) dX7_at_18 mo_X7_finding lk_7_60 im_X7_finding se_X7_finding rfl ⟨Nat.le_of_ble_eq_true rfl, Nat.le_of_ble_eq_true rfl⟩ rfl (Nat.le_of_ble_eq_true rfl) rfl i18 (tm_X7_finding e18) ?_
      obtain ⟨rfl, rfl⟩ := ret_s hf
      exact x_reti (pc := 21) dX7_at_21 rfl

def f_X7_isSet (h : AH) (x0 : Option Nat) (x1 : Int32) : Option (Int32 × AH) :=
  bd (gR h x0 7 1) fun v3 =>
  bd (isO h v3 6) fun _ =>
  bd2 (f_X6_size h v3) fun v6 h6 =>
  if ¬ (x1 &&& (-(1 <<< (v6 &&& 31)))) = 0 then (
    some (0, h6)
  ) else (
    some (1, h6)
  )

set_option maxRecDepth 100000 in
set_option maxHeartbeats 4000000 in
theorem tm_X7_isSet {g : GT} {h : AH} {x0 : Option Nat} {x1 : Int32} {r : Int32} {h' : AH} (hf : f_X7_isSet h x0 x1 = some (r, h')) : Xm g mX7_isSet [va_rf (x0), .int (x1)] h (some (.int r)) h' := by
  refine xm_of mo_X7_isSet (Nat.le_of_ble_eq_true rfl) (ls := [some (va_rf (x0)), some (.int (x1))]) rfl ?_
  rw [f_X7_isSet] at hf
  refine x_iload_n (pc := 0) (x := x1) dX7_isSet_0 rfl ?_
  refine x_iconst (pc := 1) (v := 1) dX7_isSet_1 (by decide) ?_
  refine x_aload_n (pc := 2) (a := x0) dX7_isSet_2 rfl ?_
  replace hf := bd_s hf; obtain ⟨v3, e3, hf⟩ := hf
  refine x_getR (pc := 3) dX7_isSet_3 fl_7_19 e3 ?_
  replace hf := bd_s hf; obtain ⟨u6, i6, hf⟩ := hf
  replace hf := bd2_s hf; obtain ⟨v6, h6, e6, hf⟩ := hf
  refine x_cVi (pc := 6) (M' := mX6_size) (as := []) (st := [.int (1), .int (x1)]) (a := v3) (ci := 6) dX7_isSet_6 mo_X6_size lk_7_119 im_X6_size se_X6_size rfl ⟨Nat.le_of_ble_eq_true rfl, Nat.le_of_ble_eq_true rfl⟩ rfl (Nat.le_of_ble_eq_true rfl) rfl i6 (tm_X6_size e6) ?_
  refine x_ishl (pc := 9) dX7_isSet_9 ?_
  refine x_ineg (pc := 10) dX7_isSet_10 ?_
  refine x_iand (pc := 11) dX7_isSet_11 ?_
  refine x_if_ne (pc := 12) (tgt := 19) (x := (x1 &&& (-(1 <<< (v6 &&& 31))))) dX7_isSet_12 rfl (fun hc => ?_) (fun hc => ?_)
  · replace hf := it_t hc hf
    refine x_iconst (pc := 19) (v := 0) dX7_isSet_19 (by decide) ?_
    obtain ⟨rfl, rfl⟩ := ret_s hf
    exact x_retz (pc := 20) dX7_isSet_20 rfl (by decide)
  · replace hf := it_n hc hf
    refine x_iconst (pc := 15) (v := 1) dX7_isSet_15 (by decide) ?_
    refine x_goto (pc := 16) (tgt := 20) dX7_isSet_16 rfl ?_
    obtain ⟨rfl, rfl⟩ := ret_s hf
    exact x_retz (pc := 20) dX7_isSet_20 rfl (by decide)

def f_X7_calendar (h : AH) (x0 : Option Nat) (x1 : Int32) : Option (Int32 × AH) :=
  bd (isO h x0 7) fun _ =>
  bd2 (f_X7_isSet h x0 x1) fun v2 h2 =>
  if ¬ v2 = 0 then (
    bd (gR h2 x0 7 1) fun v16 =>
    bd (isO h2 v16 6) fun _ =>
    bd (f_X6_saveRows h2 v16) fun h19 =>
    bd (gR h19 x0 7 2) fun v23 =>
    bd (gR h19 x0 7 0) fun v27 =>
    bd (gR h19 x0 7 1) fun v31 =>
    bd (isO h19 v23 3) fun _ =>
    bd2 (f_X3_schedule h19 v23 v27 v31 x1) fun v35 h35 =>
    bd (gR h35 x0 7 1) fun v40 =>
    bd (isO h35 v40 6) fun _ =>
    bd (f_X6_bringRowsBack h35 v40) fun h43 =>
    some (v35, h43)
  ) else (
    bd (isO h2 x0 7) fun _ =>
    bd2 (f_X7_finding h2 x0 (-100001)) fun v11 h11 =>
    some (v11, h11)
  )

set_option maxRecDepth 100000 in
set_option maxHeartbeats 4000000 in
theorem tm_X7_calendar {g : GT} {h : AH} {x0 : Option Nat} {x1 : Int32} {r : Int32} {h' : AH} (hf : f_X7_calendar h x0 x1 = some (r, h')) : Xm g mX7_calendar [va_rf (x0), .int (x1)] h (some (.int r)) h' := by
  refine xm_of mo_X7_calendar (Nat.le_of_ble_eq_true rfl) (ls := [some (va_rf (x0)), some (.int (x1)), none]) rfl ?_
  rw [f_X7_calendar] at hf
  refine x_aload_n (pc := 0) (a := x0) dX7_calendar_0 rfl ?_
  refine x_iload_n (pc := 1) (x := x1) dX7_calendar_1 rfl ?_
  replace hf := bd_s hf; obtain ⟨u2, i2, hf⟩ := hf
  replace hf := bd2_s hf; obtain ⟨v2, h2, e2, hf⟩ := hf
  refine x_cVi (pc := 2) (M' := mX7_isSet) (as := [.int (x1)]) (st := []) (a := x0) (ci := 7) dX7_calendar_2 mo_X7_isSet lk_7_180 im_X7_isSet se_X7_isSet rfl ⟨Nat.le_of_ble_eq_true rfl, Nat.le_of_ble_eq_true rfl⟩ rfl (Nat.le_of_ble_eq_true rfl) rfl i2 (tm_X7_isSet e2) ?_
  refine x_if_ne (pc := 5) (tgt := 15) (x := v2) dX7_calendar_5 rfl (fun hc => ?_) (fun hc => ?_)
  · replace hf := it_t hc hf
    refine x_aload_n (pc := 15) (a := x0) dX7_calendar_15 rfl ?_
    replace hf := bd_s hf; obtain ⟨v16, e16, hf⟩ := hf
    refine x_getR (pc := 16) dX7_calendar_16 fl_7_19 e16 ?_
    replace hf := bd_s hf; obtain ⟨u19, i19, hf⟩ := hf
    replace hf := bd_s hf; obtain ⟨h19, e19, hf⟩ := hf
    refine x_cVv (pc := 19) (M' := mX6_saveRows) (as := []) (st := []) (a := v16) (ci := 6) dX7_calendar_19 mo_X6_saveRows lk_7_183 im_X6_saveRows se_X6_saveRows rfl ⟨Nat.le_of_ble_eq_true rfl, Nat.le_of_ble_eq_true rfl⟩ rfl (Nat.le_of_ble_eq_true rfl) rfl i19 (tm_X6_saveRows e19) ?_
    refine x_aload_n (pc := 22) (a := x0) dX7_calendar_22 rfl ?_
    replace hf := bd_s hf; obtain ⟨v23, e23, hf⟩ := hf
    refine x_getR (pc := 23) dX7_calendar_23 fl_7_26 e23 ?_
    refine x_aload_n (pc := 26) (a := x0) dX7_calendar_26 rfl ?_
    replace hf := bd_s hf; obtain ⟨v27, e27, hf⟩ := hf
    refine x_getR (pc := 27) dX7_calendar_27 fl_7_10 e27 ?_
    refine x_aload_n (pc := 30) (a := x0) dX7_calendar_30 rfl ?_
    replace hf := bd_s hf; obtain ⟨v31, e31, hf⟩ := hf
    refine x_getR (pc := 31) dX7_calendar_31 fl_7_19 e31 ?_
    refine x_iload_n (pc := 34) (x := x1) dX7_calendar_34 rfl ?_
    replace hf := bd_s hf; obtain ⟨u35, i35, hf⟩ := hf
    replace hf := bd2_s hf; obtain ⟨v35, h35, e35, hf⟩ := hf
    refine x_cVi (pc := 35) (M' := mX3_schedule) (as := [va_rf (v27), va_rf (v31), .int (x1)]) (st := []) (a := v23) (ci := 3) dX7_calendar_35 mo_X3_schedule lk_7_186 im_X3_schedule se_X3_schedule rfl ⟨Nat.le_of_ble_eq_true rfl, Nat.le_of_ble_eq_true rfl⟩ rfl (Nat.le_of_ble_eq_true rfl) rfl i35 (tm_X3_schedule e35) ?_
    refine x_istore_n (pc := 38) (ls' := [some (va_rf (x0)), some (.int (x1)), some (.int (v35))]) dX7_calendar_38 (by decide) rfl ?_
    refine x_aload_n (pc := 39) (a := x0) dX7_calendar_39 rfl ?_
    replace hf := bd_s hf; obtain ⟨v40, e40, hf⟩ := hf
    refine x_getR (pc := 40) dX7_calendar_40 fl_7_19 e40 ?_
    replace hf := bd_s hf; obtain ⟨u43, i43, hf⟩ := hf
    replace hf := bd_s hf; obtain ⟨h43, e43, hf⟩ := hf
    refine x_cVv (pc := 43) (M' := mX6_bringRowsBack) (as := []) (st := []) (a := v40) (ci := 6) dX7_calendar_43 mo_X6_bringRowsBack lk_7_190 im_X6_bringRowsBack se_X6_bringRowsBack rfl ⟨Nat.le_of_ble_eq_true rfl, Nat.le_of_ble_eq_true rfl⟩ rfl (Nat.le_of_ble_eq_true rfl) rfl i43 (tm_X6_bringRowsBack e43) ?_
    refine x_iload_n (pc := 46) (x := v35) dX7_calendar_46 rfl ?_
    obtain ⟨rfl, rfl⟩ := ret_s hf
    exact x_reti (pc := 47) dX7_calendar_47 rfl
  · replace hf := it_n hc hf
    refine x_aload_n (pc := 8) (a := x0) dX7_calendar_8 rfl ?_
    refine x_ldc (pc := 9) (v := -100001) dX7_calendar_9 kc_7_59 ?_
    replace hf := bd_s hf; obtain ⟨u11, i11, hf⟩ := hf
    replace hf := bd2_s hf; obtain ⟨v11, h11, e11, hf⟩ := hf
    refine x_cVi (pc := 11) (M' := mX7_finding) (as := [.int ((-100001))]) (st := []) (a := x0) (ci := 7) dX7_calendar_11 mo_X7_finding lk_7_60 im_X7_finding se_X7_finding rfl ⟨Nat.le_of_ble_eq_true rfl, Nat.le_of_ble_eq_true rfl⟩ rfl (Nat.le_of_ble_eq_true rfl) rfl i11 (tm_X7_finding e11) ?_
    obtain ⟨rfl, rfl⟩ := ret_s hf
    exact x_reti (pc := 14) dX7_calendar_14 rfl

def f_X7_camp (h : AH) (x0 : Option Nat) (x1 : Int32) (x2 : Int32) : Option (Int32 × AH) :=
  bd2 (f_X7_within h x1 1 249) fun v5 h5 =>
  if ¬ v5 = 0 then (
    bd (gR h5 x0 7 0) fun v19 =>
    bd (gR h5 v19 4 1) fun v22 =>
    bd (ldI h5 v22 0) fun v26 =>
    if v26 < 14 then (
      bd (gR h5 x0 7 0) fun v42 =>
      bd (gR h5 v42 4 3) fun v45 =>
      bd (stI h5 v45 v26 x1) fun h50 =>
      bd (gR h50 x0 7 0) fun v52 =>
      bd (gR h50 v52 4 4) fun v55 =>
      bd (stZ h50 v55 v26 x2) fun h60 =>
      bd (gR h60 x0 7 0) fun v63 =>
      bd (gR h60 v63 4 1) fun v66 =>
      bd (isO h60 x0 7) fun _ =>
      bd2 (f_X7_change h60 x0 v66 0 (v26 + 1)) fun v73 h73 =>
      some (v73, h73)
    ) else (
      bd (isO h5 x0 7) fun _ =>
      bd2 (f_X7_finding h5 x0 (-100005)) fun v37 h37 =>
      some (v37, h37)
    )
  ) else (
    bd (isO h5 x0 7) fun _ =>
    bd2 (f_X7_finding h5 x0 (-100001)) fun v14 h14 =>
    some (v14, h14)
  )

set_option maxRecDepth 100000 in
set_option maxHeartbeats 4000000 in
theorem tm_X7_camp {g : GT} {h : AH} {x0 : Option Nat} {x1 : Int32} {x2 : Int32} {r : Int32} {h' : AH} (hf : f_X7_camp h x0 x1 x2 = some (r, h')) : Xm g mX7_camp [va_rf (x0), .int (x1), .int (x2)] h (some (.int r)) h' := by
  refine xm_of mo_X7_camp (Nat.le_of_ble_eq_true rfl) (ls := [some (va_rf (x0)), some (.int (x1)), some (.int (x2)), none]) rfl ?_
  rw [f_X7_camp] at hf
  refine x_iload_n (pc := 0) (x := x1) dX7_camp_0 rfl ?_
  refine x_iconst (pc := 1) (v := 1) dX7_camp_1 (by decide) ?_
  refine x_sipush (pc := 2) (v := 249) dX7_camp_2 (by decide) ?_
  replace hf := bd2_s hf; obtain ⟨v5, h5, e5, hf⟩ := hf
  refine x_cSi (pc := 5) (M' := mX7_within) (as := [.int (x1), .int (1), .int (249)]) (st := []) dX7_camp_5 mo_X7_within lk_7_55 sm_X7_within ⟨Nat.le_of_ble_eq_true rfl, Nat.le_of_ble_eq_true rfl⟩ rfl (Nat.le_of_ble_eq_true rfl) rfl (tm_X7_within e5) ?_
  refine x_if_ne (pc := 8) (tgt := 18) (x := v5) dX7_camp_8 rfl (fun hc => ?_) (fun hc => ?_)
  · replace hf := it_t hc hf
    refine x_aload_n (pc := 18) (a := x0) dX7_camp_18 rfl ?_
    replace hf := bd_s hf; obtain ⟨v19, e19, hf⟩ := hf
    refine x_getR (pc := 19) dX7_camp_19 fl_7_10 e19 ?_
    replace hf := bd_s hf; obtain ⟨v22, e22, hf⟩ := hf
    refine x_getR (pc := 22) dX7_camp_22 fl_7_72 e22 ?_
    refine x_iconst (pc := 25) (v := 0) dX7_camp_25 (by decide) ?_
    replace hf := bd_s hf; obtain ⟨v26, e26, hf⟩ := hf
    refine x_ldI (pc := 26) dX7_camp_26 e26 ?_
    refine x_istore_n (pc := 27) (ls' := [some (va_rf (x0)), some (.int (x1)), some (.int (x2)), some (.int (v26))]) dX7_camp_27 (by decide) rfl ?_
    refine x_iload_n (pc := 28) (x := v26) dX7_camp_28 rfl ?_
    refine x_bipush (pc := 29) (v := 14) dX7_camp_29 (by decide) ?_
    refine x_icmp_lt (pc := 31) (tgt := 41) (x := v26) (y := 14) dX7_camp_31 rfl (fun hc => ?_) (fun hc => ?_)
    · replace hf := it_t hc hf
      refine x_aload_n (pc := 41) (a := x0) dX7_camp_41 rfl ?_
      replace hf := bd_s hf; obtain ⟨v42, e42, hf⟩ := hf
      refine x_getR (pc := 42) dX7_camp_42 fl_7_10 e42 ?_
      replace hf := bd_s hf; obtain ⟨v45, e45, hf⟩ := hf
      refine x_getR (pc := 45) dX7_camp_45 fl_7_76 e45 ?_
      refine x_iload_n (pc := 48) (x := v26) dX7_camp_48 rfl ?_
      refine x_iload_n (pc := 49) (x := x1) dX7_camp_49 rfl ?_
      replace hf := bd_s hf; obtain ⟨h50, e50, hf⟩ := hf
      refine x_stI (pc := 50) dX7_camp_50 e50 ?_
      refine x_aload_n (pc := 51) (a := x0) dX7_camp_51 rfl ?_
      replace hf := bd_s hf; obtain ⟨v52, e52, hf⟩ := hf
      refine x_getR (pc := 52) dX7_camp_52 fl_7_10 e52 ?_
      replace hf := bd_s hf; obtain ⟨v55, e55, hf⟩ := hf
      refine x_getR (pc := 55) dX7_camp_55 fl_7_79 e55 ?_
      refine x_iload_n (pc := 58) (x := v26) dX7_camp_58 rfl ?_
      refine x_iload_n (pc := 59) (x := x2) dX7_camp_59 rfl ?_
      replace hf := bd_s hf; obtain ⟨h60, e60, hf⟩ := hf
      refine x_stZ (pc := 60) dX7_camp_60 e60 ?_
      refine x_aload_n (pc := 61) (a := x0) dX7_camp_61 rfl ?_
      refine x_aload_n (pc := 62) (a := x0) dX7_camp_62 rfl ?_
      replace hf := bd_s hf; obtain ⟨v63, e63, hf⟩ := hf
      refine x_getR (pc := 63) dX7_camp_63 fl_7_10 e63 ?_
      replace hf := bd_s hf; obtain ⟨v66, e66, hf⟩ := hf
      refine x_getR (pc := 66) dX7_camp_66 fl_7_72 e66 ?_
      refine x_iconst (pc := 69) (v := 0) dX7_camp_69 (by decide) ?_
      refine x_iload_n (pc := 70) (x := v26) dX7_camp_70 rfl ?_
      refine x_iconst (pc := 71) (v := 1) dX7_camp_71 (by decide) ?_
      refine x_iadd (pc := 72) dX7_camp_72 ?_
      replace hf := bd_s hf; obtain ⟨u73, i73, hf⟩ := hf
      replace hf := bd2_s hf; obtain ⟨v73, h73, e73, hf⟩ := hf
      refine x_cVi (pc := 73) (M' := mX7_change) (as := [va_rf (v66), .int (0), .int (v26 + 1)]) (st := []) (a := x0) (ci := 7) dX7_camp_73 mo_X7_change lk_7_68 im_X7_change se_X7_change rfl ⟨Nat.le_of_ble_eq_true rfl, Nat.le_of_ble_eq_true rfl⟩ rfl (Nat.le_of_ble_eq_true rfl) rfl i73 (tm_X7_change e73) ?_
      obtain ⟨rfl, rfl⟩ := ret_s hf
      exact x_reti (pc := 76) dX7_camp_76 rfl
    · replace hf := it_f hc hf
      refine x_aload_n (pc := 34) (a := x0) dX7_camp_34 rfl ?_
      refine x_ldc (pc := 35) (v := -100005) dX7_camp_35 kc_7_75 ?_
      replace hf := bd_s hf; obtain ⟨u37, i37, hf⟩ := hf
      replace hf := bd2_s hf; obtain ⟨v37, h37, e37, hf⟩ := hf
      refine x_cVi (pc := 37) (M' := mX7_finding) (as := [.int ((-100005))]) (st := []) (a := x0) (ci := 7) dX7_camp_37 mo_X7_finding lk_7_60 im_X7_finding se_X7_finding rfl ⟨Nat.le_of_ble_eq_true rfl, Nat.le_of_ble_eq_true rfl⟩ rfl (Nat.le_of_ble_eq_true rfl) rfl i37 (tm_X7_finding e37) ?_
      obtain ⟨rfl, rfl⟩ := ret_s hf
      exact x_reti (pc := 40) dX7_camp_40 rfl
  · replace hf := it_n hc hf
    refine x_aload_n (pc := 11) (a := x0) dX7_camp_11 rfl ?_
    refine x_ldc (pc := 12) (v := -100001) dX7_camp_12 kc_7_59 ?_
    replace hf := bd_s hf; obtain ⟨u14, i14, hf⟩ := hf
    replace hf := bd2_s hf; obtain ⟨v14, h14, e14, hf⟩ := hf
    refine x_cVi (pc := 14) (M' := mX7_finding) (as := [.int ((-100001))]) (st := []) (a := x0) (ci := 7) dX7_camp_14 mo_X7_finding lk_7_60 im_X7_finding se_X7_finding rfl ⟨Nat.le_of_ble_eq_true rfl, Nat.le_of_ble_eq_true rfl⟩ rfl (Nat.le_of_ble_eq_true rfl) rfl i14 (tm_X7_finding e14) ?_
    obtain ⟨rfl, rfl⟩ := ret_s hf
    exact x_reti (pc := 17) dX7_camp_17 rfl

def f_X7_isApplicant (h : AH) (x0 : Option Nat) (x1 : Int32) : Option (Int32 × AH) :=
  bd (gR h x0 7 3) fun v3 =>
  bd (isO h v3 0) fun _ =>
  bd2 (f_X0_size h v3) fun v6 h6 =>
  bd2 (f_X7_within h6 x1 0 (v6 - 1)) fun v11 h11 =>
  bd (bl v11) fun v14 =>
  some (v14, h11)

set_option maxRecDepth 100000 in
set_option maxHeartbeats 4000000 in
theorem tm_X7_isApplicant {g : GT} {h : AH} {x0 : Option Nat} {x1 : Int32} {r : Int32} {h' : AH} (hf : f_X7_isApplicant h x0 x1 = some (r, h')) : Xm g mX7_isApplicant [va_rf (x0), .int (x1)] h (some (.int r)) h' := by
  refine xm_of mo_X7_isApplicant (Nat.le_of_ble_eq_true rfl) (ls := [some (va_rf (x0)), some (.int (x1))]) rfl ?_
  rw [f_X7_isApplicant] at hf
  refine x_iload_n (pc := 0) (x := x1) dX7_isApplicant_0 rfl ?_
  refine x_iconst (pc := 1) (v := 0) dX7_isApplicant_1 (by decide) ?_
  refine x_aload_n (pc := 2) (a := x0) dX7_isApplicant_2 rfl ?_
  replace hf := bd_s hf; obtain ⟨v3, e3, hf⟩ := hf
  refine x_getR (pc := 3) dX7_isApplicant_3 fl_7_33 e3 ?_
  replace hf := bd_s hf; obtain ⟨u6, i6, hf⟩ := hf
  replace hf := bd2_s hf; obtain ⟨v6, h6, e6, hf⟩ := hf
  refine x_cVi (pc := 6) (M' := mX0_size) (as := []) (st := [.int (0), .int (x1)]) (a := v3) (ci := 0) dX7_isApplicant_6 mo_X0_size lk_7_202 im_X0_size se_X0_size rfl ⟨Nat.le_of_ble_eq_true rfl, Nat.le_of_ble_eq_true rfl⟩ rfl (Nat.le_of_ble_eq_true rfl) rfl i6 (tm_X0_size e6) ?_
  refine x_iconst (pc := 9) (v := 1) dX7_isApplicant_9 (by decide) ?_
  refine x_isub (pc := 10) dX7_isApplicant_10 ?_
  replace hf := bd2_s hf; obtain ⟨v11, h11, e11, hf⟩ := hf
  refine x_cSi (pc := 11) (M' := mX7_within) (as := [.int (x1), .int (0), .int (v6 - 1)]) (st := []) dX7_isApplicant_11 mo_X7_within lk_7_55 sm_X7_within ⟨Nat.le_of_ble_eq_true rfl, Nat.le_of_ble_eq_true rfl⟩ rfl (Nat.le_of_ble_eq_true rfl) rfl (tm_X7_within e11) ?_
  replace hf := bd_s hf; obtain ⟨v14, e14, hf⟩ := hf
  obtain ⟨z14, q14⟩ := bl_s e14
  obtain ⟨rfl, rfl⟩ := ret_s hf
  rw [q14]
  exact x_retz (pc := 14) dX7_isApplicant_14 rfl z14

def g_X7_greatestDivisor_2 : Nat → AH → Int32 → Int32 → Int32 → Option (Int32 × AH)
  | 0, _, _, _, _ => none
  | n + 1, h, x0, x1, x2 =>
    if x2 ≤ 1 then (
      some (1, h)
    ) else (
      bd (rm x0 x2) fun v9 =>
      if ¬ v9 = 0 then (
        g_X7_greatestDivisor_2  n h x0 x1 (x2 + (-1))
      ) else (
        bd (rm x1 x2) fun v15 =>
        if ¬ v15 = 0 then (
          g_X7_greatestDivisor_2  n h x0 x1 (x2 + (-1))
        ) else (
          some (x2, h)
        )
      )
    )

set_option maxRecDepth 100000 in
set_option maxHeartbeats 4000000 in
theorem tg_X7_greatestDivisor_2 {g : GT} : ∀ (n : Nat) {h : AH} {x0 : Int32} {x1 : Int32} {x2 : Int32} {r : Int32} {h' : AH}, g_X7_greatestDivisor_2 n h x0 x1 x2 = some (r, h') → Xj g mX7_greatestDivisor h 2 [some (.int (x0)), some (.int (x1)), some (.int (x2))] [] (some (.int r)) h' := by
  intro n
  induction n with
  | zero =>
    intros
    rename_i z
    cases z
  | succ n ih =>
    intro h x0 x1 x2 r h' hf
    rw [g_X7_greatestDivisor_2] at hf
    refine x_iload_n (pc := 2) (x := x2) dX7_greatestDivisor_2 rfl ?_
    refine x_iconst (pc := 3) (v := 1) dX7_greatestDivisor_3 (by decide) ?_
    refine x_icmp_le (pc := 4) (tgt := 27) (x := x2) (y := 1) dX7_greatestDivisor_4 rfl (fun hc => ?_) (fun hc => ?_)
    · replace hf := it_t hc hf
      refine x_iconst (pc := 27) (v := 1) dX7_greatestDivisor_27 (by decide) ?_
      obtain ⟨rfl, rfl⟩ := ret_s hf
      exact x_reti (pc := 28) dX7_greatestDivisor_28 rfl
    · replace hf := it_f hc hf
      refine x_iload_n (pc := 7) (x := x0) dX7_greatestDivisor_7 rfl ?_
      refine x_iload_n (pc := 8) (x := x2) dX7_greatestDivisor_8 rfl ?_
      replace hf := bd_s hf; obtain ⟨v9, e9, hf⟩ := hf
      refine x_rm (pc := 9) dX7_greatestDivisor_9 e9 ?_
      refine x_if_ne (pc := 10) (tgt := 21) (x := v9) dX7_greatestDivisor_10 rfl (fun hc => ?_) (fun hc => ?_)
      · replace hf := it_t hc hf
        refine x_iinc (pc := 21) (x := x2) (v := x2 + (-1)) (ls' := [some (.int (x0)), some (.int (x1)), some (.int (x2 + (-1)))]) dX7_greatestDivisor_21 rfl rfl (by decide) rfl ?_
        refine x_goto (pc := 24) (tgt := 2) dX7_greatestDivisor_24 rfl ?_
        exact ih hf
      · replace hf := it_n hc hf
        refine x_iload_n (pc := 13) (x := x1) dX7_greatestDivisor_13 rfl ?_
        refine x_iload_n (pc := 14) (x := x2) dX7_greatestDivisor_14 rfl ?_
        replace hf := bd_s hf; obtain ⟨v15, e15, hf⟩ := hf
        refine x_rm (pc := 15) dX7_greatestDivisor_15 e15 ?_
        refine x_if_ne (pc := 16) (tgt := 21) (x := v15) dX7_greatestDivisor_16 rfl (fun hc => ?_) (fun hc => ?_)
        · replace hf := it_t hc hf
          refine x_iinc (pc := 21) (x := x2) (v := x2 + (-1)) (ls' := [some (.int (x0)), some (.int (x1)), some (.int (x2 + (-1)))]) dX7_greatestDivisor_21 rfl rfl (by decide) rfl ?_
          refine x_goto (pc := 24) (tgt := 2) dX7_greatestDivisor_24 rfl ?_
          exact ih hf
        · replace hf := it_n hc hf
          refine x_iload_n (pc := 19) (x := x2) dX7_greatestDivisor_19 rfl ?_
          obtain ⟨rfl, rfl⟩ := ret_s hf
          exact x_reti (pc := 20) dX7_greatestDivisor_20 rfl

def f_X7_greatestDivisor (h : AH) (x0 : Int32) (x1 : Int32) : Option (Int32 × AH) :=
  g_X7_greatestDivisor_2  NN h x0 x1 x0

set_option maxRecDepth 100000 in
set_option maxHeartbeats 4000000 in
theorem tm_X7_greatestDivisor {g : GT} {h : AH} {x0 : Int32} {x1 : Int32} {r : Int32} {h' : AH} (hf : f_X7_greatestDivisor h x0 x1 = some (r, h')) : Xm g mX7_greatestDivisor [.int (x0), .int (x1)] h (some (.int r)) h' := by
  refine xm_of mo_X7_greatestDivisor (Nat.le_of_ble_eq_true rfl) (ls := [some (.int (x0)), some (.int (x1)), none]) rfl ?_
  rw [f_X7_greatestDivisor] at hf
  refine x_iload_n (pc := 0) (x := x0) dX7_greatestDivisor_0 rfl ?_
  refine x_istore_n (pc := 1) (ls' := [some (.int (x0)), some (.int (x1)), some (.int (x0))]) dX7_greatestDivisor_1 (by decide) rfl ?_
  exact tg_X7_greatestDivisor_2  NN hf

def f_X7_chance (h : AH) (x0 : Option Nat) (x1 : Int32) (x2 : Int32) : Option (Int32 × AH) :=
  bd (isO h x0 7) fun _ =>
  bd2 (f_X7_isApplicant h x0 x1) fun v2 h2 =>
  if ¬ v2 = 0 then (
    bd (gR h2 x0 7 3) fun v16 =>
    bd (gR h2 v16 0 1) fun v19 =>
    bd (ldI h2 v19 x1) fun v23 =>
    bd (gR h2 x0 7 3) fun v26 =>
    bd (gR h2 x0 7 3) fun v30 =>
    bd (isO h2 v30 0) fun _ =>
    bd2 (f_X0_everybody h2 v30) fun v33 h33 =>
    bd (isO h33 v26 0) fun _ =>
    bd2 (f_X0_together h33 v26 v33) fun v36 h36 =>
    bd2 (f_X7_greatestDivisor h36 v23 v36) fun v44 h44 =>
    if x2 = 0 then (
      bd (dv v23 v44) fun v61 =>
      some (v61, h44)
    ) else (
      bd (dv v36 v44) fun v61 =>
      some (v61, h44)
    )
  ) else (
    bd (isO h2 x0 7) fun _ =>
    bd2 (f_X7_finding h2 x0 (-100001)) fun v11 h11 =>
    some (v11, h11)
  )

set_option maxRecDepth 100000 in
set_option maxHeartbeats 4000000 in
theorem tm_X7_chance {g : GT} {h : AH} {x0 : Option Nat} {x1 : Int32} {x2 : Int32} {r : Int32} {h' : AH} (hf : f_X7_chance h x0 x1 x2 = some (r, h')) : Xm g mX7_chance [va_rf (x0), .int (x1), .int (x2)] h (some (.int r)) h' := by
  refine xm_of mo_X7_chance (Nat.le_of_ble_eq_true rfl) (ls := [some (va_rf (x0)), some (.int (x1)), some (.int (x2)), none, none, none]) rfl ?_
  rw [f_X7_chance] at hf
  refine x_aload_n (pc := 0) (a := x0) dX7_chance_0 rfl ?_
  refine x_iload_n (pc := 1) (x := x1) dX7_chance_1 rfl ?_
  replace hf := bd_s hf; obtain ⟨u2, i2, hf⟩ := hf
  replace hf := bd2_s hf; obtain ⟨v2, h2, e2, hf⟩ := hf
  refine x_cVi (pc := 2) (M' := mX7_isApplicant) (as := [.int (x1)]) (st := []) (a := x0) (ci := 7) dX7_chance_2 mo_X7_isApplicant lk_7_207 im_X7_isApplicant se_X7_isApplicant rfl ⟨Nat.le_of_ble_eq_true rfl, Nat.le_of_ble_eq_true rfl⟩ rfl (Nat.le_of_ble_eq_true rfl) rfl i2 (tm_X7_isApplicant e2) ?_
  refine x_if_ne (pc := 5) (tgt := 15) (x := v2) dX7_chance_5 rfl (fun hc => ?_) (fun hc => ?_)
  · replace hf := it_t hc hf
    refine x_aload_n (pc := 15) (a := x0) dX7_chance_15 rfl ?_
    replace hf := bd_s hf; obtain ⟨v16, e16, hf⟩ := hf
    refine x_getR (pc := 16) dX7_chance_16 fl_7_33 e16 ?_
    replace hf := bd_s hf; obtain ⟨v19, e19, hf⟩ := hf
    refine x_getR (pc := 19) dX7_chance_19 fl_7_203 e19 ?_
    refine x_iload_n (pc := 22) (x := x1) dX7_chance_22 rfl ?_
    replace hf := bd_s hf; obtain ⟨v23, e23, hf⟩ := hf
    refine x_ldI (pc := 23) dX7_chance_23 e23 ?_
    refine x_istore_n (pc := 24) (ls' := [some (va_rf (x0)), some (.int (x1)), some (.int (x2)), some (.int (v23)), none, none]) dX7_chance_24 (by decide) rfl ?_
    refine x_aload_n (pc := 25) (a := x0) dX7_chance_25 rfl ?_
    replace hf := bd_s hf; obtain ⟨v26, e26, hf⟩ := hf
    refine x_getR (pc := 26) dX7_chance_26 fl_7_33 e26 ?_
    refine x_aload_n (pc := 29) (a := x0) dX7_chance_29 rfl ?_
    replace hf := bd_s hf; obtain ⟨v30, e30, hf⟩ := hf
    refine x_getR (pc := 30) dX7_chance_30 fl_7_33 e30 ?_
    replace hf := bd_s hf; obtain ⟨u33, i33, hf⟩ := hf
    replace hf := bd2_s hf; obtain ⟨v33, h33, e33, hf⟩ := hf
    refine x_cVi (pc := 33) (M' := mX0_everybody) (as := []) (st := [va_rf (v26)]) (a := v30) (ci := 0) dX7_chance_33 mo_X0_everybody lk_7_210 im_X0_everybody se_X0_everybody rfl ⟨Nat.le_of_ble_eq_true rfl, Nat.le_of_ble_eq_true rfl⟩ rfl (Nat.le_of_ble_eq_true rfl) rfl i33 (tm_X0_everybody e33) ?_
    replace hf := bd_s hf; obtain ⟨u36, i36, hf⟩ := hf
    replace hf := bd2_s hf; obtain ⟨v36, h36, e36, hf⟩ := hf
    refine x_cVi (pc := 36) (M' := mX0_together) (as := [.int (v33)]) (st := []) (a := v26) (ci := 0) dX7_chance_36 mo_X0_together lk_7_213 im_X0_together se_X0_together rfl ⟨Nat.le_of_ble_eq_true rfl, Nat.le_of_ble_eq_true rfl⟩ rfl (Nat.le_of_ble_eq_true rfl) rfl i36 (tm_X0_together e36) ?_
    refine x_istore (pc := 39) (ls' := [some (va_rf (x0)), some (.int (x1)), some (.int (x2)), some (.int (v23)), some (.int (v36)), none]) dX7_chance_39 (by decide) rfl ?_
    refine x_iload_n (pc := 41) (x := v23) dX7_chance_41 rfl ?_
    refine x_iload (pc := 42) (x := v36) dX7_chance_42 rfl ?_
    replace hf := bd2_s hf; obtain ⟨v44, h44, e44, hf⟩ := hf
    refine x_cSi (pc := 44) (M' := mX7_greatestDivisor) (as := [.int (v23), .int (v36)]) (st := []) dX7_chance_44 mo_X7_greatestDivisor lk_7_216 sm_X7_greatestDivisor ⟨Nat.le_of_ble_eq_true rfl, Nat.le_of_ble_eq_true rfl⟩ rfl (Nat.le_of_ble_eq_true rfl) rfl (tm_X7_greatestDivisor e44) ?_
    refine x_istore (pc := 47) (ls' := [some (va_rf (x0)), some (.int (x1)), some (.int (x2)), some (.int (v23)), some (.int (v36)), some (.int (v44))]) dX7_chance_47 (by decide) rfl ?_
    refine x_iload_n (pc := 49) (x := x2) dX7_chance_49 rfl ?_
    refine x_if_eq (pc := 50) (tgt := 58) (x := x2) dX7_chance_50 rfl (fun hc => ?_) (fun hc => ?_)
    · replace hf := it_t hc hf
      refine x_iload_n (pc := 58) (x := v23) dX7_chance_58 rfl ?_
      refine x_iload (pc := 59) (x := v44) dX7_chance_59 rfl ?_
      replace hf := bd_s hf; obtain ⟨v61, e61, hf⟩ := hf
      refine x_dv (pc := 61) dX7_chance_61 e61 ?_
      obtain ⟨rfl, rfl⟩ := ret_s hf
      exact x_reti (pc := 62) dX7_chance_62 rfl
    · replace hf := it_f hc hf
      refine x_iload (pc := 53) (x := v36) dX7_chance_53 rfl ?_
      refine x_goto (pc := 55) (tgt := 59) dX7_chance_55 rfl ?_
      refine x_iload (pc := 59) (x := v44) dX7_chance_59 rfl ?_
      replace hf := bd_s hf; obtain ⟨v61, e61, hf⟩ := hf
      refine x_dv (pc := 61) dX7_chance_61 e61 ?_
      obtain ⟨rfl, rfl⟩ := ret_s hf
      exact x_reti (pc := 62) dX7_chance_62 rfl
  · replace hf := it_n hc hf
    refine x_aload_n (pc := 8) (a := x0) dX7_chance_8 rfl ?_
    refine x_ldc (pc := 9) (v := -100001) dX7_chance_9 kc_7_59 ?_
    replace hf := bd_s hf; obtain ⟨u11, i11, hf⟩ := hf
    replace hf := bd2_s hf; obtain ⟨v11, h11, e11, hf⟩ := hf
    refine x_cVi (pc := 11) (M' := mX7_finding) (as := [.int ((-100001))]) (st := []) (a := x0) (ci := 7) dX7_chance_11 mo_X7_finding lk_7_60 im_X7_finding se_X7_finding rfl ⟨Nat.le_of_ble_eq_true rfl, Nat.le_of_ble_eq_true rfl⟩ rfl (Nat.le_of_ble_eq_true rfl) rfl i11 (tm_X7_finding e11) ?_
    obtain ⟨rfl, rfl⟩ := ret_s hf
    exact x_reti (pc := 14) dX7_chance_14 rfl

def f_X7_isSheet (h : AH) (x0 : Int32) : Option (Int32 × AH) :=
  bd2 (f_X7_within h x0 0 3) fun v3 h3 =>
  bd (bl v3) fun v6 =>
  some (v6, h3)

set_option maxRecDepth 100000 in
set_option maxHeartbeats 4000000 in
theorem tm_X7_isSheet {g : GT} {h : AH} {x0 : Int32} {r : Int32} {h' : AH} (hf : f_X7_isSheet h x0 = some (r, h')) : Xm g mX7_isSheet [.int (x0)] h (some (.int r)) h' := by
  refine xm_of mo_X7_isSheet (Nat.le_of_ble_eq_true rfl) (ls := [some (.int (x0))]) rfl ?_
  rw [f_X7_isSheet] at hf
  refine x_iload_n (pc := 0) (x := x0) dX7_isSheet_0 rfl ?_
  refine x_iconst (pc := 1) (v := 0) dX7_isSheet_1 (by decide) ?_
  refine x_iconst (pc := 2) (v := 3) dX7_isSheet_2 (by decide) ?_
  replace hf := bd2_s hf; obtain ⟨v3, h3, e3, hf⟩ := hf
  refine x_cSi (pc := 3) (M' := mX7_within) (as := [.int (x0), .int (0), .int (3)]) (st := []) dX7_isSheet_3 mo_X7_within lk_7_55 sm_X7_within ⟨Nat.le_of_ble_eq_true rfl, Nat.le_of_ble_eq_true rfl⟩ rfl (Nat.le_of_ble_eq_true rfl) rfl (tm_X7_within e3) ?_
  replace hf := bd_s hf; obtain ⟨v6, e6, hf⟩ := hf
  obtain ⟨z6, q6⟩ := bl_s e6
  obtain ⟨rfl, rfl⟩ := ret_s hf
  rw [q6]
  exact x_retz (pc := 6) dX7_isSheet_6 rfl z6
