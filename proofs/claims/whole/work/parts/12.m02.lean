def g_X4_closedRapids_5 : Nat → AH → Option Nat → Int32 → Int32 → Int32 → Int32 → Option (Int32 × AH)
  | 0, _, _, _, _, _, _ => none
  | n + 1, h, x0, x1, x2, x3, x4 =>
    bd (gR h x0 4 1) fun v8 =>
    bd (ldI h v8 1) fun v12 =>
    if v12 ≤ x4 then (
      some (x3, h)
    ) else (
      bd (isO h x0 4) fun _ =>
      bd2 (f_X4_firstHour h x0 x4 x1 x2) fun v21 h21 =>
      if 0 ≤ v21 then (
        g_X4_closedRapids_5  n h21 x0 x1 x2 x3 (x4 + 1)
      ) else (
        g_X4_closedRapids_5  n h21 x0 x1 x2 (x3 ||| (1 <<< (x4 &&& 31))) (x4 + 1)
      )
    )

set_option maxRecDepth 100000 in
set_option maxHeartbeats 4000000 in
theorem tg_X4_closedRapids_5 {g : GT} : ∀ (n : Nat) {h : AH} {x0 : Option Nat} {x1 : Int32} {x2 : Int32} {x3 : Int32} {x4 : Int32} {r : Int32} {h' : AH}, g_X4_closedRapids_5 n h x0 x1 x2 x3 x4 = some (r, h') → Xj g mX4_closedRapids h 5 [some (va_rf (x0)), some (.int (x1)), some (.int (x2)), some (.int (x3)), some (.int (x4))] [] (some (.int r)) h' := by
  intro n
  induction n with
  | zero =>
    intros
    rename_i z
    cases z
  | succ n ih =>
    intro h x0 x1 x2 x3 x4 r h' hf
    rw [g_X4_closedRapids_5] at hf
    refine x_iload (pc := 5) (x := x4) dX4_closedRapids_5 rfl ?_
    refine x_aload_n (pc := 7) (a := x0) dX4_closedRapids_7 rfl ?_
    replace hf := bd_s hf; obtain ⟨v8, e8, hf⟩ := hf
    refine x_getR (pc := 8) dX4_closedRapids_8 fl_4_15 e8 ?_
    refine x_iconst (pc := 11) (v := 1) dX4_closedRapids_11 (by decide) ?_
    replace hf := bd_s hf; obtain ⟨v12, e12, hf⟩ := hf
    refine x_ldI (pc := 12) dX4_closedRapids_12 e12 ?_
    refine x_icmp_ge (pc := 13) (tgt := 40) (x := x4) (y := v12) dX4_closedRapids_13 rfl (fun hc => ?_) (fun hc => ?_)
    · replace hf := it_t hc hf
      refine x_iload_n (pc := 40) (x := x3) dX4_closedRapids_40 rfl ?_
      obtain ⟨rfl, rfl⟩ := ret_s hf
      exact x_reti (pc := 41) dX4_closedRapids_41 rfl
    · replace hf := it_f hc hf
      refine x_aload_n (pc := 16) (a := x0) dX4_closedRapids_16 rfl ?_
      refine x_iload (pc := 17) (x := x4) dX4_closedRapids_17 rfl ?_
      refine x_iload_n (pc := 19) (x := x1) dX4_closedRapids_19 rfl ?_
      refine x_iload_n (pc := 20) (x := x2) dX4_closedRapids_20 rfl ?_
      replace hf := bd_s hf; obtain ⟨u21, i21, hf⟩ := hf
      replace hf := bd2_s hf; obtain ⟨v21, h21, e21, hf⟩ := hf
      refine x_cVi (pc := 21) (M' := mX4_firstHour) (as := [.int (x4), .int (x1), .int (x2)]) (st := []) (a := x0) (ci := 4) dX4_closedRapids_21 mo_X4_firstHour lk_4_60 im_X4_firstHour se_X4_firstHour rfl ⟨Nat.le_of_ble_eq_true rfl, Nat.le_of_ble_eq_true rfl⟩ rfl (Nat.le_of_ble_eq_true rfl) rfl i21 (tm_X4_firstHour e21) ?_
      refine x_if_ge (pc := 24) (tgt := 34) (x := v21) dX4_closedRapids_24 rfl (fun hc => ?_) (fun hc => ?_)
      · replace hf := it_t hc hf
        refine x_iinc (pc := 34) (x := x4) (v := x4 + 1) (ls' := [some (va_rf (x0)), some (.int (x1)), some (.int (x2)), some (.int (x3)), some (.int (x4 + 1))]) dX4_closedRapids_34 rfl rfl (by decide) rfl ?_
        refine x_goto (pc := 37) (tgt := 5) dX4_closedRapids_37 rfl ?_
        exact ih hf
      · replace hf := it_f hc hf
        refine x_iload_n (pc := 27) (x := x3) dX4_closedRapids_27 rfl ?_
        refine x_iconst (pc := 28) (v := 1) dX4_closedRapids_28 (by decide) ?_
        refine x_iload (pc := 29) (x := x4) dX4_closedRapids_29 rfl ?_
        refine x_ishl (pc := 31) dX4_closedRapids_31 ?_
        refine x_ior (pc := 32) dX4_closedRapids_32 ?_
        refine x_istore_n (pc := 33) (ls' := [some (va_rf (x0)), some (.int (x1)), some (.int (x2)), some (.int (x3 ||| (1 <<< (x4 &&& 31)))), some (.int (x4))]) dX4_closedRapids_33 (by decide) rfl ?_
        refine x_iinc (pc := 34) (x := x4) (v := x4 + 1) (ls' := [some (va_rf (x0)), some (.int (x1)), some (.int (x2)), some (.int (x3 ||| (1 <<< (x4 &&& 31)))), some (.int (x4 + 1))]) dX4_closedRapids_34 rfl rfl (by decide) rfl ?_
        refine x_goto (pc := 37) (tgt := 5) dX4_closedRapids_37 rfl ?_
        exact ih hf

def f_X4_closedRapids (h : AH) (x0 : Option Nat) (x1 : Int32) (x2 : Int32) : Option (Int32 × AH) :=
  g_X4_closedRapids_5  NN h x0 x1 x2 0 0

set_option maxRecDepth 100000 in
set_option maxHeartbeats 4000000 in
theorem tm_X4_closedRapids {g : GT} {h : AH} {x0 : Option Nat} {x1 : Int32} {x2 : Int32} {r : Int32} {h' : AH} (hf : f_X4_closedRapids h x0 x1 x2 = some (r, h')) : Xm g mX4_closedRapids [va_rf (x0), .int (x1), .int (x2)] h (some (.int r)) h' := by
  refine xm_of mo_X4_closedRapids (Nat.le_of_ble_eq_true rfl) (ls := [some (va_rf (x0)), some (.int (x1)), some (.int (x2)), none, none]) rfl ?_
  rw [f_X4_closedRapids] at hf
  refine x_iconst (pc := 0) (v := 0) dX4_closedRapids_0 (by decide) ?_
  refine x_istore_n (pc := 1) (ls' := [some (va_rf (x0)), some (.int (x1)), some (.int (x2)), some (.int (0)), none]) dX4_closedRapids_1 (by decide) rfl ?_
  refine x_iconst (pc := 2) (v := 0) dX4_closedRapids_2 (by decide) ?_
  refine x_istore (pc := 3) (ls' := [some (va_rf (x0)), some (.int (x1)), some (.int (x2)), some (.int (0)), some (.int (0))]) dX4_closedRapids_3 (by decide) rfl ?_
  exact tg_X4_closedRapids_5  NN hf

def g_X6_takenFrom_5 : Nat → AH → Option Nat → Int32 → Int32 → Int32 → Int32 → Option (Int32 × AH)
  | 0, _, _, _, _, _, _ => none
  | n + 1, h, x0, x1, x2, x3, x4 =>
    bd (isO h x0 6) fun _ =>
    bd2 (f_X6_size h x0) fun v8 h8 =>
    if v8 ≤ x4 then (
      some (x3, h8)
    ) else (
      bd (isO h8 x0 6) fun _ =>
      bd2 (f_X6_read h8 x0 x4 (5 + x2)) fun v20 h20 =>
      if x4 = x1 then (
        g_X6_takenFrom_5  n h20 x0 x1 x2 x3 (x4 + 1)
      ) else (
        if v20 = (-1) then (
          g_X6_takenFrom_5  n h20 x0 x1 x2 x3 (x4 + 1)
        ) else (
          g_X6_takenFrom_5  n h20 x0 x1 x2 (x3 ||| (1 <<< (v20 &&& 31))) (x4 + 1)
        )
      )
    )

set_option maxRecDepth 100000 in
set_option maxHeartbeats 4000000 in
theorem tg_X6_takenFrom_5 {g : GT} : ∀ (n : Nat) {h : AH} {x0 : Option Nat} {x1 : Int32} {x2 : Int32} {x3 : Int32} {x4 : Int32} {r : Int32} {h' : AH}, g_X6_takenFrom_5 n h x0 x1 x2 x3 x4 = some (r, h') → Xj g mX6_takenFrom h 5 [some (va_rf (x0)), some (.int (x1)), some (.int (x2)), some (.int (x3)), some (.int (x4)), none] [] (some (.int r)) h' := by
  intro n
  induction n with
  | zero =>
    intros
    rename_i z
    cases z
  | succ n ih =>
    intro h x0 x1 x2 x3 x4 r h' hf
    rw [g_X6_takenFrom_5] at hf
    refine x_iload (pc := 5) (x := x4) dX6_takenFrom_5 rfl ?_
    refine x_aload_n (pc := 7) (a := x0) dX6_takenFrom_7 rfl ?_
    replace hf := bd_s hf; obtain ⟨u8, i8, hf⟩ := hf
    replace hf := bd2_s hf; obtain ⟨v8, h8, e8, hf⟩ := hf
    refine x_cVi (pc := 8) (M' := mX6_size) (as := []) (st := [.int (x4)]) (a := x0) (ci := 6) dX6_takenFrom_8 mo_X6_size lk_6_32 im_X6_size se_X6_size rfl ⟨Nat.le_of_ble_eq_true rfl, Nat.le_of_ble_eq_true rfl⟩ rfl (Nat.le_of_ble_eq_true rfl) rfl i8 (tm_X6_size e8) ?_
    refine x_icmp_ge (pc := 11) (tgt := 50) (x := x4) (y := v8) dX6_takenFrom_11 rfl (fun hc => ?_) (fun hc => ?_)
    · replace hf := it_t hc hf
      refine x_iload_n (pc := 50) (x := x3) dX6_takenFrom_50 rfl ?_
      obtain ⟨rfl, rfl⟩ := ret_s hf
      exact x_reti (pc := 51) dX6_takenFrom_51 rfl
    · replace hf := it_f hc hf
      refine x_aload_n (pc := 14) (a := x0) dX6_takenFrom_14 rfl ?_
      refine x_iload (pc := 15) (x := x4) dX6_takenFrom_15 rfl ?_
      refine x_iconst (pc := 17) (v := 5) dX6_takenFrom_17 (by decide) ?_
      refine x_iload_n (pc := 18) (x := x2) dX6_takenFrom_18 rfl ?_
      refine x_iadd (pc := 19) dX6_takenFrom_19 ?_
      replace hf := bd_s hf; obtain ⟨u20, i20, hf⟩ := hf
      replace hf := bd2_s hf; obtain ⟨v20, h20, e20, hf⟩ := hf
      refine x_cVi (pc := 20) (M' := mX6_read) (as := [.int (x4), .int (5 + x2)]) (st := []) (a := x0) (ci := 6) dX6_takenFrom_20 mo_X6_read lk_6_29 im_X6_read se_X6_read rfl ⟨Nat.le_of_ble_eq_true rfl, Nat.le_of_ble_eq_true rfl⟩ rfl (Nat.le_of_ble_eq_true rfl) rfl i20 (tm_X6_read e20) ?_
      refine x_istore (pc := 23) (ls' := [some (va_rf (x0)), some (.int (x1)), some (.int (x2)), some (.int (x3)), some (.int (x4)), some (.int (v20))]) dX6_takenFrom_23 (by decide) rfl ?_
      refine x_iload (pc := 25) (x := x4) dX6_takenFrom_25 rfl ?_
      refine x_iload_n (pc := 27) (x := x1) dX6_takenFrom_27 rfl ?_
      refine x_icmp_eq (pc := 28) (tgt := 44) (x := x4) (y := x1) dX6_takenFrom_28 rfl (fun hc => ?_) (fun hc => ?_)
      · replace hf := it_t hc hf
        refine x_iinc (pc := 44) (x := x4) (v := x4 + 1) (ls' := [some (va_rf (x0)), some (.int (x1)), some (.int (x2)), some (.int (x3)), some (.int (x4 + 1)), some (.int (v20))]) dX6_takenFrom_44 rfl rfl (by decide) rfl ?_
        refine x_goto (pc := 47) (tgt := 5) dX6_takenFrom_47 rfl ?_
        refine x_mask [true, true, true, true, true, false] rfl ?_
        exact ih hf
      · replace hf := it_f hc hf
        refine x_iload (pc := 31) (x := v20) dX6_takenFrom_31 rfl ?_
        refine x_iconst (pc := 33) (v := -1) dX6_takenFrom_33 (by decide) ?_
        refine x_icmp_eq (pc := 34) (tgt := 44) (x := v20) (y := (-1)) dX6_takenFrom_34 rfl (fun hc => ?_) (fun hc => ?_)
        · replace hf := it_t hc hf
          refine x_iinc (pc := 44) (x := x4) (v := x4 + 1) (ls' := [some (va_rf (x0)), some (.int (x1)), some (.int (x2)), some (.int (x3)), some (.int (x4 + 1)), some (.int (v20))]) dX6_takenFrom_44 rfl rfl (by decide) rfl ?_
          refine x_goto (pc := 47) (tgt := 5) dX6_takenFrom_47 rfl ?_
          refine x_mask [true, true, true, true, true, false] rfl ?_
          exact ih hf
        · replace hf := it_f hc hf
          refine x_iload_n (pc := 37) (x := x3) dX6_takenFrom_37 rfl ?_
          refine x_iconst (pc := 38) (v := 1) dX6_takenFrom_38 (by decide) ?_
          refine x_iload (pc := 39) (x := v20) dX6_takenFrom_39 rfl ?_
          refine x_ishl (pc := 41) dX6_takenFrom_41 ?_
          refine x_ior (pc := 42) dX6_takenFrom_42 ?_
          refine x_istore_n (pc := 43) (ls' := [some (va_rf (x0)), some (.int (x1)), some (.int (x2)), some (.int (x3 ||| (1 <<< (v20 &&& 31)))), some (.int (x4)), some (.int (v20))]) dX6_takenFrom_43 (by decide) rfl ?_
          refine x_iinc (pc := 44) (x := x4) (v := x4 + 1) (ls' := [some (va_rf (x0)), some (.int (x1)), some (.int (x2)), some (.int (x3 ||| (1 <<< (v20 &&& 31)))), some (.int (x4 + 1)), some (.int (v20))]) dX6_takenFrom_44 rfl rfl (by decide) rfl ?_
          refine x_goto (pc := 47) (tgt := 5) dX6_takenFrom_47 rfl ?_
          refine x_mask [true, true, true, true, true, false] rfl ?_
          exact ih hf

def f_X6_takenFrom (h : AH) (x0 : Option Nat) (x1 : Int32) (x2 : Int32) : Option (Int32 × AH) :=
  g_X6_takenFrom_5  NN h x0 x1 x2 0 0

set_option maxRecDepth 100000 in
set_option maxHeartbeats 4000000 in
theorem tm_X6_takenFrom {g : GT} {h : AH} {x0 : Option Nat} {x1 : Int32} {x2 : Int32} {r : Int32} {h' : AH} (hf : f_X6_takenFrom h x0 x1 x2 = some (r, h')) : Xm g mX6_takenFrom [va_rf (x0), .int (x1), .int (x2)] h (some (.int r)) h' := by
  refine xm_of mo_X6_takenFrom (Nat.le_of_ble_eq_true rfl) (ls := [some (va_rf (x0)), some (.int (x1)), some (.int (x2)), none, none, none]) rfl ?_
  rw [f_X6_takenFrom] at hf
  refine x_iconst (pc := 0) (v := 0) dX6_takenFrom_0 (by decide) ?_
  refine x_istore_n (pc := 1) (ls' := [some (va_rf (x0)), some (.int (x1)), some (.int (x2)), some (.int (0)), none, none]) dX6_takenFrom_1 (by decide) rfl ?_
  refine x_iconst (pc := 2) (v := 0) dX6_takenFrom_2 (by decide) ?_
  refine x_istore (pc := 3) (ls' := [some (va_rf (x0)), some (.int (x1)), some (.int (x2)), some (.int (0)), some (.int (0)), none]) dX6_takenFrom_3 (by decide) rfl ?_
  exact tg_X6_takenFrom_5  NN hf

def j_X3_spread_93 (k3 : AH → Option Nat → Int32 → Int32 → Int32 → Int32 → Option AH) (h : AH) (x0 : Option Nat) (x1 : Int32) (x2 : Int32) (x3 : Int32) (x4 : Int32) (x6 : Int32) : Option AH :=
  bd (gR h x0 3 2) fun v94 =>
  bd (stI h v94 (((x1 + 1) * 3) + x4) x6) fun h107 =>
  k3 h107 x0 x1 x2 x3 (x4 + 1)

set_option maxRecDepth 100000 in
set_option maxHeartbeats 4000000 in
theorem tj_X3_spread_93 {g : GT} {k3 : AH → Option Nat → Int32 → Int32 → Int32 → Int32 → Option AH} (hk3 : ∀ (h : AH) (x0 : Option Nat) (x1 : Int32) (x2 : Int32) (x3 : Int32) (x4 : Int32) (h' : AH), k3 h x0 x1 x2 x3 x4 = some h' → Xj g mX3_spread h 3 [some (va_rf (x0)), some (.int (x1)), some (.int (x2)), some (.int (x3)), some (.int (x4)), none, none, none] [] none h') {h : AH} {x0 : Option Nat} {x1 : Int32} {x2 : Int32} {x3 : Int32} {x4 : Int32} {x6 : Int32} {h' : AH} (hf : j_X3_spread_93 k3 h x0 x1 x2 x3 x4 x6 = some h') : Xj g mX3_spread h 93 [some (va_rf (x0)), some (.int (x1)), some (.int (x2)), some (.int (x3)), some (.int (x4)), none, some (.int (x6)), none] [] none h' := by
  rw [j_X3_spread_93] at hf
  refine x_aload_n (pc := 93) (a := x0) dX3_spread_93 rfl ?_
  replace hf := bd_s hf; obtain ⟨v94, e94, hf⟩ := hf
  refine x_getR (pc := 94) dX3_spread_94 fl_3_21 e94 ?_
  refine x_iload_n (pc := 97) (x := x1) dX3_spread_97 rfl ?_
  refine x_iconst (pc := 98) (v := 1) dX3_spread_98 (by decide) ?_
  refine x_iadd (pc := 99) dX3_spread_99 ?_
  refine x_iconst (pc := 100) (v := 3) dX3_spread_100 (by decide) ?_
  refine x_imul (pc := 101) dX3_spread_101 ?_
  refine x_iload (pc := 102) (x := x4) dX3_spread_102 rfl ?_
  refine x_iadd (pc := 104) dX3_spread_104 ?_
  refine x_iload (pc := 105) (x := x6) dX3_spread_105 rfl ?_
  replace hf := bd_s hf; obtain ⟨h107, e107, hf⟩ := hf
  refine x_stI (pc := 107) dX3_spread_107 e107 ?_
  refine x_iinc (pc := 108) (x := x4) (v := x4 + 1) (ls' := [some (va_rf (x0)), some (.int (x1)), some (.int (x2)), some (.int (x3)), some (.int (x4 + 1)), none, some (.int (x6)), none]) dX3_spread_108 rfl rfl (by decide) rfl ?_
  refine x_goto (pc := 111) (tgt := 3) dX3_spread_111 rfl ?_
  refine x_mask [true, true, true, true, true, false, false, false] rfl ?_
  exact hk3 _ _ _ _ _ _ _ hf

def g_X3_spread_28 (k3 : AH → Option Nat → Int32 → Int32 → Int32 → Int32 → Option AH) : Nat → AH → Option Nat → Int32 → Int32 → Int32 → Int32 → Int32 → Int32 → Int32 → Option AH
  | 0, _, _, _, _, _, _, _, _, _ => none
  | n + 1, h, x0, x1, x2, x3, x4, x5, x6, x7 =>
    if 15 ≤ x7 then (
      if x4 ≤ 0 then (
        j_X3_spread_93 k3 h x0 x1 x2 x3 x4 x6
      ) else (
        bd (gR h x0 3 2) fun v76 =>
        bd (ldI h v76 (((x1 * 3) + x4) - 1)) fun v87 =>
        j_X3_spread_93 k3 h x0 x1 x2 x3 x4 (x6 ||| (v87 &&& x3))
      )
    ) else (
      bd2 (f_X7_holds h x5 x7) fun v39 h39 =>
      if v39 = 0 then (
        g_X3_spread_28 k3 n h39 x0 x1 x2 x3 x4 x5 x6 (x7 + 1)
      ) else (
        bd (gR h39 x0 3 3) fun v48 =>
        bd (ldI h39 v48 ((x1 * 15) + x7)) fun v58 =>
        g_X3_spread_28 k3 n h39 x0 x1 x2 x3 x4 x5 (x6 ||| v58) (x7 + 1)
      )
    )

set_option maxRecDepth 100000 in
set_option maxHeartbeats 4000000 in
theorem tg_X3_spread_28 {g : GT} {k3 : AH → Option Nat → Int32 → Int32 → Int32 → Int32 → Option AH} (hk3 : ∀ (h : AH) (x0 : Option Nat) (x1 : Int32) (x2 : Int32) (x3 : Int32) (x4 : Int32) (h' : AH), k3 h x0 x1 x2 x3 x4 = some h' → Xj g mX3_spread h 3 [some (va_rf (x0)), some (.int (x1)), some (.int (x2)), some (.int (x3)), some (.int (x4)), none, none, none] [] none h') : ∀ (n : Nat) {h : AH} {x0 : Option Nat} {x1 : Int32} {x2 : Int32} {x3 : Int32} {x4 : Int32} {x5 : Int32} {x6 : Int32} {x7 : Int32} {h' : AH}, g_X3_spread_28 k3 n h x0 x1 x2 x3 x4 x5 x6 x7 = some h' → Xj g mX3_spread h 28 [some (va_rf (x0)), some (.int (x1)), some (.int (x2)), some (.int (x3)), some (.int (x4)), some (.int (x5)), some (.int (x6)), some (.int (x7))] [] none h' := by
  intro n
  induction n with
  | zero =>
    intros
    rename_i z
    cases z
  | succ n ih =>
    intro h x0 x1 x2 x3 x4 x5 x6 x7 h' hf
    rw [g_X3_spread_28] at hf
    refine x_iload (pc := 28) (x := x7) dX3_spread_28 rfl ?_
    refine x_bipush (pc := 30) (v := 15) dX3_spread_30 (by decide) ?_
    refine x_icmp_ge (pc := 32) (tgt := 68) (x := x7) (y := 15) dX3_spread_32 rfl (fun hc => ?_) (fun hc => ?_)
    · replace hf := it_t hc hf
      refine x_iload (pc := 68) (x := x4) dX3_spread_68 rfl ?_
      refine x_if_le (pc := 70) (tgt := 93) (x := x4) dX3_spread_70 rfl (fun hc => ?_) (fun hc => ?_)
      · replace hf := it_t hc hf
        refine x_mask [true, true, true, true, true, false, true, false] rfl ?_
        exact tj_X3_spread_93 hk3 hf
      · replace hf := it_f hc hf
        refine x_iload (pc := 73) (x := x6) dX3_spread_73 rfl ?_
        refine x_aload_n (pc := 75) (a := x0) dX3_spread_75 rfl ?_
        replace hf := bd_s hf; obtain ⟨v76, e76, hf⟩ := hf
        refine x_getR (pc := 76) dX3_spread_76 fl_3_21 e76 ?_
        refine x_iload_n (pc := 79) (x := x1) dX3_spread_79 rfl ?_
        refine x_iconst (pc := 80) (v := 3) dX3_spread_80 (by decide) ?_
        refine x_imul (pc := 81) dX3_spread_81 ?_
        refine x_iload (pc := 82) (x := x4) dX3_spread_82 rfl ?_
        refine x_iadd (pc := 84) dX3_spread_84 ?_
        refine x_iconst (pc := 85) (v := 1) dX3_spread_85 (by decide) ?_
        refine x_isub (pc := 86) dX3_spread_86 ?_
        replace hf := bd_s hf; obtain ⟨v87, e87, hf⟩ := hf
        refine x_ldI (pc := 87) dX3_spread_87 e87 ?_
        refine x_iload_n (pc := 88) (x := x3) dX3_spread_88 rfl ?_
        refine x_iand (pc := 89) dX3_spread_89 ?_
        refine x_ior (pc := 90) dX3_spread_90 ?_
        refine x_istore (pc := 91) (ls' := [some (va_rf (x0)), some (.int (x1)), some (.int (x2)), some (.int (x3)), some (.int (x4)), some (.int (x5)), some (.int (x6 ||| (v87 &&& x3))), some (.int (x7))]) dX3_spread_91 (by decide) rfl ?_
        refine x_mask [true, true, true, true, true, false, true, false] rfl ?_
        exact tj_X3_spread_93 hk3 hf
    · replace hf := it_f hc hf
      refine x_iload (pc := 35) (x := x5) dX3_spread_35 rfl ?_
      refine x_iload (pc := 37) (x := x7) dX3_spread_37 rfl ?_
      replace hf := bd2_s hf; obtain ⟨v39, h39, e39, hf⟩ := hf
      refine x_cNi (pc := 39) (M' := mX7_holds) (as := [.int (x5), .int (x7)]) (st := []) dX3_spread_39 mo_X7_holds lk_3_86 sm_X7_holds ⟨Nat.le_of_ble_eq_true rfl, Nat.le_of_ble_eq_true rfl⟩ rfl (Nat.le_of_ble_eq_true rfl) rfl (tm_X7_holds e39) ?_
      refine x_if_eq (pc := 42) (tgt := 62) (x := v39) dX3_spread_42 rfl (fun hc => ?_) (fun hc => ?_)
      · replace hf := it_t hc hf
        refine x_iinc (pc := 62) (x := x7) (v := x7 + 1) (ls' := [some (va_rf (x0)), some (.int (x1)), some (.int (x2)), some (.int (x3)), some (.int (x4)), some (.int (x5)), some (.int (x6)), some (.int (x7 + 1))]) dX3_spread_62 rfl rfl (by decide) rfl ?_
        refine x_goto (pc := 65) (tgt := 28) dX3_spread_65 rfl ?_
        exact ih hf
      · replace hf := it_f hc hf
        refine x_iload (pc := 45) (x := x6) dX3_spread_45 rfl ?_
        refine x_aload_n (pc := 47) (a := x0) dX3_spread_47 rfl ?_
        replace hf := bd_s hf; obtain ⟨v48, e48, hf⟩ := hf
        refine x_getR (pc := 48) dX3_spread_48 fl_3_24 e48 ?_
        refine x_iload_n (pc := 51) (x := x1) dX3_spread_51 rfl ?_
        refine x_bipush (pc := 52) (v := 15) dX3_spread_52 (by decide) ?_
        refine x_imul (pc := 54) dX3_spread_54 ?_
        refine x_iload (pc := 55) (x := x7) dX3_spread_55 rfl ?_
        refine x_iadd (pc := 57) dX3_spread_57 ?_
        replace hf := bd_s hf; obtain ⟨v58, e58, hf⟩ := hf
        refine x_ldI (pc := 58) dX3_spread_58 e58 ?_
        refine x_ior (pc := 59) dX3_spread_59 ?_
        refine x_istore (pc := 60) (ls' := [some (va_rf (x0)), some (.int (x1)), some (.int (x2)), some (.int (x3)), some (.int (x4)), some (.int (x5)), some (.int (x6 ||| v58)), some (.int (x7))]) dX3_spread_60 (by decide) rfl ?_
        refine x_iinc (pc := 62) (x := x7) (v := x7 + 1) (ls' := [some (va_rf (x0)), some (.int (x1)), some (.int (x2)), some (.int (x3)), some (.int (x4)), some (.int (x5)), some (.int (x6 ||| v58)), some (.int (x7 + 1))]) dX3_spread_62 rfl rfl (by decide) rfl ?_
        refine x_goto (pc := 65) (tgt := 28) dX3_spread_65 rfl ?_
        exact ih hf

def g_X3_spread_3 : Nat → AH → Option Nat → Int32 → Int32 → Int32 → Int32 → Option AH
  | 0, _, _, _, _, _, _ => none
  | n + 1, h, x0, x1, x2, x3, x4 =>
    if x2 < x4 then (
      some h
    ) else (
      bd (gR h x0 3 2) fun v10 =>
      bd (ldI h v10 ((x1 * 3) + x4)) fun v19 =>
      g_X3_spread_28 (fun h x0 x1 x2 x3 x4 => g_X3_spread_3  n h x0 x1 x2 x3 x4) NN h x0 x1 x2 x3 x4 v19 0 0
    )

set_option maxRecDepth 100000 in
set_option maxHeartbeats 4000000 in
theorem tg_X3_spread_3 {g : GT} : ∀ (n : Nat) {h : AH} {x0 : Option Nat} {x1 : Int32} {x2 : Int32} {x3 : Int32} {x4 : Int32} {h' : AH}, g_X3_spread_3 n h x0 x1 x2 x3 x4 = some h' → Xj g mX3_spread h 3 [some (va_rf (x0)), some (.int (x1)), some (.int (x2)), some (.int (x3)), some (.int (x4)), none, none, none] [] none h' := by
  intro n
  induction n with
  | zero =>
    intros
    rename_i z
    cases z
  | succ n ih =>
    intro h x0 x1 x2 x3 x4 h' hf
    rw [g_X3_spread_3] at hf
    refine x_iload (pc := 3) (x := x4) dX3_spread_3 rfl ?_
    refine x_iload_n (pc := 5) (x := x2) dX3_spread_5 rfl ?_
    refine x_icmp_gt (pc := 6) (tgt := 114) (x := x4) (y := x2) dX3_spread_6 rfl (fun hc => ?_) (fun hc => ?_)
    · replace hf := it_t hc hf
      obtain rfl := Option.some.inj hf
      exact x_vret (pc := 114) dX3_spread_114 rfl
    · replace hf := it_f hc hf
      refine x_aload_n (pc := 9) (a := x0) dX3_spread_9 rfl ?_
      replace hf := bd_s hf; obtain ⟨v10, e10, hf⟩ := hf
      refine x_getR (pc := 10) dX3_spread_10 fl_3_21 e10 ?_
      refine x_iload_n (pc := 13) (x := x1) dX3_spread_13 rfl ?_
      refine x_iconst (pc := 14) (v := 3) dX3_spread_14 (by decide) ?_
      refine x_imul (pc := 15) dX3_spread_15 ?_
      refine x_iload (pc := 16) (x := x4) dX3_spread_16 rfl ?_
      refine x_iadd (pc := 18) dX3_spread_18 ?_
      replace hf := bd_s hf; obtain ⟨v19, e19, hf⟩ := hf
      refine x_ldI (pc := 19) dX3_spread_19 e19 ?_
      refine x_istore (pc := 20) (ls' := [some (va_rf (x0)), some (.int (x1)), some (.int (x2)), some (.int (x3)), some (.int (x4)), some (.int (v19)), none, none]) dX3_spread_20 (by decide) rfl ?_
      refine x_iconst (pc := 22) (v := 0) dX3_spread_22 (by decide) ?_
      refine x_istore (pc := 23) (ls' := [some (va_rf (x0)), some (.int (x1)), some (.int (x2)), some (.int (x3)), some (.int (x4)), some (.int (v19)), some (.int (0)), none]) dX3_spread_23 (by decide) rfl ?_
      refine x_iconst (pc := 25) (v := 0) dX3_spread_25 (by decide) ?_
      refine x_istore (pc := 26) (ls' := [some (va_rf (x0)), some (.int (x1)), some (.int (x2)), some (.int (x3)), some (.int (x4)), some (.int (v19)), some (.int (0)), some (.int (0))]) dX3_spread_26 (by decide) rfl ?_
      exact tg_X3_spread_28 (fun _ _ _ _ _ _ _ z => ih z) NN hf

def f_X3_spread (h : AH) (x0 : Option Nat) (x1 : Int32) (x2 : Int32) (x3 : Int32) : Option AH :=
  g_X3_spread_3  NN h x0 x1 x2 x3 0

set_option maxRecDepth 100000 in
set_option maxHeartbeats 4000000 in
theorem tm_X3_spread {g : GT} {h : AH} {x0 : Option Nat} {x1 : Int32} {x2 : Int32} {x3 : Int32} {h' : AH} (hf : f_X3_spread h x0 x1 x2 x3 = some h') : Xm g mX3_spread [va_rf (x0), .int (x1), .int (x2), .int (x3)] h none h' := by
  refine xm_of mo_X3_spread (Nat.le_of_ble_eq_true rfl) (ls := [some (va_rf (x0)), some (.int (x1)), some (.int (x2)), some (.int (x3)), none, none, none, none]) rfl ?_
  rw [f_X3_spread] at hf
  refine x_iconst (pc := 0) (v := 0) dX3_spread_0 (by decide) ?_
  refine x_istore (pc := 1) (ls' := [some (va_rf (x0)), some (.int (x1)), some (.int (x2)), some (.int (x3)), some (.int (0)), none, none, none]) dX3_spread_1 (by decide) rfl ?_
  exact tg_X3_spread_3  NN hf

def j_X3_search_175 (h : AH) (x0 : Option Nat) : Option (Int32 × AH) :=
  bd (isO h x0 3) fun _ =>
  bd (f_X3_dropDeadEnds h x0) fun h176 =>
  bd (isO h176 x0 3) fun _ =>
  bd (f_X3_chooseCamps h176 x0) fun h180 =>
  bd (gI h180 x0 3 0) fun v184 =>
  if v184 ≤ 0 then (
    some (0, h180)
  ) else (
    some (1, h180)
  )

set_option maxRecDepth 100000 in
set_option maxHeartbeats 4000000 in
theorem tj_X3_search_175 {g : GT} {h : AH} {x0 : Option Nat} {r : Int32} {h' : AH} (hf : j_X3_search_175 h x0 = some (r, h')) : Xj g mX3_search h 175 [some (va_rf (x0)), none, none, none, none, none, none, none, none, none, none, none] [] (some (.int r)) h' := by
  rw [j_X3_search_175] at hf
  refine x_aload_n (pc := 175) (a := x0) dX3_search_175 rfl ?_
  replace hf := bd_s hf; obtain ⟨u176, i176, hf⟩ := hf
  replace hf := bd_s hf; obtain ⟨h176, e176, hf⟩ := hf
  refine x_cVv (pc := 176) (M' := mX3_dropDeadEnds) (as := []) (st := []) (a := x0) (ci := 3) dX3_search_176 mo_X3_dropDeadEnds lk_3_69 im_X3_dropDeadEnds se_X3_dropDeadEnds rfl ⟨Nat.le_of_ble_eq_true rfl, Nat.le_of_ble_eq_true rfl⟩ rfl (Nat.le_of_ble_eq_true rfl) rfl i176 (tm_X3_dropDeadEnds e176) ?_
  refine x_aload_n (pc := 179) (a := x0) dX3_search_179 rfl ?_
  replace hf := bd_s hf; obtain ⟨u180, i180, hf⟩ := hf
  replace hf := bd_s hf; obtain ⟨h180, e180, hf⟩ := hf
  refine x_cVv (pc := 180) (M' := mX3_chooseCamps) (as := []) (st := []) (a := x0) (ci := 3) dX3_search_180 mo_X3_chooseCamps lk_3_72 im_X3_chooseCamps se_X3_chooseCamps rfl ⟨Nat.le_of_ble_eq_true rfl, Nat.le_of_ble_eq_true rfl⟩ rfl (Nat.le_of_ble_eq_true rfl) rfl i180 (tm_X3_chooseCamps e180) ?_
  refine x_aload_n (pc := 183) (a := x0) dX3_search_183 rfl ?_
  replace hf := bd_s hf; obtain ⟨v184, e184, hf⟩ := hf
  refine x_getI (pc := 184) dX3_search_184 fl_3_13 e184 ?_
  refine x_if_le (pc := 187) (tgt := 194) (x := v184) dX3_search_187 rfl (fun hc => ?_) (fun hc => ?_)
  · replace hf := it_t hc hf
    refine x_iconst (pc := 194) (v := 0) dX3_search_194 (by decide) ?_
    obtain ⟨rfl, rfl⟩ := ret_s hf
    exact x_retz (pc := 195) dX3_search_195 rfl (by decide)
  · replace hf := it_f hc hf
    refine x_iconst (pc := 190) (v := 1) dX3_search_190 (by decide) ?_
    refine x_goto (pc := 191) (tgt := 195) dX3_search_191 rfl ?_
    obtain ⟨rfl, rfl⟩ := ret_s hf
    exact x_retz (pc := 195) dX3_search_195 rfl (by decide)

def g_X3_search_60 : Nat → AH → Option Nat → Option Nat → Option Nat → Int32 → Int32 → Int32 → Int32 → Int32 → Int32 → Int32 → Option (Int32 × AH)
  | 0, _, _, _, _, _, _, _, _, _, _, _ => none
  | n + 1, h, x0, x1, x2, x3, x4, x5, x6, x7, x8, x9 =>
    if x7 ≤ x9 then (
      j_X3_search_175  h x0
    ) else (
      bd (gI h x0 3 0) fun v68 =>
      if ¬ v68 = 0 then (
        j_X3_search_175  h x0
      ) else (
        bd (isO h x0 3) fun _ =>
        bd2 (f_X3_placesAhead h x0 x9) fun v77 h77 =>
        if v77 = 0 then (
          j_X3_search_175  h77 x0
        ) else (
          bd (isO h77 x1 4) fun _ =>
          bd2 (f_X4_closedRapids h77 x1 (x5 + x9) x4) fun v91 h91 =>
          bd (isO h91 x0 3) fun _ =>
          bd (f_X3_findEnders h91 x0 x1 x9 x6 v91) fun h104 =>
          bd (gI h104 x0 3 4) fun v108 =>
          if v108 = 0 then (
            bd (isO h104 x2 6) fun _ =>
            bd2 (f_X6_takenFrom h104 x2 x3 (x5 + x9)) fun v134 h134 =>
            bd (isO h134 x0 3) fun _ =>
            bd (f_X3_findLeads h134 x0 x1 x9 x6 v91 (x8 &&& (v134 ^^^ (-1)))) fun h152 =>
            bd (isO h152 x2 6) fun _ =>
            bd2 (f_X6_read h152 x2 x3 4) fun v161 h161 =>
            bd (isO h161 x0 3) fun _ =>
            bd (f_X3_spread h161 x0 x9 v161 (x8 &&& (v134 ^^^ (-1)))) fun h166 =>
            g_X3_search_60  n h166 x0 x1 x2 x3 x4 x5 x6 x7 x8 (x9 + 1)
          ) else (
            bd (pI h104 x0 3 0 (x9 + 1)) fun h119 =>
            g_X3_search_60  n h119 x0 x1 x2 x3 x4 x5 x6 x7 x8 (x9 + 1)
          )
        )
      )
    )

set_option maxRecDepth 100000 in
set_option maxHeartbeats 4000000 in
theorem tg_X3_search_60 {g : GT} : ∀ (n : Nat) {h : AH} {x0 : Option Nat} {x1 : Option Nat} {x2 : Option Nat} {x3 : Int32} {x4 : Int32} {x5 : Int32} {x6 : Int32} {x7 : Int32} {x8 : Int32} {x9 : Int32} {r : Int32} {h' : AH}, g_X3_search_60 n h x0 x1 x2 x3 x4 x5 x6 x7 x8 x9 = some (r, h') → Xj g mX3_search h 60 [some (va_rf (x0)), some (va_rf (x1)), some (va_rf (x2)), some (.int (x3)), some (.int (x4)), some (.int (x5)), some (.int (x6)), some (.int (x7)), some (.int (x8)), some (.int (x9)), none, none] [] (some (.int r)) h' := by
  intro n
  induction n with
  | zero =>
    intros
    rename_i z
    cases z
  | succ n ih =>
    intro h x0 x1 x2 x3 x4 x5 x6 x7 x8 x9 r h' hf
    rw [g_X3_search_60] at hf
    refine x_iload (pc := 60) (x := x9) dX3_search_60 rfl ?_
    refine x_iload (pc := 62) (x := x7) dX3_search_62 rfl ?_
    refine x_icmp_ge (pc := 64) (tgt := 175) (x := x9) (y := x7) dX3_search_64 rfl (fun hc => ?_) (fun hc => ?_)
    · replace hf := it_t hc hf
      refine x_mask [true, false, false, false, false, false, false, false, false, false, false, false] rfl ?_
      exact tj_X3_search_175  hf
    · replace hf := it_f hc hf
      refine x_aload_n (pc := 67) (a := x0) dX3_search_67 rfl ?_
      replace hf := bd_s hf; obtain ⟨v68, e68, hf⟩ := hf
      refine x_getI (pc := 68) dX3_search_68 fl_3_13 e68 ?_
      refine x_if_ne (pc := 71) (tgt := 175) (x := v68) dX3_search_71 rfl (fun hc => ?_) (fun hc => ?_)
      · replace hf := it_t hc hf
        refine x_mask [true, false, false, false, false, false, false, false, false, false, false, false] rfl ?_
        exact tj_X3_search_175  hf
      · replace hf := it_n hc hf
        refine x_aload_n (pc := 74) (a := x0) dX3_search_74 rfl ?_
        refine x_iload (pc := 75) (x := x9) dX3_search_75 rfl ?_
        replace hf := bd_s hf; obtain ⟨u77, i77, hf⟩ := hf
        replace hf := bd2_s hf; obtain ⟨v77, h77, e77, hf⟩ := hf
        refine x_cVi (pc := 77) (M' := mX3_placesAhead) (as := [.int (x9)]) (st := []) (a := x0) (ci := 3) dX3_search_77 mo_X3_placesAhead lk_3_48 im_X3_placesAhead se_X3_placesAhead rfl ⟨Nat.le_of_ble_eq_true rfl, Nat.le_of_ble_eq_true rfl⟩ rfl (Nat.le_of_ble_eq_true rfl) rfl i77 (tm_X3_placesAhead e77) ?_
        refine x_if_eq (pc := 80) (tgt := 175) (x := v77) dX3_search_80 rfl (fun hc => ?_) (fun hc => ?_)
        · replace hf := it_t hc hf
          refine x_mask [true, false, false, false, false, false, false, false, false, false, false, false] rfl ?_
          exact tj_X3_search_175  hf
        · replace hf := it_f hc hf
          refine x_aload_n (pc := 83) (a := x1) dX3_search_83 rfl ?_
          refine x_iload (pc := 84) (x := x5) dX3_search_84 rfl ?_
          refine x_iload (pc := 86) (x := x9) dX3_search_86 rfl ?_
          refine x_iadd (pc := 88) dX3_search_88 ?_
          refine x_iload (pc := 89) (x := x4) dX3_search_89 rfl ?_
          replace hf := bd_s hf; obtain ⟨u91, i91, hf⟩ := hf
          replace hf := bd2_s hf; obtain ⟨v91, h91, e91, hf⟩ := hf
          refine x_cVi (pc := 91) (M' := mX4_closedRapids) (as := [.int (x5 + x9), .int (x4)]) (st := []) (a := x1) (ci := 4) dX3_search_91 mo_X4_closedRapids lk_3_51 im_X4_closedRapids se_X4_closedRapids rfl ⟨Nat.le_of_ble_eq_true rfl, Nat.le_of_ble_eq_true rfl⟩ rfl (Nat.le_of_ble_eq_true rfl) rfl i91 (tm_X4_closedRapids e91) ?_
          refine x_istore (pc := 94) (ls' := [some (va_rf (x0)), some (va_rf (x1)), some (va_rf (x2)), some (.int (x3)), some (.int (x4)), some (.int (x5)), some (.int (x6)), some (.int (x7)), some (.int (x8)), some (.int (x9)), some (.int (v91)), none]) dX3_search_94 (by decide) rfl ?_
          refine x_aload_n (pc := 96) (a := x0) dX3_search_96 rfl ?_
          refine x_aload_n (pc := 97) (a := x1) dX3_search_97 rfl ?_
          refine x_iload (pc := 98) (x := x9) dX3_search_98 rfl ?_
          refine x_iload (pc := 100) (x := x6) dX3_search_100 rfl ?_
          refine x_iload (pc := 102) (x := v91) dX3_search_102 rfl ?_
          replace hf := bd_s hf; obtain ⟨u104, i104, hf⟩ := hf
          replace hf := bd_s hf; obtain ⟨h104, e104, hf⟩ := hf
          refine x_cVv (pc := 104) (M' := mX3_findEnders) (as := [va_rf (x1), .int (x9), .int (x6), .int (v91)]) (st := []) (a := x0) (ci := 3) dX3_search_104 mo_X3_findEnders lk_3_54 im_X3_findEnders se_X3_findEnders rfl ⟨Nat.le_of_ble_eq_true rfl, Nat.le_of_ble_eq_true rfl⟩ rfl (Nat.le_of_ble_eq_true rfl) rfl i104 (tm_X3_findEnders e104) ?_
          refine x_aload_n (pc := 107) (a := x0) dX3_search_107 rfl ?_
          replace hf := bd_s hf; obtain ⟨v108, e108, hf⟩ := hf
          refine x_getI (pc := 108) dX3_search_108 fl_3_27 e108 ?_
          refine x_if_eq (pc := 111) (tgt := 125) (x := v108) dX3_search_111 rfl (fun hc => ?_) (fun hc => ?_)
          · replace hf := it_t hc hf
            refine x_iload (pc := 125) (x := x8) dX3_search_125 rfl ?_
            refine x_aload_n (pc := 127) (a := x2) dX3_search_127 rfl ?_
            refine x_iload_n (pc := 128) (x := x3) dX3_search_128 rfl ?_
            refine x_iload (pc := 129) (x := x5) dX3_search_129 rfl ?_
            refine x_iload (pc := 131) (x := x9) dX3_search_131 rfl ?_
            refine x_iadd (pc := 133) dX3_search_133 ?_
            replace hf := bd_s hf; obtain ⟨u134, i134, hf⟩ := hf
            replace hf := bd2_s hf; obtain ⟨v134, h134, e134, hf⟩ := hf
            refine x_cVi (pc := 134) (M' := mX6_takenFrom) (as := [.int (x3), .int (x5 + x9)]) (st := [.int (x8)]) (a := x2) (ci := 6) dX3_search_134 mo_X6_takenFrom lk_3_58 im_X6_takenFrom se_X6_takenFrom rfl ⟨Nat.le_of_ble_eq_true rfl, Nat.le_of_ble_eq_true rfl⟩ rfl (Nat.le_of_ble_eq_true rfl) rfl i134 (tm_X6_takenFrom e134) ?_
            refine x_iconst (pc := 137) (v := -1) dX3_search_137 (by decide) ?_
            refine x_ixor (pc := 138) dX3_search_138 ?_
            refine x_iand (pc := 139) dX3_search_139 ?_
            refine x_istore (pc := 140) (ls' := [some (va_rf (x0)), some (va_rf (x1)), some (va_rf (x2)), some (.int (x3)), some (.int (x4)), some (.int (x5)), some (.int (x6)), some (.int (x7)), some (.int (x8)), some (.int (x9)), some (.int (v91)), some (.int (x8 &&& (v134 ^^^ (-1))))]) dX3_search_140 (by decide) rfl ?_
            refine x_aload_n (pc := 142) (a := x0) dX3_search_142 rfl ?_
            refine x_aload_n (pc := 143) (a := x1) dX3_search_143 rfl ?_
            refine x_iload (pc := 144) (x := x9) dX3_search_144 rfl ?_
            refine x_iload (pc := 146) (x := x6) dX3_search_146 rfl ?_
            refine x_iload (pc := 148) (x := v91) dX3_search_148 rfl ?_
            refine x_iload (pc := 150) (x := x8 &&& (v134 ^^^ (-1))) dX3_search_150 rfl ?_
            replace hf := bd_s hf; obtain ⟨u152, i152, hf⟩ := hf
            replace hf := bd_s hf; obtain ⟨h152, e152, hf⟩ := hf
            refine x_cVv (pc := 152) (M' := mX3_findLeads) (as := [va_rf (x1), .int (x9), .int (x6), .int (v91), .int (x8 &&& (v134 ^^^ (-1)))]) (st := []) (a := x0) (ci := 3) dX3_search_152 mo_X3_findLeads lk_3_61 im_X3_findLeads se_X3_findLeads rfl ⟨Nat.le_of_ble_eq_true rfl, Nat.le_of_ble_eq_true rfl⟩ rfl (Nat.le_of_ble_eq_true rfl) rfl i152 (tm_X3_findLeads e152) ?_
            refine x_aload_n (pc := 155) (a := x0) dX3_search_155 rfl ?_
            refine x_iload (pc := 156) (x := x9) dX3_search_156 rfl ?_
            refine x_aload_n (pc := 158) (a := x2) dX3_search_158 rfl ?_
            refine x_iload_n (pc := 159) (x := x3) dX3_search_159 rfl ?_
            refine x_iconst (pc := 160) (v := 4) dX3_search_160 (by decide) ?_
            replace hf := bd_s hf; obtain ⟨u161, i161, hf⟩ := hf
            replace hf := bd2_s hf; obtain ⟨v161, h161, e161, hf⟩ := hf
            refine x_cVi (pc := 161) (M' := mX6_read) (as := [.int (x3), .int (4)]) (st := [.int (x9), va_rf (x0)]) (a := x2) (ci := 6) dX3_search_161 mo_X6_read lk_3_32 im_X6_read se_X6_read rfl ⟨Nat.le_of_ble_eq_true rfl, Nat.le_of_ble_eq_true rfl⟩ rfl (Nat.le_of_ble_eq_true rfl) rfl i161 (tm_X6_read e161) ?_
            refine x_iload (pc := 164) (x := x8 &&& (v134 ^^^ (-1))) dX3_search_164 rfl ?_
            replace hf := bd_s hf; obtain ⟨u166, i166, hf⟩ := hf
            replace hf := bd_s hf; obtain ⟨h166, e166, hf⟩ := hf
            refine x_cVv (pc := 166) (M' := mX3_spread) (as := [.int (x9), .int (v161), .int (x8 &&& (v134 ^^^ (-1)))]) (st := []) (a := x0) (ci := 3) dX3_search_166 mo_X3_spread lk_3_65 im_X3_spread se_X3_spread rfl ⟨Nat.le_of_ble_eq_true rfl, Nat.le_of_ble_eq_true rfl⟩ rfl (Nat.le_of_ble_eq_true rfl) rfl i166 (tm_X3_spread e166) ?_
            refine x_iinc (pc := 169) (x := x9) (v := x9 + 1) (ls' := [some (va_rf (x0)), some (va_rf (x1)), some (va_rf (x2)), some (.int (x3)), some (.int (x4)), some (.int (x5)), some (.int (x6)), some (.int (x7)), some (.int (x8)), some (.int (x9 + 1)), some (.int (v91)), some (.int (x8 &&& (v134 ^^^ (-1))))]) dX3_search_169 rfl rfl (by decide) rfl ?_
            refine x_goto (pc := 172) (tgt := 60) dX3_search_172 rfl ?_
            refine x_mask [true, true, true, true, true, true, true, true, true, true, false, false] rfl ?_
            exact ih hf
          · replace hf := it_f hc hf
            refine x_aload_n (pc := 114) (a := x0) dX3_search_114 rfl ?_
            refine x_iload (pc := 115) (x := x9) dX3_search_115 rfl ?_
            refine x_iconst (pc := 117) (v := 1) dX3_search_117 (by decide) ?_
            refine x_iadd (pc := 118) dX3_search_118 ?_
            replace hf := bd_s hf; obtain ⟨h119, e119, hf⟩ := hf
            refine x_putI (pc := 119) dX3_search_119 fl_3_13 (fW_no rfl) e119 ?_
            refine x_goto (pc := 122) (tgt := 169) dX3_search_122 rfl ?_
            refine x_iinc (pc := 169) (x := x9) (v := x9 + 1) (ls' := [some (va_rf (x0)), some (va_rf (x1)), some (va_rf (x2)), some (.int (x3)), some (.int (x4)), some (.int (x5)), some (.int (x6)), some (.int (x7)), some (.int (x8)), some (.int (x9 + 1)), some (.int (v91)), none]) dX3_search_169 rfl rfl (by decide) rfl ?_
            refine x_goto (pc := 172) (tgt := 60) dX3_search_172 rfl ?_
            refine x_mask [true, true, true, true, true, true, true, true, true, true, false, false] rfl ?_
            exact ih hf

def f_X3_search (h : AH) (x0 : Option Nat) (x1 : Option Nat) (x2 : Option Nat) (x3 : Int32) : Option (Int32 × AH) :=
  bd (isO h x2 6) fun _ =>
  bd2 (f_X6_read h x2 x3 0) fun v3 h3 =>
  bd (isO h3 x2 6) fun _ =>
  bd2 (f_X6_read h3 x2 x3 1) fun v11 h11 =>
  bd (isO h11 x2 6) fun _ =>
  bd2 (f_X6_read h11 x2 x3 2) fun v19 h19 =>
  bd (isO h19 x2 6) fun _ =>
  bd2 (f_X6_read h19 x2 x3 3) fun v27 h27 =>
  bd (isO h27 x1 4) fun _ =>
  bd2 (f_X4_campsFor h27 x1 v3) fun v43 h43 =>
  bd (pI h43 x0 3 0 0) fun h50 =>
  bd (isO h50 x0 3) fun _ =>
  bd (f_X3_startAhead h50 x0) fun h54 =>
  g_X3_search_60  NN h54 x0 x1 x2 x3 v3 v11 v19 (if (30 - v11) < v27 then (30 - v11) else v27) v43 0

set_option maxRecDepth 100000 in
set_option maxHeartbeats 4000000 in
theorem tm_X3_search {g : GT} {h : AH} {x0 : Option Nat} {x1 : Option Nat} {x2 : Option Nat} {x3 : Int32} {r : Int32} {h' : AH} (hf : f_X3_search h x0 x1 x2 x3 = some (r, h')) : Xm g mX3_search [va_rf (x0), va_rf (x1), va_rf (x2), .int (x3)] h (some (.int r)) h' := by
  refine xm_of mo_X3_search (Nat.le_of_ble_eq_true rfl) (ls := [some (va_rf (x0)), some (va_rf (x1)), some (va_rf (x2)), some (.int (x3)), none, none, none, none, none, none, none, none]) rfl ?_
  rw [f_X3_search] at hf
  refine x_aload_n (pc := 0) (a := x2) dX3_search_0 rfl ?_
  refine x_iload_n (pc := 1) (x := x3) dX3_search_1 rfl ?_
  refine x_iconst (pc := 2) (v := 0) dX3_search_2 (by decide) ?_
  replace hf := bd_s hf; obtain ⟨u3, i3, hf⟩ := hf
  replace hf := bd2_s hf; obtain ⟨v3, h3, e3, hf⟩ := hf
  refine x_cVi (pc := 3) (M' := mX6_read) (as := [.int (x3), .int (0)]) (st := []) (a := x2) (ci := 6) dX3_search_3 mo_X6_read lk_3_32 im_X6_read se_X6_read rfl ⟨Nat.le_of_ble_eq_true rfl, Nat.le_of_ble_eq_true rfl⟩ rfl (Nat.le_of_ble_eq_true rfl) rfl i3 (tm_X6_read e3) ?_
  refine x_istore (pc := 6) (ls' := [some (va_rf (x0)), some (va_rf (x1)), some (va_rf (x2)), some (.int (x3)), some (.int (v3)), none, none, none, none, none, none, none]) dX3_search_6 (by decide) rfl ?_
  refine x_aload_n (pc := 8) (a := x2) dX3_search_8 rfl ?_
  refine x_iload_n (pc := 9) (x := x3) dX3_search_9 rfl ?_
  refine x_iconst (pc := 10) (v := 1) dX3_search_10 (by decide) ?_
  replace hf := bd_s hf; obtain ⟨u11, i11, hf⟩ := hf
  replace hf := bd2_s hf; obtain ⟨v11, h11, e11, hf⟩ := hf
  refine x_cVi (pc := 11) (M' := mX6_read) (as := [.int (x3), .int (1)]) (st := []) (a := x2) (ci := 6) dX3_search_11 mo_X6_read lk_3_32 im_X6_read se_X6_read rfl ⟨Nat.le_of_ble_eq_true rfl, Nat.le_of_ble_eq_true rfl⟩ rfl (Nat.le_of_ble_eq_true rfl) rfl i11 (tm_X6_read e11) ?_
  refine x_istore (pc := 14) (ls' := [some (va_rf (x0)), some (va_rf (x1)), some (va_rf (x2)), some (.int (x3)), some (.int (v3)), some (.int (v11)), none, none, none, none, none, none]) dX3_search_14 (by decide) rfl ?_
  refine x_aload_n (pc := 16) (a := x2) dX3_search_16 rfl ?_
  refine x_iload_n (pc := 17) (x := x3) dX3_search_17 rfl ?_
  refine x_iconst (pc := 18) (v := 2) dX3_search_18 (by decide) ?_
  replace hf := bd_s hf; obtain ⟨u19, i19, hf⟩ := hf
  replace hf := bd2_s hf; obtain ⟨v19, h19, e19, hf⟩ := hf
  refine x_cVi (pc := 19) (M' := mX6_read) (as := [.int (x3), .int (2)]) (st := []) (a := x2) (ci := 6) dX3_search_19 mo_X6_read lk_3_32 im_X6_read se_X6_read rfl ⟨Nat.le_of_ble_eq_true rfl, Nat.le_of_ble_eq_true rfl⟩ rfl (Nat.le_of_ble_eq_true rfl) rfl i19 (tm_X6_read e19) ?_
  refine x_istore (pc := 22) (ls' := [some (va_rf (x0)), some (va_rf (x1)), some (va_rf (x2)), some (.int (x3)), some (.int (v3)), some (.int (v11)), some (.int (v19)), none, none, none, none, none]) dX3_search_22 (by decide) rfl ?_
  refine x_aload_n (pc := 24) (a := x2) dX3_search_24 rfl ?_
  refine x_iload_n (pc := 25) (x := x3) dX3_search_25 rfl ?_
  refine x_iconst (pc := 26) (v := 3) dX3_search_26 (by decide) ?_
  replace hf := bd_s hf; obtain ⟨u27, i27, hf⟩ := hf
  replace hf := bd2_s hf; obtain ⟨v27, h27, e27, hf⟩ := hf
  refine x_cVi (pc := 27) (M' := mX6_read) (as := [.int (x3), .int (3)]) (st := []) (a := x2) (ci := 6) dX3_search_27 mo_X6_read lk_3_32 im_X6_read se_X6_read rfl ⟨Nat.le_of_ble_eq_true rfl, Nat.le_of_ble_eq_true rfl⟩ rfl (Nat.le_of_ble_eq_true rfl) rfl i27 (tm_X6_read e27) ?_
  refine x_bipush (pc := 30) (v := 30) dX3_search_30 (by decide) ?_
  refine x_iload (pc := 32) (x := v11) dX3_search_32 rfl ?_
  refine x_isub (pc := 34) dX3_search_34 ?_
  refine x_min (pc := 35) dX3_search_35 lm_3_36 ma_min_1 ma_0 ma_min_2 (Nat.le_of_ble_eq_true rfl) (Nat.le_of_ble_eq_true rfl) ?_
  refine x_istore (pc := 38) (ls' := [some (va_rf (x0)), some (va_rf (x1)), some (va_rf (x2)), some (.int (x3)), some (.int (v3)), some (.int (v11)), some (.int (v19)), some (.int ((if (30 - v11) < v27 then (30 - v11) else v27))), none, none, none, none]) dX3_search_38 (by decide) rfl ?_
  refine x_aload_n (pc := 40) (a := x1) dX3_search_40 rfl ?_
  refine x_iload (pc := 41) (x := v3) dX3_search_41 rfl ?_
  replace hf := bd_s hf; obtain ⟨u43, i43, hf⟩ := hf
  replace hf := bd2_s hf; obtain ⟨v43, h43, e43, hf⟩ := hf
  refine x_cVi (pc := 43) (M' := mX4_campsFor) (as := [.int (v3)]) (st := []) (a := x1) (ci := 4) dX3_search_43 mo_X4_campsFor lk_3_41 im_X4_campsFor se_X4_campsFor rfl ⟨Nat.le_of_ble_eq_true rfl, Nat.le_of_ble_eq_true rfl⟩ rfl (Nat.le_of_ble_eq_true rfl) rfl i43 (tm_X4_campsFor e43) ?_
  refine x_istore (pc := 46) (ls' := [some (va_rf (x0)), some (va_rf (x1)), some (va_rf (x2)), some (.int (x3)), some (.int (v3)), some (.int (v11)), some (.int (v19)), some (.int ((if (30 - v11) < v27 then (30 - v11) else v27))), some (.int (v43)), none, none, none]) dX3_search_46 (by decide) rfl ?_
  refine x_aload_n (pc := 48) (a := x0) dX3_search_48 rfl ?_
  refine x_iconst (pc := 49) (v := 0) dX3_search_49 (by decide) ?_
  replace hf := bd_s hf; obtain ⟨h50, e50, hf⟩ := hf
  refine x_putI (pc := 50) dX3_search_50 fl_3_13 (fW_no rfl) e50 ?_
  refine x_aload_n (pc := 53) (a := x0) dX3_search_53 rfl ?_
  replace hf := bd_s hf; obtain ⟨u54, i54, hf⟩ := hf
  replace hf := bd_s hf; obtain ⟨h54, e54, hf⟩ := hf
  refine x_cVv (pc := 54) (M' := mX3_startAhead) (as := []) (st := []) (a := x0) (ci := 3) dX3_search_54 mo_X3_startAhead lk_3_45 im_X3_startAhead se_X3_startAhead rfl ⟨Nat.le_of_ble_eq_true rfl, Nat.le_of_ble_eq_true rfl⟩ rfl (Nat.le_of_ble_eq_true rfl) rfl i54 (tm_X3_startAhead e54) ?_
  refine x_iconst (pc := 57) (v := 0) dX3_search_57 (by decide) ?_
  refine x_istore (pc := 58) (ls' := [some (va_rf (x0)), some (va_rf (x1)), some (va_rf (x2)), some (.int (x3)), some (.int (v3)), some (.int (v11)), some (.int (v19)), some (.int ((if (30 - v11) < v27 then (30 - v11) else v27))), some (.int (v43)), some (.int (0)), none, none]) dX3_search_58 (by decide) rfl ?_
  exact tg_X3_search_60  NN hf

def g_X3_writeNights_15 : Nat → AH → Option Nat → Option Nat → Int32 → Int32 → Int32 → Option AH
  | 0, _, _, _, _, _, _ => none
  | n + 1, h, x0, x1, x2, x3, x4 =>
    bd (gI h x0 3 0) fun v18 =>
    if (v18 - 1) ≤ x4 then (
      some h
    ) else (
      bd (gR h x0 3 1) fun v35 =>
      bd (ldI h v35 x4) fun v40 =>
      bd (isO h x1 6) fun _ =>
      bd (f_X6_write h x1 x2 ((5 + x3) + x4) v40) fun h41 =>
      g_X3_writeNights_15  n h41 x0 x1 x2 x3 (x4 + 1)
    )

set_option maxRecDepth 100000 in
set_option maxHeartbeats 4000000 in
theorem tg_X3_writeNights_15 {g : GT} : ∀ (n : Nat) {h : AH} {x0 : Option Nat} {x1 : Option Nat} {x2 : Int32} {x3 : Int32} {x4 : Int32} {h' : AH}, g_X3_writeNights_15 n h x0 x1 x2 x3 x4 = some h' → Xj g mX3_writeNights h 15 [some (va_rf (x0)), some (va_rf (x1)), some (.int (x2)), some (.int (x3)), some (.int (x4))] [] none h' := by
  intro n
  induction n with
  | zero =>
    intros
    rename_i z
    cases z
  | succ n ih =>
    intro h x0 x1 x2 x3 x4 h' hf
    rw [g_X3_writeNights_15] at hf
    refine x_iload (pc := 15) (x := x4) dX3_writeNights_15 rfl ?_
    refine x_aload_n (pc := 17) (a := x0) dX3_writeNights_17 rfl ?_
    replace hf := bd_s hf; obtain ⟨v18, e18, hf⟩ := hf
    refine x_getI (pc := 18) dX3_writeNights_18 fl_3_13 e18 ?_
    refine x_iconst (pc := 21) (v := 1) dX3_writeNights_21 (by decide) ?_
    refine x_isub (pc := 22) dX3_writeNights_22 ?_
    refine x_icmp_ge (pc := 23) (tgt := 50) (x := x4) (y := (v18 - 1)) dX3_writeNights_23 rfl (fun hc => ?_) (fun hc => ?_)
    · replace hf := it_t hc hf
      obtain rfl := Option.some.inj hf
      exact x_vret (pc := 50) dX3_writeNights_50 rfl
    · replace hf := it_f hc hf
      refine x_aload_n (pc := 26) (a := x1) dX3_writeNights_26 rfl ?_
      refine x_iload_n (pc := 27) (x := x2) dX3_writeNights_27 rfl ?_
      refine x_iconst (pc := 28) (v := 5) dX3_writeNights_28 (by decide) ?_
      refine x_iload_n (pc := 29) (x := x3) dX3_writeNights_29 rfl ?_
      refine x_iadd (pc := 30) dX3_writeNights_30 ?_
      refine x_iload (pc := 31) (x := x4) dX3_writeNights_31 rfl ?_
      refine x_iadd (pc := 33) dX3_writeNights_33 ?_
      refine x_aload_n (pc := 34) (a := x0) dX3_writeNights_34 rfl ?_
      replace hf := bd_s hf; obtain ⟨v35, e35, hf⟩ := hf
      refine x_getR (pc := 35) dX3_writeNights_35 fl_3_17 e35 ?_
      refine x_iload (pc := 38) (x := x4) dX3_writeNights_38 rfl ?_
      replace hf := bd_s hf; obtain ⟨v40, e40, hf⟩ := hf
      refine x_ldI (pc := 40) dX3_writeNights_40 e40 ?_
      replace hf := bd_s hf; obtain ⟨u41, i41, hf⟩ := hf
      replace hf := bd_s hf; obtain ⟨h41, e41, hf⟩ := hf
      refine x_cVv (pc := 41) (M' := mX6_write) (as := [.int (x2), .int ((5 + x3) + x4), .int (v40)]) (st := []) (a := x1) (ci := 6) dX3_writeNights_41 mo_X6_write lk_3_79 im_X6_write se_X6_write rfl ⟨Nat.le_of_ble_eq_true rfl, Nat.le_of_ble_eq_true rfl⟩ rfl (Nat.le_of_ble_eq_true rfl) rfl i41 (tm_X6_write e41) ?_
      refine x_iinc (pc := 44) (x := x4) (v := x4 + 1) (ls' := [some (va_rf (x0)), some (va_rf (x1)), some (.int (x2)), some (.int (x3)), some (.int (x4 + 1))]) dX3_writeNights_44 rfl rfl (by decide) rfl ?_
      refine x_goto (pc := 47) (tgt := 15) dX3_writeNights_47 rfl ?_
      exact ih hf

def f_X3_writeNights (h : AH) (x0 : Option Nat) (x1 : Option Nat) (x2 : Int32) : Option AH :=
  bd (isO h x1 6) fun _ =>
  bd2 (f_X6_read h x1 x2 1) fun v3 h3 =>
  bd (isO h3 x1 6) fun _ =>
  bd (f_X6_clearNights h3 x1 x2) fun h9 =>
  g_X3_writeNights_15  NN h9 x0 x1 x2 v3 0

set_option maxRecDepth 100000 in
set_option maxHeartbeats 4000000 in
theorem tm_X3_writeNights {g : GT} {h : AH} {x0 : Option Nat} {x1 : Option Nat} {x2 : Int32} {h' : AH} (hf : f_X3_writeNights h x0 x1 x2 = some h') : Xm g mX3_writeNights [va_rf (x0), va_rf (x1), .int (x2)] h none h' := by
  refine xm_of mo_X3_writeNights (Nat.le_of_ble_eq_true rfl) (ls := [some (va_rf (x0)), some (va_rf (x1)), some (.int (x2)), none, none]) rfl ?_
  rw [f_X3_writeNights] at hf
  refine x_aload_n (pc := 0) (a := x1) dX3_writeNights_0 rfl ?_
  refine x_iload_n (pc := 1) (x := x2) dX3_writeNights_1 rfl ?_
  refine x_iconst (pc := 2) (v := 1) dX3_writeNights_2 (by decide) ?_
  replace hf := bd_s hf; obtain ⟨u3, i3, hf⟩ := hf
  replace hf := bd2_s hf; obtain ⟨v3, h3, e3, hf⟩ := hf
  refine x_cVi (pc := 3) (M' := mX6_read) (as := [.int (x2), .int (1)]) (st := []) (a := x1) (ci := 6) dX3_writeNights_3 mo_X6_read lk_3_32 im_X6_read se_X6_read rfl ⟨Nat.le_of_ble_eq_true rfl, Nat.le_of_ble_eq_true rfl⟩ rfl (Nat.le_of_ble_eq_true rfl) rfl i3 (tm_X6_read e3) ?_
  refine x_istore_n (pc := 6) (ls' := [some (va_rf (x0)), some (va_rf (x1)), some (.int (x2)), some (.int (v3)), none]) dX3_writeNights_6 (by decide) rfl ?_
  refine x_aload_n (pc := 7) (a := x1) dX3_writeNights_7 rfl ?_
  refine x_iload_n (pc := 8) (x := x2) dX3_writeNights_8 rfl ?_
  replace hf := bd_s hf; obtain ⟨u9, i9, hf⟩ := hf
  replace hf := bd_s hf; obtain ⟨h9, e9, hf⟩ := hf
  refine x_cVv (pc := 9) (M' := mX6_clearNights) (as := [.int (x2)]) (st := []) (a := x1) (ci := 6) dX3_writeNights_9 mo_X6_clearNights lk_3_75 im_X6_clearNights se_X6_clearNights rfl ⟨Nat.le_of_ble_eq_true rfl, Nat.le_of_ble_eq_true rfl⟩ rfl (Nat.le_of_ble_eq_true rfl) rfl i9 (tm_X6_clearNights e9) ?_
  refine x_iconst (pc := 12) (v := 0) dX3_writeNights_12 (by decide) ?_
  refine x_istore (pc := 13) (ls' := [some (va_rf (x0)), some (va_rf (x1)), some (.int (x2)), some (.int (v3)), some (.int (0))]) dX3_writeNights_13 (by decide) rfl ?_
  exact tg_X3_writeNights_15  NN hf

def g_X3_schedule_39 : Nat → AH → Option Nat → Option Nat → Option Nat → Int32 → Int32 → Int32 → Option (Int32 × AH)
  | 0, _, _, _, _, _, _, _ => none
  | n + 1, h, x0, x1, x2, x3, x4, x5 =>
    bd (isO h x2 6) fun _ =>
    bd2 (f_X6_size h x2) fun v42 h42 =>
    if v42 ≤ x5 then (
      some (x4, h42)
    ) else (
      bd2 (f_X7_holds h42 x3 x5) fun v51 h51 =>
      if v51 = 0 then (
        g_X3_schedule_39  n h51 x0 x1 x2 x3 x4 (x5 + 1)
      ) else (
        bd (isO h51 x0 3) fun _ =>
        bd2 (f_X3_search h51 x0 x1 x2 x5) fun v62 h62 =>
        if v62 = 0 then (
          g_X3_schedule_39  n h62 x0 x1 x2 x3 x4 (x5 + 1)
        ) else (
          bd (isO h62 x0 3) fun _ =>
          bd (f_X3_writeNights h62 x0 x2 x5) fun h72 =>
          g_X3_schedule_39  n h72 x0 x1 x2 x3 (x4 + 1) (x5 + 1)
        )
      )
    )

set_option maxRecDepth 100000 in
set_option maxHeartbeats 4000000 in
theorem tg_X3_schedule_39 {g : GT} : ∀ (n : Nat) {h : AH} {x0 : Option Nat} {x1 : Option Nat} {x2 : Option Nat} {x3 : Int32} {x4 : Int32} {x5 : Int32} {r : Int32} {h' : AH}, g_X3_schedule_39 n h x0 x1 x2 x3 x4 x5 = some (r, h') → Xj g mX3_schedule h 39 [some (va_rf (x0)), some (va_rf (x1)), some (va_rf (x2)), some (.int (x3)), some (.int (x4)), some (.int (x5))] [] (some (.int r)) h' := by
  intro n
  induction n with
  | zero =>
    intros
    rename_i z
    cases z
  | succ n ih =>
    intro h x0 x1 x2 x3 x4 x5 r h' hf
    rw [g_X3_schedule_39] at hf
    refine x_iload (pc := 39) (x := x5) dX3_schedule_39 rfl ?_
    refine x_aload_n (pc := 41) (a := x2) dX3_schedule_41 rfl ?_
    replace hf := bd_s hf; obtain ⟨u42, i42, hf⟩ := hf
    replace hf := bd2_s hf; obtain ⟨v42, h42, e42, hf⟩ := hf
    refine x_cVi (pc := 42) (M' := mX6_size) (as := []) (st := [.int (x5)]) (a := x2) (ci := 6) dX3_schedule_42 mo_X6_size lk_3_82 im_X6_size se_X6_size rfl ⟨Nat.le_of_ble_eq_true rfl, Nat.le_of_ble_eq_true rfl⟩ rfl (Nat.le_of_ble_eq_true rfl) rfl i42 (tm_X6_size e42) ?_
    refine x_icmp_ge (pc := 45) (tgt := 84) (x := x5) (y := v42) dX3_schedule_45 rfl (fun hc => ?_) (fun hc => ?_)
    · replace hf := it_t hc hf
      refine x_iload (pc := 84) (x := x4) dX3_schedule_84 rfl ?_
      obtain ⟨rfl, rfl⟩ := ret_s hf
      exact x_reti (pc := 86) dX3_schedule_86 rfl
    · replace hf := it_f hc hf
      refine x_iload_n (pc := 48) (x := x3) dX3_schedule_48 rfl ?_
      refine x_iload (pc := 49) (x := x5) dX3_schedule_49 rfl ?_
      replace hf := bd2_s hf; obtain ⟨v51, h51, e51, hf⟩ := hf
      refine x_cNi (pc := 51) (M' := mX7_holds) (as := [.int (x3), .int (x5)]) (st := []) dX3_schedule_51 mo_X7_holds lk_3_86 sm_X7_holds ⟨Nat.le_of_ble_eq_true rfl, Nat.le_of_ble_eq_true rfl⟩ rfl (Nat.le_of_ble_eq_true rfl) rfl (tm_X7_holds e51) ?_
      refine x_if_eq (pc := 54) (tgt := 78) (x := v51) dX3_schedule_54 rfl (fun hc => ?_) (fun hc => ?_)
      · replace hf := it_t hc hf
        refine x_iinc (pc := 78) (x := x5) (v := x5 + 1) (ls' := [some (va_rf (x0)), some (va_rf (x1)), some (va_rf (x2)), some (.int (x3)), some (.int (x4)), some (.int (x5 + 1))]) dX3_schedule_78 rfl rfl (by decide) rfl ?_
        refine x_goto (pc := 81) (tgt := 39) dX3_schedule_81 rfl ?_
        exact ih hf
      · replace hf := it_f hc hf
        refine x_aload_n (pc := 57) (a := x0) dX3_schedule_57 rfl ?_
        refine x_aload_n (pc := 58) (a := x1) dX3_schedule_58 rfl ?_
        refine x_aload_n (pc := 59) (a := x2) dX3_schedule_59 rfl ?_
        refine x_iload (pc := 60) (x := x5) dX3_schedule_60 rfl ?_
        replace hf := bd_s hf; obtain ⟨u62, i62, hf⟩ := hf
        replace hf := bd2_s hf; obtain ⟨v62, h62, e62, hf⟩ := hf
        refine x_cVi (pc := 62) (M' := mX3_search) (as := [va_rf (x1), va_rf (x2), .int (x5)]) (st := []) (a := x0) (ci := 3) dX3_schedule_62 mo_X3_search lk_3_90 im_X3_search se_X3_search rfl ⟨Nat.le_of_ble_eq_true rfl, Nat.le_of_ble_eq_true rfl⟩ rfl (Nat.le_of_ble_eq_true rfl) rfl i62 (tm_X3_search e62) ?_
        refine x_if_eq (pc := 65) (tgt := 78) (x := v62) dX3_schedule_65 rfl (fun hc => ?_) (fun hc => ?_)
        · replace hf := it_t hc hf
          refine x_iinc (pc := 78) (x := x5) (v := x5 + 1) (ls' := [some (va_rf (x0)), some (va_rf (x1)), some (va_rf (x2)), some (.int (x3)), some (.int (x4)), some (.int (x5 + 1))]) dX3_schedule_78 rfl rfl (by decide) rfl ?_
          refine x_goto (pc := 81) (tgt := 39) dX3_schedule_81 rfl ?_
          exact ih hf
        · replace hf := it_f hc hf
          refine x_aload_n (pc := 68) (a := x0) dX3_schedule_68 rfl ?_
          refine x_aload_n (pc := 69) (a := x2) dX3_schedule_69 rfl ?_
          refine x_iload (pc := 70) (x := x5) dX3_schedule_70 rfl ?_
          replace hf := bd_s hf; obtain ⟨u72, i72, hf⟩ := hf
          replace hf := bd_s hf; obtain ⟨h72, e72, hf⟩ := hf
          refine x_cVv (pc := 72) (M' := mX3_writeNights) (as := [va_rf (x2), .int (x5)]) (st := []) (a := x0) (ci := 3) dX3_schedule_72 mo_X3_writeNights lk_3_94 im_X3_writeNights se_X3_writeNights rfl ⟨Nat.le_of_ble_eq_true rfl, Nat.le_of_ble_eq_true rfl⟩ rfl (Nat.le_of_ble_eq_true rfl) rfl i72 (tm_X3_writeNights e72) ?_
          refine x_iinc (pc := 75) (x := x4) (v := x4 + 1) (ls' := [some (va_rf (x0)), some (va_rf (x1)), some (va_rf (x2)), some (.int (x3)), some (.int (x4 + 1)), some (.int (x5))]) dX3_schedule_75 rfl rfl (by decide) rfl ?_
          refine x_iinc (pc := 78) (x := x5) (v := x5 + 1) (ls' := [some (va_rf (x0)), some (va_rf (x1)), some (va_rf (x2)), some (.int (x3)), some (.int (x4 + 1)), some (.int (x5 + 1))]) dX3_schedule_78 rfl rfl (by decide) rfl ?_
          refine x_goto (pc := 81) (tgt := 39) dX3_schedule_81 rfl ?_
          exact ih hf

def g_X3_schedule_3 : Nat → AH → Option Nat → Option Nat → Option Nat → Int32 → Int32 → Option (Int32 × AH)
  | 0, _, _, _, _, _, _ => none
  | n + 1, h, x0, x1, x2, x3, x4 =>
    bd (isO h x2 6) fun _ =>
    bd2 (f_X6_size h x2) fun v6 h6 =>
    if v6 ≤ x4 then (
      g_X3_schedule_39  NN h6 x0 x1 x2 x3 0 0
    ) else (
      bd2 (f_X7_holds h6 x3 x4) fun v15 h15 =>
      if v15 = 0 then (
        g_X3_schedule_3  n h15 x0 x1 x2 x3 (x4 + 1)
      ) else (
        bd (isO h15 x2 6) fun _ =>
        bd (f_X6_clearNights h15 x2 x4) fun h24 =>
        g_X3_schedule_3  n h24 x0 x1 x2 x3 (x4 + 1)
      )
    )

set_option maxRecDepth 100000 in
set_option maxHeartbeats 4000000 in
theorem tg_X3_schedule_3 {g : GT} : ∀ (n : Nat) {h : AH} {x0 : Option Nat} {x1 : Option Nat} {x2 : Option Nat} {x3 : Int32} {x4 : Int32} {r : Int32} {h' : AH}, g_X3_schedule_3 n h x0 x1 x2 x3 x4 = some (r, h') → Xj g mX3_schedule h 3 [some (va_rf (x0)), some (va_rf (x1)), some (va_rf (x2)), some (.int (x3)), some (.int (x4)), none] [] (some (.int r)) h' := by
  intro n
  induction n with
  | zero =>
    intros
    rename_i z
    cases z
  | succ n ih =>
    intro h x0 x1 x2 x3 x4 r h' hf
    rw [g_X3_schedule_3] at hf
    refine x_iload (pc := 3) (x := x4) dX3_schedule_3 rfl ?_
    refine x_aload_n (pc := 5) (a := x2) dX3_schedule_5 rfl ?_
    replace hf := bd_s hf; obtain ⟨u6, i6, hf⟩ := hf
    replace hf := bd2_s hf; obtain ⟨v6, h6, e6, hf⟩ := hf
    refine x_cVi (pc := 6) (M' := mX6_size) (as := []) (st := [.int (x4)]) (a := x2) (ci := 6) dX3_schedule_6 mo_X6_size lk_3_82 im_X6_size se_X6_size rfl ⟨Nat.le_of_ble_eq_true rfl, Nat.le_of_ble_eq_true rfl⟩ rfl (Nat.le_of_ble_eq_true rfl) rfl i6 (tm_X6_size e6) ?_
    refine x_icmp_ge (pc := 9) (tgt := 33) (x := x4) (y := v6) dX3_schedule_9 rfl (fun hc => ?_) (fun hc => ?_)
    · replace hf := it_t hc hf
      refine x_iconst (pc := 33) (v := 0) dX3_schedule_33 (by decide) ?_
      refine x_istore (pc := 34) (ls' := [some (va_rf (x0)), some (va_rf (x1)), some (va_rf (x2)), some (.int (x3)), some (.int (0)), none]) dX3_schedule_34 (by decide) rfl ?_
      refine x_iconst (pc := 36) (v := 0) dX3_schedule_36 (by decide) ?_
      refine x_istore (pc := 37) (ls' := [some (va_rf (x0)), some (va_rf (x1)), some (va_rf (x2)), some (.int (x3)), some (.int (0)), some (.int (0))]) dX3_schedule_37 (by decide) rfl ?_
      exact tg_X3_schedule_39  NN hf
    · replace hf := it_f hc hf
      refine x_iload_n (pc := 12) (x := x3) dX3_schedule_12 rfl ?_
      refine x_iload (pc := 13) (x := x4) dX3_schedule_13 rfl ?_
      replace hf := bd2_s hf; obtain ⟨v15, h15, e15, hf⟩ := hf
      refine x_cNi (pc := 15) (M' := mX7_holds) (as := [.int (x3), .int (x4)]) (st := []) dX3_schedule_15 mo_X7_holds lk_3_86 sm_X7_holds ⟨Nat.le_of_ble_eq_true rfl, Nat.le_of_ble_eq_true rfl⟩ rfl (Nat.le_of_ble_eq_true rfl) rfl (tm_X7_holds e15) ?_
      refine x_if_eq (pc := 18) (tgt := 27) (x := v15) dX3_schedule_18 rfl (fun hc => ?_) (fun hc => ?_)
      · replace hf := it_t hc hf
        refine x_iinc (pc := 27) (x := x4) (v := x4 + 1) (ls' := [some (va_rf (x0)), some (va_rf (x1)), some (va_rf (x2)), some (.int (x3)), some (.int (x4 + 1)), none]) dX3_schedule_27 rfl rfl (by decide) rfl ?_
        refine x_goto (pc := 30) (tgt := 3) dX3_schedule_30 rfl ?_
        exact ih hf
      · replace hf := it_f hc hf
        refine x_aload_n (pc := 21) (a := x2) dX3_schedule_21 rfl ?_
        refine x_iload (pc := 22) (x := x4) dX3_schedule_22 rfl ?_
        replace hf := bd_s hf; obtain ⟨u24, i24, hf⟩ := hf
        replace hf := bd_s hf; obtain ⟨h24, e24, hf⟩ := hf
        refine x_cVv (pc := 24) (M' := mX6_clearNights) (as := [.int (x4)]) (st := []) (a := x2) (ci := 6) dX3_schedule_24 mo_X6_clearNights lk_3_75 im_X6_clearNights se_X6_clearNights rfl ⟨Nat.le_of_ble_eq_true rfl, Nat.le_of_ble_eq_true rfl⟩ rfl (Nat.le_of_ble_eq_true rfl) rfl i24 (tm_X6_clearNights e24) ?_
        refine x_iinc (pc := 27) (x := x4) (v := x4 + 1) (ls' := [some (va_rf (x0)), some (va_rf (x1)), some (va_rf (x2)), some (.int (x3)), some (.int (x4 + 1)), none]) dX3_schedule_27 rfl rfl (by decide) rfl ?_
        refine x_goto (pc := 30) (tgt := 3) dX3_schedule_30 rfl ?_
        exact ih hf

def f_X3_schedule (h : AH) (x0 : Option Nat) (x1 : Option Nat) (x2 : Option Nat) (x3 : Int32) : Option (Int32 × AH) :=
  g_X3_schedule_3  NN h x0 x1 x2 x3 0

set_option maxRecDepth 100000 in
set_option maxHeartbeats 4000000 in
theorem tm_X3_schedule {g : GT} {h : AH} {x0 : Option Nat} {x1 : Option Nat} {x2 : Option Nat} {x3 : Int32} {r : Int32} {h' : AH} (hf : f_X3_schedule h x0 x1 x2 x3 = some (r, h')) : Xm g mX3_schedule [va_rf (x0), va_rf (x1), va_rf (x2), .int (x3)] h (some (.int r)) h' := by
  refine xm_of mo_X3_schedule (Nat.le_of_ble_eq_true rfl) (ls := [some (va_rf (x0)), some (va_rf (x1)), some (va_rf (x2)), some (.int (x3)), none, none]) rfl ?_
  rw [f_X3_schedule] at hf
  refine x_iconst (pc := 0) (v := 0) dX3_schedule_0 (by decide) ?_
  refine x_istore (pc := 1) (ls' := [some (va_rf (x0)), some (va_rf (x1)), some (va_rf (x2)), some (.int (x3)), some (.int (0)), none]) dX3_schedule_1 (by decide) rfl ?_
  exact tg_X3_schedule_3  NN hf

def f_X4_init (h : AH) (x0 : Nat) : Option AH :=
  bd2 (nA h 0 2) fun v6 h6 =>
  bd (stI h6 v6 0 200) fun h13 =>
  bd (stI h13 v6 1 4) fun h17 =>
  bd (pR h17 (some x0) 4 0 v6) fun h18 =>
  bd2 (nA h18 0 3) fun v23 h23 =>
  bd (pR h23 (some x0) 4 1 v23) fun h25 =>
  bd2 (nA h25 0 120) fun v31 h31 =>
  bd (pR h31 (some x0) 4 2 v31) fun h33 =>
  bd2 (nA h33 0 14) fun v39 h39 =>
  bd (pR h39 (some x0) 4 3 v39) fun h41 =>
  bd2 (nA h41 1 14) fun v47 h47 =>
  bd (pR h47 (some x0) 4 4 v47) fun h49 =>
  bd2 (nA h49 0 10) fun v55 h55 =>
  bd (pR h55 (some x0) 4 5 v55) fun h57 =>
  bd2 (nA h57 0 10) fun v63 h63 =>
  bd (pR h63 (some x0) 4 6 v63) fun h65 =>
  bd2 (nA h65 0 10) fun v71 h71 =>
  bd (pR h71 (some x0) 4 7 v71) fun h73 =>
  bd2 (nA h73 0 8) fun v79 h79 =>
  bd (pR h79 (some x0) 4 8 v79) fun h81 =>
  bd (gR h81 (some x0) 4 2) fun v85 =>
  bd (f_J_fill h81 v85 100) fun h90 =>
  some h90

set_option maxRecDepth 100000 in
set_option maxHeartbeats 4000000 in
theorem tm_X4_init {g : GT} {h : AH} {x0 : Nat} {h' : AH} (hf : f_X4_init h x0 = some h') : Xm g mX4_init [va_rf (some x0)] h none h' := by
  refine xm_of mo_X4_init (Nat.le_of_ble_eq_true rfl) (ls := [some (va_rf (some x0))]) rfl ?_
  rw [f_X4_init] at hf
  refine x_aload_n (pc := 0) (a := some x0) dX4_init_0 rfl ?_
  refine x_objInit (pc := 1) dX4_init_1 lo_4_5 oi_1 oi_2 (Nat.le_of_ble_eq_true rfl) (Nat.le_of_ble_eq_true rfl) ?_
  refine x_aload_n (pc := 4) (a := some x0) dX4_init_4 rfl ?_
  refine x_iconst (pc := 5) (v := 2) dX4_init_5 (by decide) ?_
  replace hf := bd2_s hf; obtain ⟨v6, h6, e6, hf⟩ := hf
  refine x_nI (pc := 6) dX4_init_6 ac_int e6 ?_
  refine x_dup (pc := 8) dX4_init_8 ?_
  refine x_iconst (pc := 9) (v := 0) dX4_init_9 (by decide) ?_
  refine x_sipush (pc := 10) (v := 200) dX4_init_10 (by decide) ?_
  replace hf := bd_s hf; obtain ⟨h13, e13, hf⟩ := hf
  refine x_stI (pc := 13) dX4_init_13 e13 ?_
  refine x_dup (pc := 14) dX4_init_14 ?_
  refine x_iconst (pc := 15) (v := 1) dX4_init_15 (by decide) ?_
  refine x_iconst (pc := 16) (v := 4) dX4_init_16 (by decide) ?_
  replace hf := bd_s hf; obtain ⟨h17, e17, hf⟩ := hf
  refine x_stI (pc := 17) dX4_init_17 e17 ?_
  replace hf := bd_s hf; obtain ⟨h18, e18, hf⟩ := hf
  refine x_putR (pc := 18) dX4_init_18 fl_4_11 (fW_in rfl rfl) e18 ?_
  refine x_aload_n (pc := 21) (a := some x0) dX4_init_21 rfl ?_
  refine x_iconst (pc := 22) (v := 3) dX4_init_22 (by decide) ?_
  replace hf := bd2_s hf; obtain ⟨v23, h23, e23, hf⟩ := hf
  refine x_nI (pc := 23) dX4_init_23 ac_int e23 ?_
  replace hf := bd_s hf; obtain ⟨h25, e25, hf⟩ := hf
  refine x_putR (pc := 25) dX4_init_25 fl_4_15 (fW_in rfl rfl) e25 ?_
  refine x_aload_n (pc := 28) (a := some x0) dX4_init_28 rfl ?_
  refine x_bipush (pc := 29) (v := 120) dX4_init_29 (by decide) ?_
  replace hf := bd2_s hf; obtain ⟨v31, h31, e31, hf⟩ := hf
  refine x_nI (pc := 31) dX4_init_31 ac_int e31 ?_
  replace hf := bd_s hf; obtain ⟨h33, e33, hf⟩ := hf
  refine x_putR (pc := 33) dX4_init_33 fl_4_18 (fW_in rfl rfl) e33 ?_
  refine x_aload_n (pc := 36) (a := some x0) dX4_init_36 rfl ?_
  refine x_bipush (pc := 37) (v := 14) dX4_init_37 (by decide) ?_
  replace hf := bd2_s hf; obtain ⟨v39, h39, e39, hf⟩ := hf
  refine x_nI (pc := 39) dX4_init_39 ac_int e39 ?_
  replace hf := bd_s hf; obtain ⟨h41, e41, hf⟩ := hf
  refine x_putR (pc := 41) dX4_init_41 fl_4_21 (fW_in rfl rfl) e41 ?_
  refine x_aload_n (pc := 44) (a := some x0) dX4_init_44 rfl ?_
  refine x_bipush (pc := 45) (v := 14) dX4_init_45 (by decide) ?_
  replace hf := bd2_s hf; obtain ⟨v47, h47, e47, hf⟩ := hf
  refine x_nZ (pc := 47) dX4_init_47 ac_boolean e47 ?_
  replace hf := bd_s hf; obtain ⟨h49, e49, hf⟩ := hf
  refine x_putR (pc := 49) dX4_init_49 fl_4_24 (fW_in rfl rfl) e49 ?_
  refine x_aload_n (pc := 52) (a := some x0) dX4_init_52 rfl ?_
  refine x_bipush (pc := 53) (v := 10) dX4_init_53 (by decide) ?_
  replace hf := bd2_s hf; obtain ⟨v55, h55, e55, hf⟩ := hf
  refine x_nI (pc := 55) dX4_init_55 ac_int e55 ?_
  replace hf := bd_s hf; obtain ⟨h57, e57, hf⟩ := hf
  refine x_putR (pc := 57) dX4_init_57 fl_4_28 (fW_in rfl rfl) e57 ?_
  refine x_aload_n (pc := 60) (a := some x0) dX4_init_60 rfl ?_
  refine x_bipush (pc := 61) (v := 10) dX4_init_61 (by decide) ?_
  replace hf := bd2_s hf; obtain ⟨v63, h63, e63, hf⟩ := hf
  refine x_nI (pc := 63) dX4_init_63 ac_int e63 ?_
  replace hf := bd_s hf; obtain ⟨h65, e65, hf⟩ := hf
  refine x_putR (pc := 65) dX4_init_65 fl_4_31 (fW_in rfl rfl) e65 ?_
  refine x_aload_n (pc := 68) (a := some x0) dX4_init_68 rfl ?_
  refine x_bipush (pc := 69) (v := 10) dX4_init_69 (by decide) ?_
  replace hf := bd2_s hf; obtain ⟨v71, h71, e71, hf⟩ := hf
  refine x_nI (pc := 71) dX4_init_71 ac_int e71 ?_
  replace hf := bd_s hf; obtain ⟨h73, e73, hf⟩ := hf
  refine x_putR (pc := 73) dX4_init_73 fl_4_34 (fW_in rfl rfl) e73 ?_
  refine x_aload_n (pc := 76) (a := some x0) dX4_init_76 rfl ?_
  refine x_bipush (pc := 77) (v := 8) dX4_init_77 (by decide) ?_
  replace hf := bd2_s hf; obtain ⟨v79, h79, e79, hf⟩ := hf
  refine x_nI (pc := 79) dX4_init_79 ac_int e79 ?_
  replace hf := bd_s hf; obtain ⟨h81, e81, hf⟩ := hf
  refine x_putR (pc := 81) dX4_init_81 fl_4_37 (fW_in rfl rfl) e81 ?_
  refine x_aload_n (pc := 84) (a := some x0) dX4_init_84 rfl ?_
  replace hf := bd_s hf; obtain ⟨v85, e85, hf⟩ := hf
  refine x_getR (pc := 85) dX4_init_85 fl_4_18 e85 ?_
  refine x_bipush (pc := 88) (v := 100) dX4_init_88 (by decide) ?_
  replace hf := bd_s hf; obtain ⟨h90, e90, hf⟩ := hf
  refine x_cSv (pc := 90) (M' := mJ_fill) (as := [va_rf (v85), .int (100)]) (st := []) dX4_init_90 mo_J_fill lk_4_40 sm_J_fill ⟨Nat.le_of_ble_eq_true rfl, Nat.le_of_ble_eq_true rfl⟩ rfl (Nat.le_of_ble_eq_true rfl) rfl (tm_J_fill e90) ?_
  obtain rfl := Option.some.inj hf
  exact x_vret (pc := 93) dX4_init_93 rfl

def j_X4_minutesOut_78 (k20 : AH → Option Nat → Int32 → Int32 → Int32 → Int32 → Option (Int32 × AH)) (h : AH) (x0 : Option Nat) (x1 : Int32) (x3 : Int32) (x5 : Int32) (y0 : Int32) (y1 : Int32) : Option (Int32 × AH) :=
  k20 h x0 x1 x3 (if y1 < y0 then y1 else y0) (x5 + 1)

set_option maxRecDepth 100000 in
set_option maxHeartbeats 4000000 in
theorem tj_X4_minutesOut_78 {g : GT} {k20 : AH → Option Nat → Int32 → Int32 → Int32 → Int32 → Option (Int32 × AH)} (hk20 : ∀ (h : AH) (x0 : Option Nat) (x1 : Int32) (x3 : Int32) (x4 : Int32) (x5 : Int32) (r : Int32) (h' : AH), k20 h x0 x1 x3 x4 x5 = some (r, h') → Xj g mX4_minutesOut h 20 [some (va_rf (x0)), some (.int (x1)), none, some (.int (x3)), some (.int (x4)), some (.int (x5)), none] [] (some (.int r)) h') {h : AH} {x0 : Option Nat} {x1 : Int32} {x3 : Int32} {x5 : Int32} {y0 : Int32} {y1 : Int32} {r : Int32} {h' : AH} (hf : j_X4_minutesOut_78 k20 h x0 x1 x3 x5 y0 y1 = some (r, h')) : Xj g mX4_minutesOut h 78 [some (va_rf (x0)), some (.int (x1)), none, some (.int (x3)), none, some (.int (x5)), none] [.int (y1), .int (y0)] (some (.int r)) h' := by
  rw [j_X4_minutesOut_78] at hf
  refine x_min (pc := 78) dX4_minutesOut_78 lm_4_67 ma_min_1 ma_0 ma_min_2 (Nat.le_of_ble_eq_true rfl) (Nat.le_of_ble_eq_true rfl) ?_
  refine x_istore (pc := 81) (ls' := [some (va_rf (x0)), some (.int (x1)), none, some (.int (x3)), some (.int ((if y1 < y0 then y1 else y0))), some (.int (x5)), none]) dX4_minutesOut_81 (by decide) rfl ?_
  refine x_iinc (pc := 83) (x := x5) (v := x5 + 1) (ls' := [some (va_rf (x0)), some (.int (x1)), none, some (.int (x3)), some (.int ((if y1 < y0 then y1 else y0))), some (.int (x5 + 1)), none]) dX4_minutesOut_83 rfl rfl (by decide) rfl ?_
  refine x_goto (pc := 86) (tgt := 20) dX4_minutesOut_86 rfl ?_
  exact hk20 _ _ _ _ _ _ _ _ hf

def g_X4_minutesOut_20 : Nat → AH → Option Nat → Int32 → Int32 → Int32 → Int32 → Option (Int32 × AH)
  | 0, _, _, _, _, _, _ => none
  | n + 1, h, x0, x1, x3, x4, x5 =>
    bd (gR h x0 4 1) fun v23 =>
    bd (ldI h v23 2) fun v27 =>
    if v27 ≤ x5 then (
      some (x4, h)
    ) else (
      bd (gR h x0 4 8) fun v32 =>
      bd (ldI h v32 x5) fun v37 =>
      bd (gR h x0 4 0) fun v39 =>
      bd (ldI h v39 0) fun v43 =>
      if v43 ≤ v37 then (
        g_X4_minutesOut_20  n h x0 x1 x3 x4 (x5 + 1)
      ) else (
        bd (gR h x0 4 8) fun v48 =>
        bd (ldI h v48 x5) fun v53 =>
        if (v53 - x1) < 0 then (
          j_X4_minutesOut_78 (fun h x0 x1 x3 x4 x5 => g_X4_minutesOut_20  n h x0 x1 x3 x4 x5) h x0 x1 x3 x5 x4 ((-(v53 - x1)) * x3)
        ) else (
          j_X4_minutesOut_78 (fun h x0 x1 x3 x4 x5 => g_X4_minutesOut_20  n h x0 x1 x3 x4 x5) h x0 x1 x3 x5 x4 ((v53 - x1) * 12)
        )
      )
    )

set_option maxRecDepth 100000 in
set_option maxHeartbeats 4000000 in
theorem tg_X4_minutesOut_20 {g : GT} : ∀ (n : Nat) {h : AH} {x0 : Option Nat} {x1 : Int32} {x3 : Int32} {x4 : Int32} {x5 : Int32} {r : Int32} {h' : AH}, g_X4_minutesOut_20 n h x0 x1 x3 x4 x5 = some (r, h') → Xj g mX4_minutesOut h 20 [some (va_rf (x0)), some (.int (x1)), none, some (.int (x3)), some (.int (x4)), some (.int (x5)), none] [] (some (.int r)) h' := by
  intro n
  induction n with
  | zero =>
    intros
    rename_i z
    cases z
  | succ n ih =>
    intro h x0 x1 x3 x4 x5 r h' hf
    rw [g_X4_minutesOut_20] at hf
    refine x_iload (pc := 20) (x := x5) dX4_minutesOut_20 rfl ?_
    refine x_aload_n (pc := 22) (a := x0) dX4_minutesOut_22 rfl ?_
    replace hf := bd_s hf; obtain ⟨v23, e23, hf⟩ := hf
    refine x_getR (pc := 23) dX4_minutesOut_23 fl_4_15 e23 ?_
    refine x_iconst (pc := 26) (v := 2) dX4_minutesOut_26 (by decide) ?_
    replace hf := bd_s hf; obtain ⟨v27, e27, hf⟩ := hf
    refine x_ldI (pc := 27) dX4_minutesOut_27 e27 ?_
    refine x_icmp_ge (pc := 28) (tgt := 89) (x := x5) (y := v27) dX4_minutesOut_28 rfl (fun hc => ?_) (fun hc => ?_)
    · replace hf := it_t hc hf
      refine x_iload (pc := 89) (x := x4) dX4_minutesOut_89 rfl ?_
      obtain ⟨rfl, rfl⟩ := ret_s hf
      exact x_reti (pc := 91) dX4_minutesOut_91 rfl
    · replace hf := it_f hc hf
      refine x_aload_n (pc := 31) (a := x0) dX4_minutesOut_31 rfl ?_
      replace hf := bd_s hf; obtain ⟨v32, e32, hf⟩ := hf
      refine x_getR (pc := 32) dX4_minutesOut_32 fl_4_37 e32 ?_
      refine x_iload (pc := 35) (x := x5) dX4_minutesOut_35 rfl ?_
      replace hf := bd_s hf; obtain ⟨v37, e37, hf⟩ := hf
      refine x_ldI (pc := 37) dX4_minutesOut_37 e37 ?_
      refine x_aload_n (pc := 38) (a := x0) dX4_minutesOut_38 rfl ?_
      replace hf := bd_s hf; obtain ⟨v39, e39, hf⟩ := hf
      refine x_getR (pc := 39) dX4_minutesOut_39 fl_4_11 e39 ?_
      refine x_iconst (pc := 42) (v := 0) dX4_minutesOut_42 (by decide) ?_
      replace hf := bd_s hf; obtain ⟨v43, e43, hf⟩ := hf
      refine x_ldI (pc := 43) dX4_minutesOut_43 e43 ?_
      refine x_icmp_ge (pc := 44) (tgt := 83) (x := v37) (y := v43) dX4_minutesOut_44 rfl (fun hc => ?_) (fun hc => ?_)
      · replace hf := it_t hc hf
        refine x_iinc (pc := 83) (x := x5) (v := x5 + 1) (ls' := [some (va_rf (x0)), some (.int (x1)), none, some (.int (x3)), some (.int (x4)), some (.int (x5 + 1)), none]) dX4_minutesOut_83 rfl rfl (by decide) rfl ?_
        refine x_goto (pc := 86) (tgt := 20) dX4_minutesOut_86 rfl ?_
        exact ih hf
      · replace hf := it_f hc hf
        refine x_aload_n (pc := 47) (a := x0) dX4_minutesOut_47 rfl ?_
        replace hf := bd_s hf; obtain ⟨v48, e48, hf⟩ := hf
        refine x_getR (pc := 48) dX4_minutesOut_48 fl_4_37 e48 ?_
        refine x_iload (pc := 51) (x := x5) dX4_minutesOut_51 rfl ?_
        replace hf := bd_s hf; obtain ⟨v53, e53, hf⟩ := hf
        refine x_ldI (pc := 53) dX4_minutesOut_53 e53 ?_
        refine x_iload_n (pc := 54) (x := x1) dX4_minutesOut_54 rfl ?_
        refine x_isub (pc := 55) dX4_minutesOut_55 ?_
        refine x_istore (pc := 56) (ls' := [some (va_rf (x0)), some (.int (x1)), none, some (.int (x3)), some (.int (x4)), some (.int (x5)), some (.int (v53 - x1))]) dX4_minutesOut_56 (by decide) rfl ?_
        refine x_iload (pc := 58) (x := x4) dX4_minutesOut_58 rfl ?_
        refine x_iload (pc := 60) (x := v53 - x1) dX4_minutesOut_60 rfl ?_
        refine x_if_lt (pc := 62) (tgt := 73) (x := (v53 - x1)) dX4_minutesOut_62 rfl (fun hc => ?_) (fun hc => ?_)
        · replace hf := it_t hc hf
          refine x_iload (pc := 73) (x := v53 - x1) dX4_minutesOut_73 rfl ?_
          refine x_ineg (pc := 75) dX4_minutesOut_75 ?_
          refine x_iload_n (pc := 76) (x := x3) dX4_minutesOut_76 rfl ?_
          refine x_imul (pc := 77) dX4_minutesOut_77 ?_
          refine x_mask [true, true, false, true, false, true, false] rfl ?_
          exact tj_X4_minutesOut_78 (fun _ _ _ _ _ _ _ _ z => ih z) hf
        · replace hf := it_f hc hf
          refine x_iload (pc := 65) (x := v53 - x1) dX4_minutesOut_65 rfl ?_
          refine x_bipush (pc := 67) (v := 12) dX4_minutesOut_67 (by decide) ?_
          refine x_imul (pc := 69) dX4_minutesOut_69 ?_
          refine x_goto (pc := 70) (tgt := 78) dX4_minutesOut_70 rfl ?_
          refine x_mask [true, true, false, true, false, true, false] rfl ?_
          exact tj_X4_minutesOut_78 (fun _ _ _ _ _ _ _ _ z => ih z) hf

def j_X4_minutesOut_11 (h : AH) (x0 : Option Nat) (x1 : Int32) (y0 : Int32) : Option (Int32 × AH) :=
  g_X4_minutesOut_20  NN h x0 x1 y0 15001 0

set_option maxRecDepth 100000 in
set_option maxHeartbeats 4000000 in
theorem tj_X4_minutesOut_11 {g : GT} {h : AH} {x0 : Option Nat} {x1 : Int32} {y0 : Int32} {r : Int32} {h' : AH} (hf : j_X4_minutesOut_11 h x0 x1 y0 = some (r, h')) : Xj g mX4_minutesOut h 11 [some (va_rf (x0)), some (.int (x1)), none, none, none, none, none] [.int (y0)] (some (.int r)) h' := by
  rw [j_X4_minutesOut_11] at hf
  refine x_istore_n (pc := 11) (ls' := [some (va_rf (x0)), some (.int (x1)), none, some (.int (y0)), none, none, none]) dX4_minutesOut_11 (by decide) rfl ?_
  refine x_sipush (pc := 12) (v := 15001) dX4_minutesOut_12 (by decide) ?_
  refine x_istore (pc := 15) (ls' := [some (va_rf (x0)), some (.int (x1)), none, some (.int (y0)), some (.int (15001)), none, none]) dX4_minutesOut_15 (by decide) rfl ?_
  refine x_iconst (pc := 17) (v := 0) dX4_minutesOut_17 (by decide) ?_
  refine x_istore (pc := 18) (ls' := [some (va_rf (x0)), some (.int (x1)), none, some (.int (y0)), some (.int (15001)), some (.int (0)), none]) dX4_minutesOut_18 (by decide) rfl ?_
  exact tg_X4_minutesOut_20  NN hf

def f_X4_minutesOut (h : AH) (x0 : Option Nat) (x1 : Int32) (x2 : Int32) : Option (Int32 × AH) :=
  if x2 = 0 then (
    j_X4_minutesOut_11  h x0 x1 60
  ) else (
    j_X4_minutesOut_11  h x0 x1 20
  )

set_option maxRecDepth 100000 in
set_option maxHeartbeats 4000000 in
theorem tm_X4_minutesOut {g : GT} {h : AH} {x0 : Option Nat} {x1 : Int32} {x2 : Int32} {r : Int32} {h' : AH} (hf : f_X4_minutesOut h x0 x1 x2 = some (r, h')) : Xm g mX4_minutesOut [va_rf (x0), .int (x1), .int (x2)] h (some (.int r)) h' := by
  refine xm_of mo_X4_minutesOut (Nat.le_of_ble_eq_true rfl) (ls := [some (va_rf (x0)), some (.int (x1)), some (.int (x2)), none, none, none, none]) rfl ?_
  rw [f_X4_minutesOut] at hf
  refine x_iload_n (pc := 0) (x := x2) dX4_minutesOut_0 rfl ?_
  refine x_if_eq (pc := 1) (tgt := 9) (x := x2) dX4_minutesOut_1 rfl (fun hc => ?_) (fun hc => ?_)
  · replace hf := it_t hc hf
    refine x_bipush (pc := 9) (v := 60) dX4_minutesOut_9 (by decide) ?_
    refine x_mask [true, true, false, false, false, false, false] rfl ?_
    exact tj_X4_minutesOut_11  hf
  · replace hf := it_f hc hf
    refine x_bipush (pc := 4) (v := 20) dX4_minutesOut_4 (by decide) ?_
    refine x_goto (pc := 6) (tgt := 11) dX4_minutesOut_6 rfl ?_
    refine x_mask [true, true, false, false, false, false, false] rfl ?_
    exact tj_X4_minutesOut_11  hf

def f_X5_has (h : AH) (x0 : Option Nat) (x1 : Int32) (x2 : Int32) : Option (Int32 × AH) :=
  if x1 < 0 then (
    some (0, h)
  ) else (
    if x2 < 0 then (
      some (0, h)
    ) else (
      bd (gI h x0 5 1) fun v10 =>
      if v10 < x1 then (
        some (0, h)
      ) else (
        bd (gI h x0 5 1) fun v18 =>
        if (v18 - x1) < x2 then (
          some (0, h)
        ) else (
          some (1, h)
        )
      )
    )
  )

set_option maxRecDepth 100000 in
set_option maxHeartbeats 4000000 in
theorem tm_X5_has {g : GT} {h : AH} {x0 : Option Nat} {x1 : Int32} {x2 : Int32} {r : Int32} {h' : AH} (hf : f_X5_has h x0 x1 x2 = some (r, h')) : Xm g mX5_has [va_rf (x0), .int (x1), .int (x2)] h (some (.int r)) h' := by
  refine xm_of mo_X5_has (Nat.le_of_ble_eq_true rfl) (ls := [some (va_rf (x0)), some (.int (x1)), some (.int (x2))]) rfl ?_
  rw [f_X5_has] at hf
  refine x_iload_n (pc := 0) (x := x1) dX5_has_0 rfl ?_
  refine x_if_lt (pc := 1) (tgt := 30) (x := x1) dX5_has_1 rfl (fun hc => ?_) (fun hc => ?_)
  · replace hf := it_t hc hf
    refine x_iconst (pc := 30) (v := 0) dX5_has_30 (by decide) ?_
    obtain ⟨rfl, rfl⟩ := ret_s hf
    exact x_retz (pc := 31) dX5_has_31 rfl (by decide)
  · replace hf := it_f hc hf
    refine x_iload_n (pc := 4) (x := x2) dX5_has_4 rfl ?_
    refine x_if_lt (pc := 5) (tgt := 30) (x := x2) dX5_has_5 rfl (fun hc => ?_) (fun hc => ?_)
    · replace hf := it_t hc hf
      refine x_iconst (pc := 30) (v := 0) dX5_has_30 (by decide) ?_
      obtain ⟨rfl, rfl⟩ := ret_s hf
      exact x_retz (pc := 31) dX5_has_31 rfl (by decide)
    · replace hf := it_f hc hf
      refine x_iload_n (pc := 8) (x := x1) dX5_has_8 rfl ?_
      refine x_aload_n (pc := 9) (a := x0) dX5_has_9 rfl ?_
      replace hf := bd_s hf; obtain ⟨v10, e10, hf⟩ := hf
      refine x_getI (pc := 10) dX5_has_10 fl_5_13 e10 ?_
      refine x_icmp_gt (pc := 13) (tgt := 30) (x := x1) (y := v10) dX5_has_13 rfl (fun hc => ?_) (fun hc => ?_)
      · replace hf := it_t hc hf
        refine x_iconst (pc := 30) (v := 0) dX5_has_30 (by decide) ?_
        obtain ⟨rfl, rfl⟩ := ret_s hf
        exact x_retz (pc := 31) dX5_has_31 rfl (by decide)
      · replace hf := it_f hc hf
        refine x_iload_n (pc := 16) (x := x2) dX5_has_16 rfl ?_
        refine x_aload_n (pc := 17) (a := x0) dX5_has_17 rfl ?_
        replace hf := bd_s hf; obtain ⟨v18, e18, hf⟩ := hf
        refine x_getI (pc := 18) dX5_has_18 fl_5_13 e18 ?_
        refine x_iload_n (pc := 21) (x := x1) dX5_has_21 rfl ?_
        refine x_isub (pc := 22) dX5_has_22 ?_
        refine x_icmp_gt (pc := 23) (tgt := 30) (x := x2) (y := (v18 - x1)) dX5_has_23 rfl (fun hc => ?_) (fun hc => ?_)
        · replace hf := it_t hc hf
          refine x_iconst (pc := 30) (v := 0) dX5_has_30 (by decide) ?_
          obtain ⟨rfl, rfl⟩ := ret_s hf
          exact x_retz (pc := 31) dX5_has_31 rfl (by decide)
        · replace hf := it_f hc hf
          refine x_iconst (pc := 26) (v := 1) dX5_has_26 (by decide) ?_
          refine x_goto (pc := 27) (tgt := 31) dX5_has_27 rfl ?_
          obtain ⟨rfl, rfl⟩ := ret_s hf
          exact x_retz (pc := 31) dX5_has_31 rfl (by decide)

def f_X5_init (h : AH) (x0 : Nat) : Option AH :=
  bd (pI h (some x0) 5 0 0) fun h6 =>
  bd (pI h6 (some x0) 5 1 0) fun h11 =>
  bd2 (nA h11 0 40) fun v17 h17 =>
  bd (pR h17 (some x0) 5 2 v17) fun h19 =>
  some h19

set_option maxRecDepth 100000 in
set_option maxHeartbeats 4000000 in
theorem tm_X5_init {g : GT} {h : AH} {x0 : Nat} {h' : AH} (hf : f_X5_init h x0 = some h') : Xm g mX5_init [va_rf (some x0)] h none h' := by
  refine xm_of mo_X5_init (Nat.le_of_ble_eq_true rfl) (ls := [some (va_rf (some x0))]) rfl ?_
  rw [f_X5_init] at hf
  refine x_aload_n (pc := 0) (a := some x0) dX5_init_0 rfl ?_
  refine x_objInit (pc := 1) dX5_init_1 lo_5_1 oi_1 oi_2 (Nat.le_of_ble_eq_true rfl) (Nat.le_of_ble_eq_true rfl) ?_
  refine x_aload_n (pc := 4) (a := some x0) dX5_init_4 rfl ?_
  refine x_iconst (pc := 5) (v := 0) dX5_init_5 (by decide) ?_
  replace hf := bd_s hf; obtain ⟨h6, e6, hf⟩ := hf
  refine x_putI (pc := 6) dX5_init_6 fl_5_7 (fW_no rfl) e6 ?_
  refine x_aload_n (pc := 9) (a := some x0) dX5_init_9 rfl ?_
  refine x_iconst (pc := 10) (v := 0) dX5_init_10 (by decide) ?_
  replace hf := bd_s hf; obtain ⟨h11, e11, hf⟩ := hf
  refine x_putI (pc := 11) dX5_init_11 fl_5_13 (fW_no rfl) e11 ?_
  refine x_aload_n (pc := 14) (a := some x0) dX5_init_14 rfl ?_
  refine x_bipush (pc := 15) (v := 40) dX5_init_15 (by decide) ?_
  replace hf := bd2_s hf; obtain ⟨v17, h17, e17, hf⟩ := hf
  refine x_nI (pc := 17) dX5_init_17 ac_int e17 ?_
  replace hf := bd_s hf; obtain ⟨h19, e19, hf⟩ := hf
  refine x_putR (pc := 19) dX5_init_19 fl_5_16 (fW_in rfl rfl) e19 ?_
  obtain rfl := Option.some.inj hf
  exact x_vret (pc := 22) dX5_init_22 rfl

def f_X5_isMissing (h : AH) (x0 : Option Nat) : Option (Int32 × AH) :=
  bd (gI h x0 5 0) fun v1 =>
  if ¬ v1 = 0 then (
    some (0, h)
  ) else (
    some (1, h)
  )

set_option maxRecDepth 100000 in
set_option maxHeartbeats 4000000 in
theorem tm_X5_isMissing {g : GT} {h : AH} {x0 : Option Nat} {r : Int32} {h' : AH} (hf : f_X5_isMissing h x0 = some (r, h')) : Xm g mX5_isMissing [va_rf (x0)] h (some (.int r)) h' := by
  refine xm_of mo_X5_isMissing (Nat.le_of_ble_eq_true rfl) (ls := [some (va_rf (x0))]) rfl ?_
  rw [f_X5_isMissing] at hf
  refine x_aload_n (pc := 0) (a := x0) dX5_isMissing_0 rfl ?_
  replace hf := bd_s hf; obtain ⟨v1, e1, hf⟩ := hf
  refine x_getI (pc := 1) dX5_isMissing_1 fl_5_7 e1 ?_
  refine x_if_ne (pc := 4) (tgt := 11) (x := v1) dX5_isMissing_4 rfl (fun hc => ?_) (fun hc => ?_)
  · replace hf := it_t hc hf
    refine x_iconst (pc := 11) (v := 0) dX5_isMissing_11 (by decide) ?_
    obtain ⟨rfl, rfl⟩ := ret_s hf
    exact x_retz (pc := 12) dX5_isMissing_12 rfl (by decide)
  · replace hf := it_n hc hf
    refine x_iconst (pc := 7) (v := 1) dX5_isMissing_7 (by decide) ?_
    refine x_goto (pc := 8) (tgt := 12) dX5_isMissing_8 rfl ?_
    obtain ⟨rfl, rfl⟩ := ret_s hf
    exact x_retz (pc := 12) dX5_isMissing_12 rfl (by decide)
