def j_X3_dropDeadEnds_66 (k7 : AH → Option Nat → Int32 → Option AH) (k13 : AH → Option Nat → Int32 → Int32 → Option AH) (k23 : AH → Option Nat → Int32 → Int32 → Int32 → Int32 → Option AH) (h : AH) (x0 : Option Nat) (x1 : Int32) (x2 : Int32) (x3 : Int32) (x4 : Int32) : Option AH :=
  k23 h x0 x1 x2 (x3 ||| (1 <<< (x4 &&& 31))) (x4 + 1)

set_option maxRecDepth 100000 in
set_option maxHeartbeats 4000000 in
theorem tj_X3_dropDeadEnds_66 {g : GT} {k7 : AH → Option Nat → Int32 → Option AH} {k13 : AH → Option Nat → Int32 → Int32 → Option AH} {k23 : AH → Option Nat → Int32 → Int32 → Int32 → Int32 → Option AH} (hk7 : ∀ (h : AH) (x0 : Option Nat) (x1 : Int32) (h' : AH), k7 h x0 x1 = some h' → Xj g mX3_dropDeadEnds h 7 [some (va_rf (x0)), some (.int (x1)), none, none, none] [] none h') (hk13 : ∀ (h : AH) (x0 : Option Nat) (x1 : Int32) (x2 : Int32) (h' : AH), k13 h x0 x1 x2 = some h' → Xj g mX3_dropDeadEnds h 13 [some (va_rf (x0)), some (.int (x1)), some (.int (x2)), none, none] [] none h') (hk23 : ∀ (h : AH) (x0 : Option Nat) (x1 : Int32) (x2 : Int32) (x3 : Int32) (x4 : Int32) (h' : AH), k23 h x0 x1 x2 x3 x4 = some h' → Xj g mX3_dropDeadEnds h 23 [some (va_rf (x0)), some (.int (x1)), some (.int (x2)), some (.int (x3)), some (.int (x4))] [] none h') {h : AH} {x0 : Option Nat} {x1 : Int32} {x2 : Int32} {x3 : Int32} {x4 : Int32} {h' : AH} (hf : j_X3_dropDeadEnds_66 k7 k13 k23 h x0 x1 x2 x3 x4 = some h') : Xj g mX3_dropDeadEnds h 66 [some (va_rf (x0)), some (.int (x1)), some (.int (x2)), some (.int (x3)), some (.int (x4))] [] none h' := by
  rw [j_X3_dropDeadEnds_66] at hf
  refine x_iload_n (pc := 66) (x := x3) dX3_dropDeadEnds_66 rfl ?_
  refine x_iconst (pc := 67) (v := 1) dX3_dropDeadEnds_67 (by decide) ?_
  refine x_iload (pc := 68) (x := x4) dX3_dropDeadEnds_68 rfl ?_
  refine x_ishl (pc := 70) dX3_dropDeadEnds_70 ?_
  refine x_ior (pc := 71) dX3_dropDeadEnds_71 ?_
  refine x_istore_n (pc := 72) (ls' := [some (va_rf (x0)), some (.int (x1)), some (.int (x2)), some (.int (x3 ||| (1 <<< (x4 &&& 31)))), some (.int (x4))]) dX3_dropDeadEnds_72 (by decide) rfl ?_
  refine x_iinc (pc := 73) (x := x4) (v := x4 + 1) (ls' := [some (va_rf (x0)), some (.int (x1)), some (.int (x2)), some (.int (x3 ||| (1 <<< (x4 &&& 31)))), some (.int (x4 + 1))]) dX3_dropDeadEnds_73 rfl rfl (by decide) rfl ?_
  refine x_goto (pc := 76) (tgt := 23) dX3_dropDeadEnds_76 rfl ?_
  exact hk23 _ _ _ _ _ _ _ hf

def g_X3_dropDeadEnds_23 (k7 : AH → Option Nat → Int32 → Option AH) (k13 : AH → Option Nat → Int32 → Int32 → Option AH) : Nat → AH → Option Nat → Int32 → Int32 → Int32 → Int32 → Option AH
  | 0, _, _, _, _, _, _ => none
  | n + 1, h, x0, x1, x2, x3, x4 =>
    if 15 ≤ x4 then (
      bd (gR h x0 3 2) fun v80 =>
      bd (ldI h v80 ((x1 * 3) + x2)) fun v89 =>
      bd (stI h v80 ((x1 * 3) + x2) (v89 &&& x3)) fun h92 =>
      k13 h92 x0 x1 (x2 + 1)
    ) else (
      bd (gI h x0 3 0) fun v32 =>
      if ¬ x1 = (v32 - 1) then (
        bd (isO h x0 3) fun _ =>
        bd2 (f_X3_goesOn h x0 x1 x2 x4) fun v60 h60 =>
        if v60 = 0 then (
          g_X3_dropDeadEnds_23 k7 k13 n h60 x0 x1 x2 x3 (x4 + 1)
        ) else (
          j_X3_dropDeadEnds_66 k7 k13 (fun h x0 x1 x2 x3 x4 => g_X3_dropDeadEnds_23 k7 k13 n h x0 x1 x2 x3 x4) h60 x0 x1 x2 x3 x4
        )
      ) else (
        bd (gI h x0 3 4) fun v41 =>
        bd2 (f_X7_holds h v41 x4) fun v46 h46 =>
        if v46 = 0 then (
          g_X3_dropDeadEnds_23 k7 k13 n h46 x0 x1 x2 x3 (x4 + 1)
        ) else (
          j_X3_dropDeadEnds_66 k7 k13 (fun h x0 x1 x2 x3 x4 => g_X3_dropDeadEnds_23 k7 k13 n h x0 x1 x2 x3 x4) h46 x0 x1 x2 x3 x4
        )
      )
    )

set_option maxRecDepth 100000 in
set_option maxHeartbeats 4000000 in
theorem tg_X3_dropDeadEnds_23 {g : GT} {k7 : AH → Option Nat → Int32 → Option AH} {k13 : AH → Option Nat → Int32 → Int32 → Option AH} (hk7 : ∀ (h : AH) (x0 : Option Nat) (x1 : Int32) (h' : AH), k7 h x0 x1 = some h' → Xj g mX3_dropDeadEnds h 7 [some (va_rf (x0)), some (.int (x1)), none, none, none] [] none h') (hk13 : ∀ (h : AH) (x0 : Option Nat) (x1 : Int32) (x2 : Int32) (h' : AH), k13 h x0 x1 x2 = some h' → Xj g mX3_dropDeadEnds h 13 [some (va_rf (x0)), some (.int (x1)), some (.int (x2)), none, none] [] none h') : ∀ (n : Nat) {h : AH} {x0 : Option Nat} {x1 : Int32} {x2 : Int32} {x3 : Int32} {x4 : Int32} {h' : AH}, g_X3_dropDeadEnds_23 k7 k13 n h x0 x1 x2 x3 x4 = some h' → Xj g mX3_dropDeadEnds h 23 [some (va_rf (x0)), some (.int (x1)), some (.int (x2)), some (.int (x3)), some (.int (x4))] [] none h' := by
  intro n
  induction n with
  | zero =>
    intros
    rename_i z
    cases z
  | succ n ih =>
    intro h x0 x1 x2 x3 x4 h' hf
    rw [g_X3_dropDeadEnds_23] at hf
    refine x_iload (pc := 23) (x := x4) dX3_dropDeadEnds_23 rfl ?_
    refine x_bipush (pc := 25) (v := 15) dX3_dropDeadEnds_25 (by decide) ?_
    refine x_icmp_ge (pc := 27) (tgt := 79) (x := x4) (y := 15) dX3_dropDeadEnds_27 rfl (fun hc => ?_) (fun hc => ?_)
    · replace hf := it_t hc hf
      refine x_aload_n (pc := 79) (a := x0) dX3_dropDeadEnds_79 rfl ?_
      replace hf := bd_s hf; obtain ⟨v80, e80, hf⟩ := hf
      refine x_getR (pc := 80) dX3_dropDeadEnds_80 fl_3_21 e80 ?_
      refine x_iload_n (pc := 83) (x := x1) dX3_dropDeadEnds_83 rfl ?_
      refine x_iconst (pc := 84) (v := 3) dX3_dropDeadEnds_84 (by decide) ?_
      refine x_imul (pc := 85) dX3_dropDeadEnds_85 ?_
      refine x_iload_n (pc := 86) (x := x2) dX3_dropDeadEnds_86 rfl ?_
      refine x_iadd (pc := 87) dX3_dropDeadEnds_87 ?_
      refine x_dup2 (pc := 88) dX3_dropDeadEnds_88 ?_
      replace hf := bd_s hf; obtain ⟨v89, e89, hf⟩ := hf
      refine x_ldI (pc := 89) dX3_dropDeadEnds_89 e89 ?_
      refine x_iload_n (pc := 90) (x := x3) dX3_dropDeadEnds_90 rfl ?_
      refine x_iand (pc := 91) dX3_dropDeadEnds_91 ?_
      replace hf := bd_s hf; obtain ⟨h92, e92, hf⟩ := hf
      refine x_stI (pc := 92) dX3_dropDeadEnds_92 e92 ?_
      refine x_iinc (pc := 93) (x := x2) (v := x2 + 1) (ls' := [some (va_rf (x0)), some (.int (x1)), some (.int (x2 + 1)), some (.int (x3)), some (.int (x4))]) dX3_dropDeadEnds_93 rfl rfl (by decide) rfl ?_
      refine x_goto (pc := 96) (tgt := 13) dX3_dropDeadEnds_96 rfl ?_
      refine x_mask [true, true, true, false, false] rfl ?_
      exact hk13 _ _ _ _ _ hf
    · replace hf := it_f hc hf
      refine x_iload_n (pc := 30) (x := x1) dX3_dropDeadEnds_30 rfl ?_
      refine x_aload_n (pc := 31) (a := x0) dX3_dropDeadEnds_31 rfl ?_
      replace hf := bd_s hf; obtain ⟨v32, e32, hf⟩ := hf
      refine x_getI (pc := 32) dX3_dropDeadEnds_32 fl_3_13 e32 ?_
      refine x_iconst (pc := 35) (v := 1) dX3_dropDeadEnds_35 (by decide) ?_
      refine x_isub (pc := 36) dX3_dropDeadEnds_36 ?_
      refine x_icmp_ne (pc := 37) (tgt := 55) (x := x1) (y := (v32 - 1)) dX3_dropDeadEnds_37 rfl (fun hc => ?_) (fun hc => ?_)
      · replace hf := it_t hc hf
        refine x_aload_n (pc := 55) (a := x0) dX3_dropDeadEnds_55 rfl ?_
        refine x_iload_n (pc := 56) (x := x1) dX3_dropDeadEnds_56 rfl ?_
        refine x_iload_n (pc := 57) (x := x2) dX3_dropDeadEnds_57 rfl ?_
        refine x_iload (pc := 58) (x := x4) dX3_dropDeadEnds_58 rfl ?_
        replace hf := bd_s hf; obtain ⟨u60, i60, hf⟩ := hf
        replace hf := bd2_s hf; obtain ⟨v60, h60, e60, hf⟩ := hf
        refine x_cVi (pc := 60) (M' := mX3_goesOn) (as := [.int (x1), .int (x2), .int (x4)]) (st := []) (a := x0) (ci := 3) dX3_dropDeadEnds_60 mo_X3_goesOn lk_3_112 im_X3_goesOn se_X3_goesOn rfl ⟨Nat.le_of_ble_eq_true rfl, Nat.le_of_ble_eq_true rfl⟩ rfl (Nat.le_of_ble_eq_true rfl) rfl i60 (tm_X3_goesOn e60) ?_
        refine x_if_eq (pc := 63) (tgt := 73) (x := v60) dX3_dropDeadEnds_63 rfl (fun hc => ?_) (fun hc => ?_)
        · replace hf := it_t hc hf
          refine x_iinc (pc := 73) (x := x4) (v := x4 + 1) (ls' := [some (va_rf (x0)), some (.int (x1)), some (.int (x2)), some (.int (x3)), some (.int (x4 + 1))]) dX3_dropDeadEnds_73 rfl rfl (by decide) rfl ?_
          refine x_goto (pc := 76) (tgt := 23) dX3_dropDeadEnds_76 rfl ?_
          exact ih hf
        · replace hf := it_f hc hf
          exact tj_X3_dropDeadEnds_66 hk7 hk13 (fun _ _ _ _ _ _ _ z => ih z) hf
      · replace hf := it_n hc hf
        refine x_aload_n (pc := 40) (a := x0) dX3_dropDeadEnds_40 rfl ?_
        replace hf := bd_s hf; obtain ⟨v41, e41, hf⟩ := hf
        refine x_getI (pc := 41) dX3_dropDeadEnds_41 fl_3_27 e41 ?_
        refine x_iload (pc := 44) (x := x4) dX3_dropDeadEnds_44 rfl ?_
        replace hf := bd2_s hf; obtain ⟨v46, h46, e46, hf⟩ := hf
        refine x_cNi (pc := 46) (M' := mX7_holds) (as := [.int (v41), .int (x4)]) (st := []) dX3_dropDeadEnds_46 mo_X7_holds lk_3_86 sm_X7_holds ⟨Nat.le_of_ble_eq_true rfl, Nat.le_of_ble_eq_true rfl⟩ rfl (Nat.le_of_ble_eq_true rfl) rfl (tm_X7_holds e46) ?_
        refine x_if_eq (pc := 49) (tgt := 73) (x := v46) dX3_dropDeadEnds_49 rfl (fun hc => ?_) (fun hc => ?_)
        · replace hf := it_t hc hf
          refine x_iinc (pc := 73) (x := x4) (v := x4 + 1) (ls' := [some (va_rf (x0)), some (.int (x1)), some (.int (x2)), some (.int (x3)), some (.int (x4 + 1))]) dX3_dropDeadEnds_73 rfl rfl (by decide) rfl ?_
          refine x_goto (pc := 76) (tgt := 23) dX3_dropDeadEnds_76 rfl ?_
          exact ih hf
        · replace hf := it_f hc hf
          refine x_goto (pc := 52) (tgt := 66) dX3_dropDeadEnds_52 rfl ?_
          exact tj_X3_dropDeadEnds_66 hk7 hk13 (fun _ _ _ _ _ _ _ z => ih z) hf

def g_X3_dropDeadEnds_13 (k7 : AH → Option Nat → Int32 → Option AH) : Nat → AH → Option Nat → Int32 → Int32 → Option AH
  | 0, _, _, _, _ => none
  | n + 1, h, x0, x1, x2 =>
    if 3 ≤ x2 then (
      k7 h x0 (x1 + (-1))
    ) else (
      g_X3_dropDeadEnds_23 k7 (fun h x0 x1 x2 => g_X3_dropDeadEnds_13 k7 n h x0 x1 x2) NN h x0 x1 x2 0 0
    )

set_option maxRecDepth 100000 in
set_option maxHeartbeats 4000000 in
theorem tg_X3_dropDeadEnds_13 {g : GT} {k7 : AH → Option Nat → Int32 → Option AH} (hk7 : ∀ (h : AH) (x0 : Option Nat) (x1 : Int32) (h' : AH), k7 h x0 x1 = some h' → Xj g mX3_dropDeadEnds h 7 [some (va_rf (x0)), some (.int (x1)), none, none, none] [] none h') : ∀ (n : Nat) {h : AH} {x0 : Option Nat} {x1 : Int32} {x2 : Int32} {h' : AH}, g_X3_dropDeadEnds_13 k7 n h x0 x1 x2 = some h' → Xj g mX3_dropDeadEnds h 13 [some (va_rf (x0)), some (.int (x1)), some (.int (x2)), none, none] [] none h' := by
  intro n
  induction n with
  | zero =>
    intros
    rename_i z
    cases z
  | succ n ih =>
    intro h x0 x1 x2 h' hf
    rw [g_X3_dropDeadEnds_13] at hf
    refine x_iload_n (pc := 13) (x := x2) dX3_dropDeadEnds_13 rfl ?_
    refine x_iconst (pc := 14) (v := 3) dX3_dropDeadEnds_14 (by decide) ?_
    refine x_icmp_ge (pc := 15) (tgt := 99) (x := x2) (y := 3) dX3_dropDeadEnds_15 rfl (fun hc => ?_) (fun hc => ?_)
    · replace hf := it_t hc hf
      refine x_iinc (pc := 99) (x := x1) (v := x1 + (-1)) (ls' := [some (va_rf (x0)), some (.int (x1 + (-1))), some (.int (x2)), none, none]) dX3_dropDeadEnds_99 rfl rfl (by decide) rfl ?_
      refine x_goto (pc := 102) (tgt := 7) dX3_dropDeadEnds_102 rfl ?_
      refine x_mask [true, true, false, false, false] rfl ?_
      exact hk7 _ _ _ _ hf
    · replace hf := it_f hc hf
      refine x_iconst (pc := 18) (v := 0) dX3_dropDeadEnds_18 (by decide) ?_
      refine x_istore_n (pc := 19) (ls' := [some (va_rf (x0)), some (.int (x1)), some (.int (x2)), some (.int (0)), none]) dX3_dropDeadEnds_19 (by decide) rfl ?_
      refine x_iconst (pc := 20) (v := 0) dX3_dropDeadEnds_20 (by decide) ?_
      refine x_istore (pc := 21) (ls' := [some (va_rf (x0)), some (.int (x1)), some (.int (x2)), some (.int (0)), some (.int (0))]) dX3_dropDeadEnds_21 (by decide) rfl ?_
      exact tg_X3_dropDeadEnds_23 hk7 (fun _ _ _ _ _ z => ih z) NN hf

def g_X3_dropDeadEnds_7 : Nat → AH → Option Nat → Int32 → Option AH
  | 0, _, _, _ => none
  | n + 1, h, x0, x1 =>
    if x1 < 0 then (
      some h
    ) else (
      g_X3_dropDeadEnds_13 (fun h x0 x1 => g_X3_dropDeadEnds_7  n h x0 x1) NN h x0 x1 0
    )

set_option maxRecDepth 100000 in
set_option maxHeartbeats 4000000 in
theorem tg_X3_dropDeadEnds_7 {g : GT} : ∀ (n : Nat) {h : AH} {x0 : Option Nat} {x1 : Int32} {h' : AH}, g_X3_dropDeadEnds_7 n h x0 x1 = some h' → Xj g mX3_dropDeadEnds h 7 [some (va_rf (x0)), some (.int (x1)), none, none, none] [] none h' := by
  intro n
  induction n with
  | zero =>
    intros
    rename_i z
    cases z
  | succ n ih =>
    intro h x0 x1 h' hf
    rw [g_X3_dropDeadEnds_7] at hf
    refine x_iload_n (pc := 7) (x := x1) dX3_dropDeadEnds_7 rfl ?_
    refine x_if_lt (pc := 8) (tgt := 105) (x := x1) dX3_dropDeadEnds_8 rfl (fun hc => ?_) (fun hc => ?_)
    · replace hf := it_t hc hf
      obtain rfl := Option.some.inj hf
      exact x_vret (pc := 105) dX3_dropDeadEnds_105 rfl
    · replace hf := it_f hc hf
      refine x_iconst (pc := 11) (v := 0) dX3_dropDeadEnds_11 (by decide) ?_
      refine x_istore_n (pc := 12) (ls' := [some (va_rf (x0)), some (.int (x1)), some (.int (0)), none, none]) dX3_dropDeadEnds_12 (by decide) rfl ?_
      exact tg_X3_dropDeadEnds_13 (fun _ _ _ _ z => ih z) NN hf

def f_X3_dropDeadEnds (h : AH) (x0 : Option Nat) : Option AH :=
  bd (gI h x0 3 0) fun v1 =>
  g_X3_dropDeadEnds_7  NN h x0 (v1 - 1)

set_option maxRecDepth 100000 in
set_option maxHeartbeats 4000000 in
theorem tm_X3_dropDeadEnds {g : GT} {h : AH} {x0 : Option Nat} {h' : AH} (hf : f_X3_dropDeadEnds h x0 = some h') : Xm g mX3_dropDeadEnds [va_rf (x0)] h none h' := by
  refine xm_of mo_X3_dropDeadEnds (Nat.le_of_ble_eq_true rfl) (ls := [some (va_rf (x0)), none, none, none, none]) rfl ?_
  rw [f_X3_dropDeadEnds] at hf
  refine x_aload_n (pc := 0) (a := x0) dX3_dropDeadEnds_0 rfl ?_
  replace hf := bd_s hf; obtain ⟨v1, e1, hf⟩ := hf
  refine x_getI (pc := 1) dX3_dropDeadEnds_1 fl_3_13 e1 ?_
  refine x_iconst (pc := 4) (v := 1) dX3_dropDeadEnds_4 (by decide) ?_
  refine x_isub (pc := 5) dX3_dropDeadEnds_5 ?_
  refine x_istore_n (pc := 6) (ls' := [some (va_rf (x0)), some (.int (v1 - 1)), none, none, none]) dX3_dropDeadEnds_6 (by decide) rfl ?_
  exact tg_X3_dropDeadEnds_7  NN hf

def g_X3_placesAhead_4 : Nat → AH → Option Nat → Int32 → Int32 → Int32 → Option (Int32 × AH)
  | 0, _, _, _, _, _ => none
  | n + 1, h, x0, x1, x2, x3 =>
    if 3 ≤ x3 then (
      some (x2, h)
    ) else (
      bd (gR h x0 3 2) fun v11 =>
      bd (ldI h v11 ((x1 * 3) + x3)) fun v19 =>
      g_X3_placesAhead_4  n h x0 x1 (x2 ||| v19) (x3 + 1)
    )

set_option maxRecDepth 100000 in
set_option maxHeartbeats 4000000 in
theorem tg_X3_placesAhead_4 {g : GT} : ∀ (n : Nat) {h : AH} {x0 : Option Nat} {x1 : Int32} {x2 : Int32} {x3 : Int32} {r : Int32} {h' : AH}, g_X3_placesAhead_4 n h x0 x1 x2 x3 = some (r, h') → Xj g mX3_placesAhead h 4 [some (va_rf (x0)), some (.int (x1)), some (.int (x2)), some (.int (x3))] [] (some (.int r)) h' := by
  intro n
  induction n with
  | zero =>
    intros
    rename_i z
    cases z
  | succ n ih =>
    intro h x0 x1 x2 x3 r h' hf
    rw [g_X3_placesAhead_4] at hf
    refine x_iload_n (pc := 4) (x := x3) dX3_placesAhead_4 rfl ?_
    refine x_iconst (pc := 5) (v := 3) dX3_placesAhead_5 (by decide) ?_
    refine x_icmp_ge (pc := 6) (tgt := 28) (x := x3) (y := 3) dX3_placesAhead_6 rfl (fun hc => ?_) (fun hc => ?_)
    · replace hf := it_t hc hf
      refine x_iload_n (pc := 28) (x := x2) dX3_placesAhead_28 rfl ?_
      obtain ⟨rfl, rfl⟩ := ret_s hf
      exact x_reti (pc := 29) dX3_placesAhead_29 rfl
    · replace hf := it_f hc hf
      refine x_iload_n (pc := 9) (x := x2) dX3_placesAhead_9 rfl ?_
      refine x_aload_n (pc := 10) (a := x0) dX3_placesAhead_10 rfl ?_
      replace hf := bd_s hf; obtain ⟨v11, e11, hf⟩ := hf
      refine x_getR (pc := 11) dX3_placesAhead_11 fl_3_21 e11 ?_
      refine x_iload_n (pc := 14) (x := x1) dX3_placesAhead_14 rfl ?_
      refine x_iconst (pc := 15) (v := 3) dX3_placesAhead_15 (by decide) ?_
      refine x_imul (pc := 16) dX3_placesAhead_16 ?_
      refine x_iload_n (pc := 17) (x := x3) dX3_placesAhead_17 rfl ?_
      refine x_iadd (pc := 18) dX3_placesAhead_18 ?_
      replace hf := bd_s hf; obtain ⟨v19, e19, hf⟩ := hf
      refine x_ldI (pc := 19) dX3_placesAhead_19 e19 ?_
      refine x_ior (pc := 20) dX3_placesAhead_20 ?_
      refine x_istore_n (pc := 21) (ls' := [some (va_rf (x0)), some (.int (x1)), some (.int (x2 ||| v19)), some (.int (x3))]) dX3_placesAhead_21 (by decide) rfl ?_
      refine x_iinc (pc := 22) (x := x3) (v := x3 + 1) (ls' := [some (va_rf (x0)), some (.int (x1)), some (.int (x2 ||| v19)), some (.int (x3 + 1))]) dX3_placesAhead_22 rfl rfl (by decide) rfl ?_
      refine x_goto (pc := 25) (tgt := 4) dX3_placesAhead_25 rfl ?_
      exact ih hf

def f_X3_placesAhead (h : AH) (x0 : Option Nat) (x1 : Int32) : Option (Int32 × AH) :=
  g_X3_placesAhead_4  NN h x0 x1 0 0

set_option maxRecDepth 100000 in
set_option maxHeartbeats 4000000 in
theorem tm_X3_placesAhead {g : GT} {h : AH} {x0 : Option Nat} {x1 : Int32} {r : Int32} {h' : AH} (hf : f_X3_placesAhead h x0 x1 = some (r, h')) : Xm g mX3_placesAhead [va_rf (x0), .int (x1)] h (some (.int r)) h' := by
  refine xm_of mo_X3_placesAhead (Nat.le_of_ble_eq_true rfl) (ls := [some (va_rf (x0)), some (.int (x1)), none, none]) rfl ?_
  rw [f_X3_placesAhead] at hf
  refine x_iconst (pc := 0) (v := 0) dX3_placesAhead_0 (by decide) ?_
  refine x_istore_n (pc := 1) (ls' := [some (va_rf (x0)), some (.int (x1)), some (.int (0)), none]) dX3_placesAhead_1 (by decide) rfl ?_
  refine x_iconst (pc := 2) (v := 0) dX3_placesAhead_2 (by decide) ?_
  refine x_istore_n (pc := 3) (ls' := [some (va_rf (x0)), some (.int (x1)), some (.int (0)), some (.int (0))]) dX3_placesAhead_3 (by decide) rfl ?_
  exact tg_X3_placesAhead_4  NN hf

def f_X4_mileOf (h : AH) (x0 : Option Nat) (x1 : Int32) : Option (Int32 × AH) :=
  bd (gR h x0 4 1) fun v2 =>
  bd (ldI h v2 0) fun v6 =>
  if v6 ≤ x1 then (
    some (0, h)
  ) else (
    bd (gR h x0 4 3) fun v11 =>
    bd (ldI h v11 x1) fun v15 =>
    some (v15, h)
  )

set_option maxRecDepth 100000 in
set_option maxHeartbeats 4000000 in
theorem tm_X4_mileOf {g : GT} {h : AH} {x0 : Option Nat} {x1 : Int32} {r : Int32} {h' : AH} (hf : f_X4_mileOf h x0 x1 = some (r, h')) : Xm g mX4_mileOf [va_rf (x0), .int (x1)] h (some (.int r)) h' := by
  refine xm_of mo_X4_mileOf (Nat.le_of_ble_eq_true rfl) (ls := [some (va_rf (x0)), some (.int (x1))]) rfl ?_
  rw [f_X4_mileOf] at hf
  refine x_iload_n (pc := 0) (x := x1) dX4_mileOf_0 rfl ?_
  refine x_aload_n (pc := 1) (a := x0) dX4_mileOf_1 rfl ?_
  replace hf := bd_s hf; obtain ⟨v2, e2, hf⟩ := hf
  refine x_getR (pc := 2) dX4_mileOf_2 fl_4_15 e2 ?_
  refine x_iconst (pc := 5) (v := 0) dX4_mileOf_5 (by decide) ?_
  replace hf := bd_s hf; obtain ⟨v6, e6, hf⟩ := hf
  refine x_ldI (pc := 6) dX4_mileOf_6 e6 ?_
  refine x_icmp_ge (pc := 7) (tgt := 19) (x := x1) (y := v6) dX4_mileOf_7 rfl (fun hc => ?_) (fun hc => ?_)
  · replace hf := it_t hc hf
    refine x_iconst (pc := 19) (v := 0) dX4_mileOf_19 (by decide) ?_
    obtain ⟨rfl, rfl⟩ := ret_s hf
    exact x_reti (pc := 20) dX4_mileOf_20 rfl
  · replace hf := it_f hc hf
    refine x_aload_n (pc := 10) (a := x0) dX4_mileOf_10 rfl ?_
    replace hf := bd_s hf; obtain ⟨v11, e11, hf⟩ := hf
    refine x_getR (pc := 11) dX4_mileOf_11 fl_4_21 e11 ?_
    refine x_iload_n (pc := 14) (x := x1) dX4_mileOf_14 rfl ?_
    replace hf := bd_s hf; obtain ⟨v15, e15, hf⟩ := hf
    refine x_ldI (pc := 15) dX4_mileOf_15 e15 ?_
    refine x_goto (pc := 16) (tgt := 20) dX4_mileOf_16 rfl ?_
    obtain ⟨rfl, rfl⟩ := ret_s hf
    exact x_reti (pc := 20) dX4_mileOf_20 rfl

def g_X4_nextClosed_7 : Nat → AH → Option Nat → Int32 → Int32 → Int32 → Int32 → Option (Int32 × AH)
  | 0, _, _, _, _, _, _ => none
  | n + 1, h, x0, x1, x2, x3, x4 =>
    bd (gR h x0 4 1) fun v10 =>
    bd (ldI h v10 1) fun v14 =>
    if v14 ≤ x4 then (
      some (x3, h)
    ) else (
      bd2 (f_X7_holds h x2 x4) fun v21 h21 =>
      if v21 = 0 then (
        g_X4_nextClosed_7  n h21 x0 x1 x2 x3 (x4 + 1)
      ) else (
        bd (gR h21 x0 4 5) fun v28 =>
        bd (ldI h21 v28 x4) fun v33 =>
        if v33 ≤ x1 then (
          g_X4_nextClosed_7  n h21 x0 x1 x2 x3 (x4 + 1)
        ) else (
          bd (gR h21 x0 4 5) fun v40 =>
          bd (ldI h21 v40 x4) fun v45 =>
          g_X4_nextClosed_7  n h21 x0 x1 x2 (if v45 < x3 then v45 else x3) (x4 + 1)
        )
      )
    )

set_option maxRecDepth 100000 in
set_option maxHeartbeats 4000000 in
theorem tg_X4_nextClosed_7 {g : GT} : ∀ (n : Nat) {h : AH} {x0 : Option Nat} {x1 : Int32} {x2 : Int32} {x3 : Int32} {x4 : Int32} {r : Int32} {h' : AH}, g_X4_nextClosed_7 n h x0 x1 x2 x3 x4 = some (r, h') → Xj g mX4_nextClosed h 7 [some (va_rf (x0)), some (.int (x1)), some (.int (x2)), some (.int (x3)), some (.int (x4))] [] (some (.int r)) h' := by
  intro n
  induction n with
  | zero =>
    intros
    rename_i z
    cases z
  | succ n ih =>
    intro h x0 x1 x2 x3 x4 r h' hf
    rw [g_X4_nextClosed_7] at hf
    refine x_iload (pc := 7) (x := x4) dX4_nextClosed_7 rfl ?_
    refine x_aload_n (pc := 9) (a := x0) dX4_nextClosed_9 rfl ?_
    replace hf := bd_s hf; obtain ⟨v10, e10, hf⟩ := hf
    refine x_getR (pc := 10) dX4_nextClosed_10 fl_4_15 e10 ?_
    refine x_iconst (pc := 13) (v := 1) dX4_nextClosed_13 (by decide) ?_
    replace hf := bd_s hf; obtain ⟨v14, e14, hf⟩ := hf
    refine x_ldI (pc := 14) dX4_nextClosed_14 e14 ?_
    refine x_icmp_ge (pc := 15) (tgt := 56) (x := x4) (y := v14) dX4_nextClosed_15 rfl (fun hc => ?_) (fun hc => ?_)
    · replace hf := it_t hc hf
      refine x_iload_n (pc := 56) (x := x3) dX4_nextClosed_56 rfl ?_
      obtain ⟨rfl, rfl⟩ := ret_s hf
      exact x_reti (pc := 57) dX4_nextClosed_57 rfl
    · replace hf := it_f hc hf
      refine x_iload_n (pc := 18) (x := x2) dX4_nextClosed_18 rfl ?_
      refine x_iload (pc := 19) (x := x4) dX4_nextClosed_19 rfl ?_
      replace hf := bd2_s hf; obtain ⟨v21, h21, e21, hf⟩ := hf
      refine x_cNi (pc := 21) (M' := mX7_holds) (as := [.int (x2), .int (x4)]) (st := []) dX4_nextClosed_21 mo_X7_holds lk_4_63 sm_X7_holds ⟨Nat.le_of_ble_eq_true rfl, Nat.le_of_ble_eq_true rfl⟩ rfl (Nat.le_of_ble_eq_true rfl) rfl (tm_X7_holds e21) ?_
      refine x_if_eq (pc := 24) (tgt := 50) (x := v21) dX4_nextClosed_24 rfl (fun hc => ?_) (fun hc => ?_)
      · replace hf := it_t hc hf
        refine x_iinc (pc := 50) (x := x4) (v := x4 + 1) (ls' := [some (va_rf (x0)), some (.int (x1)), some (.int (x2)), some (.int (x3)), some (.int (x4 + 1))]) dX4_nextClosed_50 rfl rfl (by decide) rfl ?_
        refine x_goto (pc := 53) (tgt := 7) dX4_nextClosed_53 rfl ?_
        exact ih hf
      · replace hf := it_f hc hf
        refine x_aload_n (pc := 27) (a := x0) dX4_nextClosed_27 rfl ?_
        replace hf := bd_s hf; obtain ⟨v28, e28, hf⟩ := hf
        refine x_getR (pc := 28) dX4_nextClosed_28 fl_4_28 e28 ?_
        refine x_iload (pc := 31) (x := x4) dX4_nextClosed_31 rfl ?_
        replace hf := bd_s hf; obtain ⟨v33, e33, hf⟩ := hf
        refine x_ldI (pc := 33) dX4_nextClosed_33 e33 ?_
        refine x_iload_n (pc := 34) (x := x1) dX4_nextClosed_34 rfl ?_
        refine x_icmp_le (pc := 35) (tgt := 50) (x := v33) (y := x1) dX4_nextClosed_35 rfl (fun hc => ?_) (fun hc => ?_)
        · replace hf := it_t hc hf
          refine x_iinc (pc := 50) (x := x4) (v := x4 + 1) (ls' := [some (va_rf (x0)), some (.int (x1)), some (.int (x2)), some (.int (x3)), some (.int (x4 + 1))]) dX4_nextClosed_50 rfl rfl (by decide) rfl ?_
          refine x_goto (pc := 53) (tgt := 7) dX4_nextClosed_53 rfl ?_
          exact ih hf
        · replace hf := it_f hc hf
          refine x_iload_n (pc := 38) (x := x3) dX4_nextClosed_38 rfl ?_
          refine x_aload_n (pc := 39) (a := x0) dX4_nextClosed_39 rfl ?_
          replace hf := bd_s hf; obtain ⟨v40, e40, hf⟩ := hf
          refine x_getR (pc := 40) dX4_nextClosed_40 fl_4_28 e40 ?_
          refine x_iload (pc := 43) (x := x4) dX4_nextClosed_43 rfl ?_
          replace hf := bd_s hf; obtain ⟨v45, e45, hf⟩ := hf
          refine x_ldI (pc := 45) dX4_nextClosed_45 e45 ?_
          refine x_min (pc := 46) dX4_nextClosed_46 lm_4_67 ma_min_1 ma_0 ma_min_2 (Nat.le_of_ble_eq_true rfl) (Nat.le_of_ble_eq_true rfl) ?_
          refine x_istore_n (pc := 49) (ls' := [some (va_rf (x0)), some (.int (x1)), some (.int (x2)), some (.int ((if v45 < x3 then v45 else x3))), some (.int (x4))]) dX4_nextClosed_49 (by decide) rfl ?_
          refine x_iinc (pc := 50) (x := x4) (v := x4 + 1) (ls' := [some (va_rf (x0)), some (.int (x1)), some (.int (x2)), some (.int ((if v45 < x3 then v45 else x3))), some (.int (x4 + 1))]) dX4_nextClosed_50 rfl rfl (by decide) rfl ?_
          refine x_goto (pc := 53) (tgt := 7) dX4_nextClosed_53 rfl ?_
          exact ih hf

def f_X4_nextClosed (h : AH) (x0 : Option Nat) (x1 : Int32) (x2 : Int32) : Option (Int32 × AH) :=
  g_X4_nextClosed_7  NN h x0 x1 x2 251 0

set_option maxRecDepth 100000 in
set_option maxHeartbeats 4000000 in
theorem tm_X4_nextClosed {g : GT} {h : AH} {x0 : Option Nat} {x1 : Int32} {x2 : Int32} {r : Int32} {h' : AH} (hf : f_X4_nextClosed h x0 x1 x2 = some (r, h')) : Xm g mX4_nextClosed [va_rf (x0), .int (x1), .int (x2)] h (some (.int r)) h' := by
  refine xm_of mo_X4_nextClosed (Nat.le_of_ble_eq_true rfl) (ls := [some (va_rf (x0)), some (.int (x1)), some (.int (x2)), none, none]) rfl ?_
  rw [f_X4_nextClosed] at hf
  refine x_sipush (pc := 0) (v := 251) dX4_nextClosed_0 (by decide) ?_
  refine x_istore_n (pc := 3) (ls' := [some (va_rf (x0)), some (.int (x1)), some (.int (x2)), some (.int (251)), none]) dX4_nextClosed_3 (by decide) rfl ?_
  refine x_iconst (pc := 4) (v := 0) dX4_nextClosed_4 (by decide) ?_
  refine x_istore (pc := 5) (ls' := [some (va_rf (x0)), some (.int (x1)), some (.int (x2)), some (.int (251)), some (.int (0))]) dX4_nextClosed_5 (by decide) rfl ?_
  exact tg_X4_nextClosed_7  NN hf

def f_X4_leadsToEnd (h : AH) (x0 : Option Nat) (x1 : Int32) (x2 : Int32) (x3 : Int32) : Option (Int32 × AH) :=
  bd (isO h x0 4) fun _ =>
  bd2 (f_X4_mileOf h x0 x1) fun v2 h2 =>
  bd (gR h2 x0 4 0) fun v8 =>
  bd (ldI h2 v8 0) fun v12 =>
  if (v2 + x2) < v12 then (
    some (0, h2)
  ) else (
    bd (gR h2 x0 4 0) fun v21 =>
    bd (ldI h2 v21 0) fun v25 =>
    bd (isO h2 x0 4) fun _ =>
    bd2 (f_X4_nextClosed h2 x0 v2 x3) fun v30 h30 =>
    if v30 < v25 then (
      some (0, h30)
    ) else (
      some (1, h30)
    )
  )

set_option maxRecDepth 100000 in
set_option maxHeartbeats 4000000 in
theorem tm_X4_leadsToEnd {g : GT} {h : AH} {x0 : Option Nat} {x1 : Int32} {x2 : Int32} {x3 : Int32} {r : Int32} {h' : AH} (hf : f_X4_leadsToEnd h x0 x1 x2 x3 = some (r, h')) : Xm g mX4_leadsToEnd [va_rf (x0), .int (x1), .int (x2), .int (x3)] h (some (.int r)) h' := by
  refine xm_of mo_X4_leadsToEnd (Nat.le_of_ble_eq_true rfl) (ls := [some (va_rf (x0)), some (.int (x1)), some (.int (x2)), some (.int (x3)), none]) rfl ?_
  rw [f_X4_leadsToEnd] at hf
  refine x_aload_n (pc := 0) (a := x0) dX4_leadsToEnd_0 rfl ?_
  refine x_iload_n (pc := 1) (x := x1) dX4_leadsToEnd_1 rfl ?_
  replace hf := bd_s hf; obtain ⟨u2, i2, hf⟩ := hf
  replace hf := bd2_s hf; obtain ⟨v2, h2, e2, hf⟩ := hf
  refine x_cVi (pc := 2) (M' := mX4_mileOf) (as := [.int (x1)]) (st := []) (a := x0) (ci := 4) dX4_leadsToEnd_2 mo_X4_mileOf lk_4_70 im_X4_mileOf se_X4_mileOf rfl ⟨Nat.le_of_ble_eq_true rfl, Nat.le_of_ble_eq_true rfl⟩ rfl (Nat.le_of_ble_eq_true rfl) rfl i2 (tm_X4_mileOf e2) ?_
  refine x_istore (pc := 5) (ls' := [some (va_rf (x0)), some (.int (x1)), some (.int (x2)), some (.int (x3)), some (.int (v2))]) dX4_leadsToEnd_5 (by decide) rfl ?_
  refine x_aload_n (pc := 7) (a := x0) dX4_leadsToEnd_7 rfl ?_
  replace hf := bd_s hf; obtain ⟨v8, e8, hf⟩ := hf
  refine x_getR (pc := 8) dX4_leadsToEnd_8 fl_4_11 e8 ?_
  refine x_iconst (pc := 11) (v := 0) dX4_leadsToEnd_11 (by decide) ?_
  replace hf := bd_s hf; obtain ⟨v12, e12, hf⟩ := hf
  refine x_ldI (pc := 12) dX4_leadsToEnd_12 e12 ?_
  refine x_iload (pc := 13) (x := v2) dX4_leadsToEnd_13 rfl ?_
  refine x_iload_n (pc := 15) (x := x2) dX4_leadsToEnd_15 rfl ?_
  refine x_iadd (pc := 16) dX4_leadsToEnd_16 ?_
  refine x_icmp_gt (pc := 17) (tgt := 40) (x := v12) (y := (v2 + x2)) dX4_leadsToEnd_17 rfl (fun hc => ?_) (fun hc => ?_)
  · replace hf := it_t hc hf
    refine x_iconst (pc := 40) (v := 0) dX4_leadsToEnd_40 (by decide) ?_
    obtain ⟨rfl, rfl⟩ := ret_s hf
    exact x_retz (pc := 41) dX4_leadsToEnd_41 rfl (by decide)
  · replace hf := it_f hc hf
    refine x_aload_n (pc := 20) (a := x0) dX4_leadsToEnd_20 rfl ?_
    replace hf := bd_s hf; obtain ⟨v21, e21, hf⟩ := hf
    refine x_getR (pc := 21) dX4_leadsToEnd_21 fl_4_11 e21 ?_
    refine x_iconst (pc := 24) (v := 0) dX4_leadsToEnd_24 (by decide) ?_
    replace hf := bd_s hf; obtain ⟨v25, e25, hf⟩ := hf
    refine x_ldI (pc := 25) dX4_leadsToEnd_25 e25 ?_
    refine x_aload_n (pc := 26) (a := x0) dX4_leadsToEnd_26 rfl ?_
    refine x_iload (pc := 27) (x := v2) dX4_leadsToEnd_27 rfl ?_
    refine x_iload_n (pc := 29) (x := x3) dX4_leadsToEnd_29 rfl ?_
    replace hf := bd_s hf; obtain ⟨u30, i30, hf⟩ := hf
    replace hf := bd2_s hf; obtain ⟨v30, h30, e30, hf⟩ := hf
    refine x_cVi (pc := 30) (M' := mX4_nextClosed) (as := [.int (v2), .int (x3)]) (st := [.int (v25)]) (a := x0) (ci := 4) dX4_leadsToEnd_30 mo_X4_nextClosed lk_4_74 im_X4_nextClosed se_X4_nextClosed rfl ⟨Nat.le_of_ble_eq_true rfl, Nat.le_of_ble_eq_true rfl⟩ rfl (Nat.le_of_ble_eq_true rfl) rfl i30 (tm_X4_nextClosed e30) ?_
    refine x_icmp_gt (pc := 33) (tgt := 40) (x := v25) (y := v30) dX4_leadsToEnd_33 rfl (fun hc => ?_) (fun hc => ?_)
    · replace hf := it_t hc hf
      refine x_iconst (pc := 40) (v := 0) dX4_leadsToEnd_40 (by decide) ?_
      obtain ⟨rfl, rfl⟩ := ret_s hf
      exact x_retz (pc := 41) dX4_leadsToEnd_41 rfl (by decide)
    · replace hf := it_f hc hf
      refine x_iconst (pc := 36) (v := 1) dX4_leadsToEnd_36 (by decide) ?_
      refine x_goto (pc := 37) (tgt := 41) dX4_leadsToEnd_37 rfl ?_
      obtain ⟨rfl, rfl⟩ := ret_s hf
      exact x_retz (pc := 41) dX4_leadsToEnd_41 rfl (by decide)

def g_X3_findEnders_15 : Nat → AH → Option Nat → Option Nat → Int32 → Int32 → Int32 → Int32 → Option AH
  | 0, _, _, _, _, _, _, _ => none
  | n + 1, h, x0, x1, x3, x4, x5, x6 =>
    if 15 ≤ x6 then (
      some h
    ) else (
      bd2 (f_X7_holds h x5 x6) fun v26 h26 =>
      if v26 = 0 then (
        g_X3_findEnders_15  n h26 x0 x1 x3 x4 x5 (x6 + 1)
      ) else (
        bd (isO h26 x1 4) fun _ =>
        bd2 (f_X4_leadsToEnd h26 x1 x6 x3 x4) fun v38 h38 =>
        if v38 = 0 then (
          g_X3_findEnders_15  n h38 x0 x1 x3 x4 x5 (x6 + 1)
        ) else (
          bd (gI h38 x0 3 4) fun v46 =>
          bd (pI h38 x0 3 4 (v46 ||| (1 <<< (x6 &&& 31)))) fun h54 =>
          g_X3_findEnders_15  n h54 x0 x1 x3 x4 x5 (x6 + 1)
        )
      )
    )

set_option maxRecDepth 100000 in
set_option maxHeartbeats 4000000 in
theorem tg_X3_findEnders_15 {g : GT} : ∀ (n : Nat) {h : AH} {x0 : Option Nat} {x1 : Option Nat} {x3 : Int32} {x4 : Int32} {x5 : Int32} {x6 : Int32} {h' : AH}, g_X3_findEnders_15 n h x0 x1 x3 x4 x5 x6 = some h' → Xj g mX3_findEnders h 15 [some (va_rf (x0)), some (va_rf (x1)), none, some (.int (x3)), some (.int (x4)), some (.int (x5)), some (.int (x6))] [] none h' := by
  intro n
  induction n with
  | zero =>
    intros
    rename_i z
    cases z
  | succ n ih =>
    intro h x0 x1 x3 x4 x5 x6 h' hf
    rw [g_X3_findEnders_15] at hf
    refine x_iload (pc := 15) (x := x6) dX3_findEnders_15 rfl ?_
    refine x_bipush (pc := 17) (v := 15) dX3_findEnders_17 (by decide) ?_
    refine x_icmp_ge (pc := 19) (tgt := 63) (x := x6) (y := 15) dX3_findEnders_19 rfl (fun hc => ?_) (fun hc => ?_)
    · replace hf := it_t hc hf
      obtain rfl := Option.some.inj hf
      exact x_vret (pc := 63) dX3_findEnders_63 rfl
    · replace hf := it_f hc hf
      refine x_iload (pc := 22) (x := x5) dX3_findEnders_22 rfl ?_
      refine x_iload (pc := 24) (x := x6) dX3_findEnders_24 rfl ?_
      replace hf := bd2_s hf; obtain ⟨v26, h26, e26, hf⟩ := hf
      refine x_cNi (pc := 26) (M' := mX7_holds) (as := [.int (x5), .int (x6)]) (st := []) dX3_findEnders_26 mo_X7_holds lk_3_86 sm_X7_holds ⟨Nat.le_of_ble_eq_true rfl, Nat.le_of_ble_eq_true rfl⟩ rfl (Nat.le_of_ble_eq_true rfl) rfl (tm_X7_holds e26) ?_
      refine x_if_eq (pc := 29) (tgt := 57) (x := v26) dX3_findEnders_29 rfl (fun hc => ?_) (fun hc => ?_)
      · replace hf := it_t hc hf
        refine x_iinc (pc := 57) (x := x6) (v := x6 + 1) (ls' := [some (va_rf (x0)), some (va_rf (x1)), none, some (.int (x3)), some (.int (x4)), some (.int (x5)), some (.int (x6 + 1))]) dX3_findEnders_57 rfl rfl (by decide) rfl ?_
        refine x_goto (pc := 60) (tgt := 15) dX3_findEnders_60 rfl ?_
        exact ih hf
      · replace hf := it_f hc hf
        refine x_aload_n (pc := 32) (a := x1) dX3_findEnders_32 rfl ?_
        refine x_iload (pc := 33) (x := x6) dX3_findEnders_33 rfl ?_
        refine x_iload_n (pc := 35) (x := x3) dX3_findEnders_35 rfl ?_
        refine x_iload (pc := 36) (x := x4) dX3_findEnders_36 rfl ?_
        replace hf := bd_s hf; obtain ⟨u38, i38, hf⟩ := hf
        replace hf := bd2_s hf; obtain ⟨v38, h38, e38, hf⟩ := hf
        refine x_cVi (pc := 38) (M' := mX4_leadsToEnd) (as := [.int (x6), .int (x3), .int (x4)]) (st := []) (a := x1) (ci := 4) dX3_findEnders_38 mo_X4_leadsToEnd lk_3_104 im_X4_leadsToEnd se_X4_leadsToEnd rfl ⟨Nat.le_of_ble_eq_true rfl, Nat.le_of_ble_eq_true rfl⟩ rfl (Nat.le_of_ble_eq_true rfl) rfl i38 (tm_X4_leadsToEnd e38) ?_
        refine x_if_eq (pc := 41) (tgt := 57) (x := v38) dX3_findEnders_41 rfl (fun hc => ?_) (fun hc => ?_)
        · replace hf := it_t hc hf
          refine x_iinc (pc := 57) (x := x6) (v := x6 + 1) (ls' := [some (va_rf (x0)), some (va_rf (x1)), none, some (.int (x3)), some (.int (x4)), some (.int (x5)), some (.int (x6 + 1))]) dX3_findEnders_57 rfl rfl (by decide) rfl ?_
          refine x_goto (pc := 60) (tgt := 15) dX3_findEnders_60 rfl ?_
          exact ih hf
        · replace hf := it_f hc hf
          refine x_aload_n (pc := 44) (a := x0) dX3_findEnders_44 rfl ?_
          refine x_dup (pc := 45) dX3_findEnders_45 ?_
          replace hf := bd_s hf; obtain ⟨v46, e46, hf⟩ := hf
          refine x_getI (pc := 46) dX3_findEnders_46 fl_3_27 e46 ?_
          refine x_iconst (pc := 49) (v := 1) dX3_findEnders_49 (by decide) ?_
          refine x_iload (pc := 50) (x := x6) dX3_findEnders_50 rfl ?_
          refine x_ishl (pc := 52) dX3_findEnders_52 ?_
          refine x_ior (pc := 53) dX3_findEnders_53 ?_
          replace hf := bd_s hf; obtain ⟨h54, e54, hf⟩ := hf
          refine x_putI (pc := 54) dX3_findEnders_54 fl_3_27 (fW_no rfl) e54 ?_
          refine x_iinc (pc := 57) (x := x6) (v := x6 + 1) (ls' := [some (va_rf (x0)), some (va_rf (x1)), none, some (.int (x3)), some (.int (x4)), some (.int (x5)), some (.int (x6 + 1))]) dX3_findEnders_57 rfl rfl (by decide) rfl ?_
          refine x_goto (pc := 60) (tgt := 15) dX3_findEnders_60 rfl ?_
          exact ih hf

def f_X3_findEnders (h : AH) (x0 : Option Nat) (x1 : Option Nat) (x2 : Int32) (x3 : Int32) (x4 : Int32) : Option AH :=
  bd (isO h x0 3) fun _ =>
  bd2 (f_X3_placesAhead h x0 x2) fun v2 h2 =>
  bd (pI h2 x0 3 4 0) fun h9 =>
  g_X3_findEnders_15  NN h9 x0 x1 x3 x4 v2 0

set_option maxRecDepth 100000 in
set_option maxHeartbeats 4000000 in
theorem tm_X3_findEnders {g : GT} {h : AH} {x0 : Option Nat} {x1 : Option Nat} {x2 : Int32} {x3 : Int32} {x4 : Int32} {h' : AH} (hf : f_X3_findEnders h x0 x1 x2 x3 x4 = some h') : Xm g mX3_findEnders [va_rf (x0), va_rf (x1), .int (x2), .int (x3), .int (x4)] h none h' := by
  refine xm_of mo_X3_findEnders (Nat.le_of_ble_eq_true rfl) (ls := [some (va_rf (x0)), some (va_rf (x1)), some (.int (x2)), some (.int (x3)), some (.int (x4)), none, none]) rfl ?_
  rw [f_X3_findEnders] at hf
  refine x_aload_n (pc := 0) (a := x0) dX3_findEnders_0 rfl ?_
  refine x_iload_n (pc := 1) (x := x2) dX3_findEnders_1 rfl ?_
  replace hf := bd_s hf; obtain ⟨u2, i2, hf⟩ := hf
  replace hf := bd2_s hf; obtain ⟨v2, h2, e2, hf⟩ := hf
  refine x_cVi (pc := 2) (M' := mX3_placesAhead) (as := [.int (x2)]) (st := []) (a := x0) (ci := 3) dX3_findEnders_2 mo_X3_placesAhead lk_3_48 im_X3_placesAhead se_X3_placesAhead rfl ⟨Nat.le_of_ble_eq_true rfl, Nat.le_of_ble_eq_true rfl⟩ rfl (Nat.le_of_ble_eq_true rfl) rfl i2 (tm_X3_placesAhead e2) ?_
  refine x_istore (pc := 5) (ls' := [some (va_rf (x0)), some (va_rf (x1)), some (.int (x2)), some (.int (x3)), some (.int (x4)), some (.int (v2)), none]) dX3_findEnders_5 (by decide) rfl ?_
  refine x_aload_n (pc := 7) (a := x0) dX3_findEnders_7 rfl ?_
  refine x_iconst (pc := 8) (v := 0) dX3_findEnders_8 (by decide) ?_
  replace hf := bd_s hf; obtain ⟨h9, e9, hf⟩ := hf
  refine x_putI (pc := 9) dX3_findEnders_9 fl_3_27 (fW_no rfl) e9 ?_
  refine x_iconst (pc := 12) (v := 0) dX3_findEnders_12 (by decide) ?_
  refine x_istore (pc := 13) (ls' := [some (va_rf (x0)), some (va_rf (x1)), some (.int (x2)), some (.int (x3)), some (.int (x4)), some (.int (v2)), some (.int (0))]) dX3_findEnders_13 (by decide) rfl ?_
  refine x_mask [true, true, false, true, true, true, true] rfl ?_
  exact tg_X3_findEnders_15  NN hf

def f_X7_within (h : AH) (x0 : Int32) (x1 : Int32) (x2 : Int32) : Option (Int32 × AH) :=
  if x0 < x1 then (
    some (0, h)
  ) else (
    if x2 < x0 then (
      some (0, h)
    ) else (
      some (1, h)
    )
  )

set_option maxRecDepth 100000 in
set_option maxHeartbeats 4000000 in
theorem tm_X7_within {g : GT} {h : AH} {x0 : Int32} {x1 : Int32} {x2 : Int32} {r : Int32} {h' : AH} (hf : f_X7_within h x0 x1 x2 = some (r, h')) : Xm g mX7_within [.int (x0), .int (x1), .int (x2)] h (some (.int r)) h' := by
  refine xm_of mo_X7_within (Nat.le_of_ble_eq_true rfl) (ls := [some (.int (x0)), some (.int (x1)), some (.int (x2))]) rfl ?_
  rw [f_X7_within] at hf
  refine x_iload_n (pc := 0) (x := x1) dX7_within_0 rfl ?_
  refine x_iload_n (pc := 1) (x := x0) dX7_within_1 rfl ?_
  refine x_icmp_gt (pc := 2) (tgt := 14) (x := x1) (y := x0) dX7_within_2 rfl (fun hc => ?_) (fun hc => ?_)
  · replace hf := it_t hc hf
    refine x_iconst (pc := 14) (v := 0) dX7_within_14 (by decide) ?_
    obtain ⟨rfl, rfl⟩ := ret_s hf
    exact x_retz (pc := 15) dX7_within_15 rfl (by decide)
  · replace hf := it_f hc hf
    refine x_iload_n (pc := 5) (x := x0) dX7_within_5 rfl ?_
    refine x_iload_n (pc := 6) (x := x2) dX7_within_6 rfl ?_
    refine x_icmp_gt (pc := 7) (tgt := 14) (x := x0) (y := x2) dX7_within_7 rfl (fun hc => ?_) (fun hc => ?_)
    · replace hf := it_t hc hf
      refine x_iconst (pc := 14) (v := 0) dX7_within_14 (by decide) ?_
      obtain ⟨rfl, rfl⟩ := ret_s hf
      exact x_retz (pc := 15) dX7_within_15 rfl (by decide)
    · replace hf := it_f hc hf
      refine x_iconst (pc := 10) (v := 1) dX7_within_10 (by decide) ?_
      refine x_goto (pc := 11) (tgt := 15) dX7_within_11 rfl ?_
      obtain ⟨rfl, rfl⟩ := ret_s hf
      exact x_retz (pc := 15) dX7_within_15 rfl (by decide)

def g_X4_campsAhead_31 : Nat → AH → Option Nat → Int32 → Int32 → Int32 → Int32 → Option (Int32 × AH)
  | 0, _, _, _, _, _, _ => none
  | n + 1, h, x0, x4, x5, x6, x7 =>
    bd (gR h x0 4 1) fun v34 =>
    bd (ldI h v34 0) fun v38 =>
    if v38 ≤ x7 then (
      some (x6, h)
    ) else (
      bd (gR h x0 4 3) fun v43 =>
      bd (ldI h v43 x7) fun v48 =>
      bd2 (f_X7_within h v48 (x4 + 1) x5) fun v55 h55 =>
      if v55 = 0 then (
        g_X4_campsAhead_31  n h55 x0 x4 x5 x6 (x7 + 1)
      ) else (
        g_X4_campsAhead_31  n h55 x0 x4 x5 (x6 ||| (1 <<< (x7 &&& 31))) (x7 + 1)
      )
    )

set_option maxRecDepth 100000 in
set_option maxHeartbeats 4000000 in
theorem tg_X4_campsAhead_31 {g : GT} : ∀ (n : Nat) {h : AH} {x0 : Option Nat} {x4 : Int32} {x5 : Int32} {x6 : Int32} {x7 : Int32} {r : Int32} {h' : AH}, g_X4_campsAhead_31 n h x0 x4 x5 x6 x7 = some (r, h') → Xj g mX4_campsAhead h 31 [some (va_rf (x0)), none, none, none, some (.int (x4)), some (.int (x5)), some (.int (x6)), some (.int (x7))] [] (some (.int r)) h' := by
  intro n
  induction n with
  | zero =>
    intros
    rename_i z
    cases z
  | succ n ih =>
    intro h x0 x4 x5 x6 x7 r h' hf
    rw [g_X4_campsAhead_31] at hf
    refine x_iload (pc := 31) (x := x7) dX4_campsAhead_31 rfl ?_
    refine x_aload_n (pc := 33) (a := x0) dX4_campsAhead_33 rfl ?_
    replace hf := bd_s hf; obtain ⟨v34, e34, hf⟩ := hf
    refine x_getR (pc := 34) dX4_campsAhead_34 fl_4_15 e34 ?_
    refine x_iconst (pc := 37) (v := 0) dX4_campsAhead_37 (by decide) ?_
    replace hf := bd_s hf; obtain ⟨v38, e38, hf⟩ := hf
    refine x_ldI (pc := 38) dX4_campsAhead_38 e38 ?_
    refine x_icmp_ge (pc := 39) (tgt := 76) (x := x7) (y := v38) dX4_campsAhead_39 rfl (fun hc => ?_) (fun hc => ?_)
    · replace hf := it_t hc hf
      refine x_iload (pc := 76) (x := x6) dX4_campsAhead_76 rfl ?_
      obtain ⟨rfl, rfl⟩ := ret_s hf
      exact x_reti (pc := 78) dX4_campsAhead_78 rfl
    · replace hf := it_f hc hf
      refine x_aload_n (pc := 42) (a := x0) dX4_campsAhead_42 rfl ?_
      replace hf := bd_s hf; obtain ⟨v43, e43, hf⟩ := hf
      refine x_getR (pc := 43) dX4_campsAhead_43 fl_4_21 e43 ?_
      refine x_iload (pc := 46) (x := x7) dX4_campsAhead_46 rfl ?_
      replace hf := bd_s hf; obtain ⟨v48, e48, hf⟩ := hf
      refine x_ldI (pc := 48) dX4_campsAhead_48 e48 ?_
      refine x_iload (pc := 49) (x := x4) dX4_campsAhead_49 rfl ?_
      refine x_iconst (pc := 51) (v := 1) dX4_campsAhead_51 (by decide) ?_
      refine x_iadd (pc := 52) dX4_campsAhead_52 ?_
      refine x_iload (pc := 53) (x := x5) dX4_campsAhead_53 rfl ?_
      replace hf := bd2_s hf; obtain ⟨v55, h55, e55, hf⟩ := hf
      refine x_cNi (pc := 55) (M' := mX7_within) (as := [.int (v48), .int (x4 + 1), .int (x5)]) (st := []) dX4_campsAhead_55 mo_X7_within lk_4_56 sm_X7_within ⟨Nat.le_of_ble_eq_true rfl, Nat.le_of_ble_eq_true rfl⟩ rfl (Nat.le_of_ble_eq_true rfl) rfl (tm_X7_within e55) ?_
      refine x_if_eq (pc := 58) (tgt := 70) (x := v55) dX4_campsAhead_58 rfl (fun hc => ?_) (fun hc => ?_)
      · replace hf := it_t hc hf
        refine x_iinc (pc := 70) (x := x7) (v := x7 + 1) (ls' := [some (va_rf (x0)), none, none, none, some (.int (x4)), some (.int (x5)), some (.int (x6)), some (.int (x7 + 1))]) dX4_campsAhead_70 rfl rfl (by decide) rfl ?_
        refine x_goto (pc := 73) (tgt := 31) dX4_campsAhead_73 rfl ?_
        exact ih hf
      · replace hf := it_f hc hf
        refine x_iload (pc := 61) (x := x6) dX4_campsAhead_61 rfl ?_
        refine x_iconst (pc := 63) (v := 1) dX4_campsAhead_63 (by decide) ?_
        refine x_iload (pc := 64) (x := x7) dX4_campsAhead_64 rfl ?_
        refine x_ishl (pc := 66) dX4_campsAhead_66 ?_
        refine x_ior (pc := 67) dX4_campsAhead_67 ?_
        refine x_istore (pc := 68) (ls' := [some (va_rf (x0)), none, none, none, some (.int (x4)), some (.int (x5)), some (.int (x6 ||| (1 <<< (x7 &&& 31)))), some (.int (x7))]) dX4_campsAhead_68 (by decide) rfl ?_
        refine x_iinc (pc := 70) (x := x7) (v := x7 + 1) (ls' := [some (va_rf (x0)), none, none, none, some (.int (x4)), some (.int (x5)), some (.int (x6 ||| (1 <<< (x7 &&& 31)))), some (.int (x7 + 1))]) dX4_campsAhead_70 rfl rfl (by decide) rfl ?_
        refine x_goto (pc := 73) (tgt := 31) dX4_campsAhead_73 rfl ?_
        exact ih hf

def f_X4_campsAhead (h : AH) (x0 : Option Nat) (x1 : Int32) (x2 : Int32) (x3 : Int32) : Option (Int32 × AH) :=
  bd (isO h x0 4) fun _ =>
  bd2 (f_X4_mileOf h x0 x1) fun v2 h2 =>
  bd (isO h2 x0 4) fun _ =>
  bd2 (f_X4_nextClosed h2 x0 v2 x3) fun v15 h15 =>
  g_X4_campsAhead_31  NN h15 x0 v2 (if (v15 - 1) < (v2 + x2) then (v15 - 1) else (v2 + x2)) 0 0

set_option maxRecDepth 100000 in
set_option maxHeartbeats 4000000 in
theorem tm_X4_campsAhead {g : GT} {h : AH} {x0 : Option Nat} {x1 : Int32} {x2 : Int32} {x3 : Int32} {r : Int32} {h' : AH} (hf : f_X4_campsAhead h x0 x1 x2 x3 = some (r, h')) : Xm g mX4_campsAhead [va_rf (x0), .int (x1), .int (x2), .int (x3)] h (some (.int r)) h' := by
  refine xm_of mo_X4_campsAhead (Nat.le_of_ble_eq_true rfl) (ls := [some (va_rf (x0)), some (.int (x1)), some (.int (x2)), some (.int (x3)), none, none, none, none]) rfl ?_
  rw [f_X4_campsAhead] at hf
  refine x_aload_n (pc := 0) (a := x0) dX4_campsAhead_0 rfl ?_
  refine x_iload_n (pc := 1) (x := x1) dX4_campsAhead_1 rfl ?_
  replace hf := bd_s hf; obtain ⟨u2, i2, hf⟩ := hf
  replace hf := bd2_s hf; obtain ⟨v2, h2, e2, hf⟩ := hf
  refine x_cVi (pc := 2) (M' := mX4_mileOf) (as := [.int (x1)]) (st := []) (a := x0) (ci := 4) dX4_campsAhead_2 mo_X4_mileOf lk_4_70 im_X4_mileOf se_X4_mileOf rfl ⟨Nat.le_of_ble_eq_true rfl, Nat.le_of_ble_eq_true rfl⟩ rfl (Nat.le_of_ble_eq_true rfl) rfl i2 (tm_X4_mileOf e2) ?_
  refine x_istore (pc := 5) (ls' := [some (va_rf (x0)), some (.int (x1)), some (.int (x2)), some (.int (x3)), some (.int (v2)), none, none, none]) dX4_campsAhead_5 (by decide) rfl ?_
  refine x_iload (pc := 7) (x := v2) dX4_campsAhead_7 rfl ?_
  refine x_iload_n (pc := 9) (x := x2) dX4_campsAhead_9 rfl ?_
  refine x_iadd (pc := 10) dX4_campsAhead_10 ?_
  refine x_aload_n (pc := 11) (a := x0) dX4_campsAhead_11 rfl ?_
  refine x_iload (pc := 12) (x := v2) dX4_campsAhead_12 rfl ?_
  refine x_iload_n (pc := 14) (x := x3) dX4_campsAhead_14 rfl ?_
  replace hf := bd_s hf; obtain ⟨u15, i15, hf⟩ := hf
  replace hf := bd2_s hf; obtain ⟨v15, h15, e15, hf⟩ := hf
  refine x_cVi (pc := 15) (M' := mX4_nextClosed) (as := [.int (v2), .int (x3)]) (st := [.int (v2 + x2)]) (a := x0) (ci := 4) dX4_campsAhead_15 mo_X4_nextClosed lk_4_74 im_X4_nextClosed se_X4_nextClosed rfl ⟨Nat.le_of_ble_eq_true rfl, Nat.le_of_ble_eq_true rfl⟩ rfl (Nat.le_of_ble_eq_true rfl) rfl i15 (tm_X4_nextClosed e15) ?_
  refine x_iconst (pc := 18) (v := 1) dX4_campsAhead_18 (by decide) ?_
  refine x_isub (pc := 19) dX4_campsAhead_19 ?_
  refine x_min (pc := 20) dX4_campsAhead_20 lm_4_67 ma_min_1 ma_0 ma_min_2 (Nat.le_of_ble_eq_true rfl) (Nat.le_of_ble_eq_true rfl) ?_
  refine x_istore (pc := 23) (ls' := [some (va_rf (x0)), some (.int (x1)), some (.int (x2)), some (.int (x3)), some (.int (v2)), some (.int ((if (v15 - 1) < (v2 + x2) then (v15 - 1) else (v2 + x2)))), none, none]) dX4_campsAhead_23 (by decide) rfl ?_
  refine x_iconst (pc := 25) (v := 0) dX4_campsAhead_25 (by decide) ?_
  refine x_istore (pc := 26) (ls' := [some (va_rf (x0)), some (.int (x1)), some (.int (x2)), some (.int (x3)), some (.int (v2)), some (.int ((if (v15 - 1) < (v2 + x2) then (v15 - 1) else (v2 + x2)))), some (.int (0)), none]) dX4_campsAhead_26 (by decide) rfl ?_
  refine x_iconst (pc := 28) (v := 0) dX4_campsAhead_28 (by decide) ?_
  refine x_istore (pc := 29) (ls' := [some (va_rf (x0)), some (.int (x1)), some (.int (x2)), some (.int (x3)), some (.int (v2)), some (.int ((if (v15 - 1) < (v2 + x2) then (v15 - 1) else (v2 + x2)))), some (.int (0)), some (.int (0))]) dX4_campsAhead_29 (by decide) rfl ?_
  refine x_mask [true, false, false, false, true, true, true, true] rfl ?_
  exact tg_X4_campsAhead_31  NN hf

def g_X3_findLeads_10 : Nat → AH → Option Nat → Option Nat → Int32 → Int32 → Int32 → Int32 → Int32 → Int32 → Option AH
  | 0, _, _, _, _, _, _, _, _, _ => none
  | n + 1, h, x0, x1, x2, x3, x4, x5, x6, x7 =>
    if 15 ≤ x7 then (
      some h
    ) else (
      bd (gR h x0 3 3) fun v18 =>
      bd2 (f_X7_holds h x6 x7) fun v32 h32 =>
      if v32 = 0 then (
        bd (stI h32 v18 ((x2 * 15) + x7) 0) fun h54 =>
        g_X3_findLeads_10  n h54 x0 x1 x2 x3 x4 x5 x6 (x7 + 1)
      ) else (
        bd (isO h32 x1 4) fun _ =>
        bd2 (f_X4_campsAhead h32 x1 x7 x3 x4) fun v44 h44 =>
        bd (stI h44 v18 ((x2 * 15) + x7) (v44 &&& x5)) fun h54 =>
        g_X3_findLeads_10  n h54 x0 x1 x2 x3 x4 x5 x6 (x7 + 1)
      )
    )

set_option maxRecDepth 100000 in
set_option maxHeartbeats 4000000 in
theorem tg_X3_findLeads_10 {g : GT} : ∀ (n : Nat) {h : AH} {x0 : Option Nat} {x1 : Option Nat} {x2 : Int32} {x3 : Int32} {x4 : Int32} {x5 : Int32} {x6 : Int32} {x7 : Int32} {h' : AH}, g_X3_findLeads_10 n h x0 x1 x2 x3 x4 x5 x6 x7 = some h' → Xj g mX3_findLeads h 10 [some (va_rf (x0)), some (va_rf (x1)), some (.int (x2)), some (.int (x3)), some (.int (x4)), some (.int (x5)), some (.int (x6)), some (.int (x7))] [] none h' := by
  intro n
  induction n with
  | zero =>
    intros
    rename_i z
    cases z
  | succ n ih =>
    intro h x0 x1 x2 x3 x4 x5 x6 x7 h' hf
    rw [g_X3_findLeads_10] at hf
    refine x_iload (pc := 10) (x := x7) dX3_findLeads_10 rfl ?_
    refine x_bipush (pc := 12) (v := 15) dX3_findLeads_12 (by decide) ?_
    refine x_icmp_ge (pc := 14) (tgt := 61) (x := x7) (y := 15) dX3_findLeads_14 rfl (fun hc => ?_) (fun hc => ?_)
    · replace hf := it_t hc hf
      obtain rfl := Option.some.inj hf
      exact x_vret (pc := 61) dX3_findLeads_61 rfl
    · replace hf := it_f hc hf
      refine x_aload_n (pc := 17) (a := x0) dX3_findLeads_17 rfl ?_
      replace hf := bd_s hf; obtain ⟨v18, e18, hf⟩ := hf
      refine x_getR (pc := 18) dX3_findLeads_18 fl_3_24 e18 ?_
      refine x_iload_n (pc := 21) (x := x2) dX3_findLeads_21 rfl ?_
      refine x_bipush (pc := 22) (v := 15) dX3_findLeads_22 (by decide) ?_
      refine x_imul (pc := 24) dX3_findLeads_24 ?_
      refine x_iload (pc := 25) (x := x7) dX3_findLeads_25 rfl ?_
      refine x_iadd (pc := 27) dX3_findLeads_27 ?_
      refine x_iload (pc := 28) (x := x6) dX3_findLeads_28 rfl ?_
      refine x_iload (pc := 30) (x := x7) dX3_findLeads_30 rfl ?_
      replace hf := bd2_s hf; obtain ⟨v32, h32, e32, hf⟩ := hf
      refine x_cNi (pc := 32) (M' := mX7_holds) (as := [.int (x6), .int (x7)]) (st := [.int ((x2 * 15) + x7), va_rf (v18)]) dX3_findLeads_32 mo_X7_holds lk_3_86 sm_X7_holds ⟨Nat.le_of_ble_eq_true rfl, Nat.le_of_ble_eq_true rfl⟩ rfl (Nat.le_of_ble_eq_true rfl) rfl (tm_X7_holds e32) ?_
      refine x_if_eq (pc := 35) (tgt := 53) (x := v32) dX3_findLeads_35 rfl (fun hc => ?_) (fun hc => ?_)
      · replace hf := it_t hc hf
        refine x_iconst (pc := 53) (v := 0) dX3_findLeads_53 (by decide) ?_
        replace hf := bd_s hf; obtain ⟨h54, e54, hf⟩ := hf
        refine x_stI (pc := 54) dX3_findLeads_54 e54 ?_
        refine x_iinc (pc := 55) (x := x7) (v := x7 + 1) (ls' := [some (va_rf (x0)), some (va_rf (x1)), some (.int (x2)), some (.int (x3)), some (.int (x4)), some (.int (x5)), some (.int (x6)), some (.int (x7 + 1))]) dX3_findLeads_55 rfl rfl (by decide) rfl ?_
        refine x_goto (pc := 58) (tgt := 10) dX3_findLeads_58 rfl ?_
        exact ih hf
      · replace hf := it_f hc hf
        refine x_aload_n (pc := 38) (a := x1) dX3_findLeads_38 rfl ?_
        refine x_iload (pc := 39) (x := x7) dX3_findLeads_39 rfl ?_
        refine x_iload_n (pc := 41) (x := x3) dX3_findLeads_41 rfl ?_
        refine x_iload (pc := 42) (x := x4) dX3_findLeads_42 rfl ?_
        replace hf := bd_s hf; obtain ⟨u44, i44, hf⟩ := hf
        replace hf := bd2_s hf; obtain ⟨v44, h44, e44, hf⟩ := hf
        refine x_cVi (pc := 44) (M' := mX4_campsAhead) (as := [.int (x7), .int (x3), .int (x4)]) (st := [.int ((x2 * 15) + x7), va_rf (v18)]) (a := x1) (ci := 4) dX3_findLeads_44 mo_X4_campsAhead lk_3_108 im_X4_campsAhead se_X4_campsAhead rfl ⟨Nat.le_of_ble_eq_true rfl, Nat.le_of_ble_eq_true rfl⟩ rfl (Nat.le_of_ble_eq_true rfl) rfl i44 (tm_X4_campsAhead e44) ?_
        refine x_iload (pc := 47) (x := x5) dX3_findLeads_47 rfl ?_
        refine x_iand (pc := 49) dX3_findLeads_49 ?_
        refine x_goto (pc := 50) (tgt := 54) dX3_findLeads_50 rfl ?_
        replace hf := bd_s hf; obtain ⟨h54, e54, hf⟩ := hf
        refine x_stI (pc := 54) dX3_findLeads_54 e54 ?_
        refine x_iinc (pc := 55) (x := x7) (v := x7 + 1) (ls' := [some (va_rf (x0)), some (va_rf (x1)), some (.int (x2)), some (.int (x3)), some (.int (x4)), some (.int (x5)), some (.int (x6)), some (.int (x7 + 1))]) dX3_findLeads_55 rfl rfl (by decide) rfl ?_
        refine x_goto (pc := 58) (tgt := 10) dX3_findLeads_58 rfl ?_
        exact ih hf

def f_X3_findLeads (h : AH) (x0 : Option Nat) (x1 : Option Nat) (x2 : Int32) (x3 : Int32) (x4 : Int32) (x5 : Int32) : Option AH :=
  bd (isO h x0 3) fun _ =>
  bd2 (f_X3_placesAhead h x0 x2) fun v2 h2 =>
  g_X3_findLeads_10  NN h2 x0 x1 x2 x3 x4 x5 v2 0

set_option maxRecDepth 100000 in
set_option maxHeartbeats 4000000 in
theorem tm_X3_findLeads {g : GT} {h : AH} {x0 : Option Nat} {x1 : Option Nat} {x2 : Int32} {x3 : Int32} {x4 : Int32} {x5 : Int32} {h' : AH} (hf : f_X3_findLeads h x0 x1 x2 x3 x4 x5 = some h') : Xm g mX3_findLeads [va_rf (x0), va_rf (x1), .int (x2), .int (x3), .int (x4), .int (x5)] h none h' := by
  refine xm_of mo_X3_findLeads (Nat.le_of_ble_eq_true rfl) (ls := [some (va_rf (x0)), some (va_rf (x1)), some (.int (x2)), some (.int (x3)), some (.int (x4)), some (.int (x5)), none, none]) rfl ?_
  rw [f_X3_findLeads] at hf
  refine x_aload_n (pc := 0) (a := x0) dX3_findLeads_0 rfl ?_
  refine x_iload_n (pc := 1) (x := x2) dX3_findLeads_1 rfl ?_
  replace hf := bd_s hf; obtain ⟨u2, i2, hf⟩ := hf
  replace hf := bd2_s hf; obtain ⟨v2, h2, e2, hf⟩ := hf
  refine x_cVi (pc := 2) (M' := mX3_placesAhead) (as := [.int (x2)]) (st := []) (a := x0) (ci := 3) dX3_findLeads_2 mo_X3_placesAhead lk_3_48 im_X3_placesAhead se_X3_placesAhead rfl ⟨Nat.le_of_ble_eq_true rfl, Nat.le_of_ble_eq_true rfl⟩ rfl (Nat.le_of_ble_eq_true rfl) rfl i2 (tm_X3_placesAhead e2) ?_
  refine x_istore (pc := 5) (ls' := [some (va_rf (x0)), some (va_rf (x1)), some (.int (x2)), some (.int (x3)), some (.int (x4)), some (.int (x5)), some (.int (v2)), none]) dX3_findLeads_5 (by decide) rfl ?_
  refine x_iconst (pc := 7) (v := 0) dX3_findLeads_7 (by decide) ?_
  refine x_istore (pc := 8) (ls' := [some (va_rf (x0)), some (va_rf (x1)), some (.int (x2)), some (.int (x3)), some (.int (x4)), some (.int (x5)), some (.int (v2)), some (.int (0))]) dX3_findLeads_8 (by decide) rfl ?_
  exact tg_X3_findLeads_10  NN hf

def f_X3_init (h : AH) (x0 : Nat) : Option AH :=
  bd (pI h (some x0) 3 0 0) fun h6 =>
  bd2 (nA h6 0 15) fun v12 h12 =>
  bd (pR h12 (some x0) 3 1 v12) fun h14 =>
  bd2 (nA h14 0 48) fun v20 h20 =>
  bd (pR h20 (some x0) 3 2 v20) fun h22 =>
  bd2 (nA h22 0 225) fun v29 h29 =>
  bd (pR h29 (some x0) 3 3 v29) fun h31 =>
  bd (pI h31 (some x0) 3 4 0) fun h36 =>
  some h36

set_option maxRecDepth 100000 in
set_option maxHeartbeats 4000000 in
theorem tm_X3_init {g : GT} {h : AH} {x0 : Nat} {h' : AH} (hf : f_X3_init h x0 = some h') : Xm g mX3_init [va_rf (some x0)] h none h' := by
  refine xm_of mo_X3_init (Nat.le_of_ble_eq_true rfl) (ls := [some (va_rf (some x0))]) rfl ?_
  rw [f_X3_init] at hf
  refine x_aload_n (pc := 0) (a := some x0) dX3_init_0 rfl ?_
  refine x_objInit (pc := 1) dX3_init_1 lo_3_7 oi_1 oi_2 (Nat.le_of_ble_eq_true rfl) (Nat.le_of_ble_eq_true rfl) ?_
  refine x_aload_n (pc := 4) (a := some x0) dX3_init_4 rfl ?_
  refine x_iconst (pc := 5) (v := 0) dX3_init_5 (by decide) ?_
  replace hf := bd_s hf; obtain ⟨h6, e6, hf⟩ := hf
  refine x_putI (pc := 6) dX3_init_6 fl_3_13 (fW_no rfl) e6 ?_
  refine x_aload_n (pc := 9) (a := some x0) dX3_init_9 rfl ?_
  refine x_bipush (pc := 10) (v := 15) dX3_init_10 (by decide) ?_
  replace hf := bd2_s hf; obtain ⟨v12, h12, e12, hf⟩ := hf
  refine x_nI (pc := 12) dX3_init_12 ac_int e12 ?_
  replace hf := bd_s hf; obtain ⟨h14, e14, hf⟩ := hf
  refine x_putR (pc := 14) dX3_init_14 fl_3_17 (fW_in rfl rfl) e14 ?_
  refine x_aload_n (pc := 17) (a := some x0) dX3_init_17 rfl ?_
  refine x_bipush (pc := 18) (v := 48) dX3_init_18 (by decide) ?_
  replace hf := bd2_s hf; obtain ⟨v20, h20, e20, hf⟩ := hf
  refine x_nI (pc := 20) dX3_init_20 ac_int e20 ?_
  replace hf := bd_s hf; obtain ⟨h22, e22, hf⟩ := hf
  refine x_putR (pc := 22) dX3_init_22 fl_3_21 (fW_in rfl rfl) e22 ?_
  refine x_aload_n (pc := 25) (a := some x0) dX3_init_25 rfl ?_
  refine x_sipush (pc := 26) (v := 225) dX3_init_26 (by decide) ?_
  replace hf := bd2_s hf; obtain ⟨v29, h29, e29, hf⟩ := hf
  refine x_nI (pc := 29) dX3_init_29 ac_int e29 ?_
  replace hf := bd_s hf; obtain ⟨h31, e31, hf⟩ := hf
  refine x_putR (pc := 31) dX3_init_31 fl_3_24 (fW_in rfl rfl) e31 ?_
  refine x_aload_n (pc := 34) (a := some x0) dX3_init_34 rfl ?_
  refine x_iconst (pc := 35) (v := 0) dX3_init_35 (by decide) ?_
  replace hf := bd_s hf; obtain ⟨h36, e36, hf⟩ := hf
  refine x_putI (pc := 36) dX3_init_36 fl_3_27 (fW_no rfl) e36 ?_
  obtain rfl := Option.some.inj hf
  exact x_vret (pc := 39) dX3_init_39 rfl

def f_X6_size (h : AH) (x0 : Option Nat) : Option (Int32 × AH) :=
  bd (gR h x0 6 0) fun v1 =>
  bd (ldI h v1 0) fun v5 =>
  some (v5, h)

set_option maxRecDepth 100000 in
set_option maxHeartbeats 4000000 in
theorem tm_X6_size {g : GT} {h : AH} {x0 : Option Nat} {r : Int32} {h' : AH} (hf : f_X6_size h x0 = some (r, h')) : Xm g mX6_size [va_rf (x0)] h (some (.int r)) h' := by
  refine xm_of mo_X6_size (Nat.le_of_ble_eq_true rfl) (ls := [some (va_rf (x0))]) rfl ?_
  rw [f_X6_size] at hf
  refine x_aload_n (pc := 0) (a := x0) dX6_size_0 rfl ?_
  replace hf := bd_s hf; obtain ⟨v1, e1, hf⟩ := hf
  refine x_getR (pc := 1) dX6_size_1 fl_6_11 e1 ?_
  refine x_iconst (pc := 4) (v := 0) dX6_size_4 (by decide) ?_
  replace hf := bd_s hf; obtain ⟨v5, e5, hf⟩ := hf
  refine x_ldI (pc := 5) dX6_size_5 e5 ?_
  obtain ⟨rfl, rfl⟩ := ret_s hf
  exact x_reti (pc := 6) dX6_size_6 rfl

def f_X6_index (h : AH) (x0 : Option Nat) (x1 : Int32) (x2 : Int32) : Option (Int32 × AH) :=
  some ((x1 * 35) + x2, h)

set_option maxRecDepth 100000 in
set_option maxHeartbeats 4000000 in
theorem tm_X6_index {g : GT} {h : AH} {x0 : Option Nat} {x1 : Int32} {x2 : Int32} {r : Int32} {h' : AH} (hf : f_X6_index h x0 x1 x2 = some (r, h')) : Xm g mX6_index [va_rf (x0), .int (x1), .int (x2)] h (some (.int r)) h' := by
  refine xm_of mo_X6_index (Nat.le_of_ble_eq_true rfl) (ls := [some (va_rf (x0)), some (.int (x1)), some (.int (x2))]) rfl ?_
  rw [f_X6_index] at hf
  refine x_iload_n (pc := 0) (x := x1) dX6_index_0 rfl ?_
  refine x_bipush (pc := 1) (v := 35) dX6_index_1 (by decide) ?_
  refine x_imul (pc := 3) dX6_index_3 ?_
  refine x_iload_n (pc := 4) (x := x2) dX6_index_4 rfl ?_
  refine x_iadd (pc := 5) dX6_index_5 ?_
  obtain ⟨rfl, rfl⟩ := ret_s hf
  exact x_reti (pc := 6) dX6_index_6 rfl

def f_X6_write (h : AH) (x0 : Option Nat) (x1 : Int32) (x2 : Int32) (x3 : Int32) : Option AH :=
  bd (gR h x0 6 1) fun v1 =>
  bd (isO h x0 6) fun _ =>
  bd2 (f_X6_index h x0 x1 x2) fun v7 h7 =>
  bd (stI h7 v1 v7 x3) fun h11 =>
  some h11

set_option maxRecDepth 100000 in
set_option maxHeartbeats 4000000 in
theorem tm_X6_write {g : GT} {h : AH} {x0 : Option Nat} {x1 : Int32} {x2 : Int32} {x3 : Int32} {h' : AH} (hf : f_X6_write h x0 x1 x2 x3 = some h') : Xm g mX6_write [va_rf (x0), .int (x1), .int (x2), .int (x3)] h none h' := by
  refine xm_of mo_X6_write (Nat.le_of_ble_eq_true rfl) (ls := [some (va_rf (x0)), some (.int (x1)), some (.int (x2)), some (.int (x3))]) rfl ?_
  rw [f_X6_write] at hf
  refine x_aload_n (pc := 0) (a := x0) dX6_write_0 rfl ?_
  replace hf := bd_s hf; obtain ⟨v1, e1, hf⟩ := hf
  refine x_getR (pc := 1) dX6_write_1 fl_6_15 e1 ?_
  refine x_aload_n (pc := 4) (a := x0) dX6_write_4 rfl ?_
  refine x_iload_n (pc := 5) (x := x1) dX6_write_5 rfl ?_
  refine x_iload_n (pc := 6) (x := x2) dX6_write_6 rfl ?_
  replace hf := bd_s hf; obtain ⟨u7, i7, hf⟩ := hf
  replace hf := bd2_s hf; obtain ⟨v7, h7, e7, hf⟩ := hf
  refine x_cVi (pc := 7) (M' := mX6_index) (as := [.int (x1), .int (x2)]) (st := [va_rf (v1)]) (a := x0) (ci := 6) dX6_write_7 mo_X6_index lk_6_21 im_X6_index se_X6_index rfl ⟨Nat.le_of_ble_eq_true rfl, Nat.le_of_ble_eq_true rfl⟩ rfl (Nat.le_of_ble_eq_true rfl) rfl i7 (tm_X6_index e7) ?_
  refine x_iload_n (pc := 10) (x := x3) dX6_write_10 rfl ?_
  replace hf := bd_s hf; obtain ⟨h11, e11, hf⟩ := hf
  refine x_stI (pc := 11) dX6_write_11 e11 ?_
  obtain rfl := Option.some.inj hf
  exact x_vret (pc := 12) dX6_write_12 rfl

def g_X6_clearNights_2 : Nat → AH → Option Nat → Int32 → Int32 → Option AH
  | 0, _, _, _, _ => none
  | n + 1, h, x0, x1, x2 =>
    if 30 ≤ x2 then (
      some h
    ) else (
      bd (isO h x0 6) fun _ =>
      bd (f_X6_write h x0 x1 (5 + x2) (-1)) fun h14 =>
      g_X6_clearNights_2  n h14 x0 x1 (x2 + 1)
    )

set_option maxRecDepth 100000 in
set_option maxHeartbeats 4000000 in
theorem tg_X6_clearNights_2 {g : GT} : ∀ (n : Nat) {h : AH} {x0 : Option Nat} {x1 : Int32} {x2 : Int32} {h' : AH}, g_X6_clearNights_2 n h x0 x1 x2 = some h' → Xj g mX6_clearNights h 2 [some (va_rf (x0)), some (.int (x1)), some (.int (x2))] [] none h' := by
  intro n
  induction n with
  | zero =>
    intros
    rename_i z
    cases z
  | succ n ih =>
    intro h x0 x1 x2 h' hf
    rw [g_X6_clearNights_2] at hf
    refine x_iload_n (pc := 2) (x := x2) dX6_clearNights_2 rfl ?_
    refine x_bipush (pc := 3) (v := 30) dX6_clearNights_3 (by decide) ?_
    refine x_icmp_ge (pc := 5) (tgt := 23) (x := x2) (y := 30) dX6_clearNights_5 rfl (fun hc => ?_) (fun hc => ?_)
    · replace hf := it_t hc hf
      obtain rfl := Option.some.inj hf
      exact x_vret (pc := 23) dX6_clearNights_23 rfl
    · replace hf := it_f hc hf
      refine x_aload_n (pc := 8) (a := x0) dX6_clearNights_8 rfl ?_
      refine x_iload_n (pc := 9) (x := x1) dX6_clearNights_9 rfl ?_
      refine x_iconst (pc := 10) (v := 5) dX6_clearNights_10 (by decide) ?_
      refine x_iload_n (pc := 11) (x := x2) dX6_clearNights_11 rfl ?_
      refine x_iadd (pc := 12) dX6_clearNights_12 ?_
      refine x_iconst (pc := 13) (v := -1) dX6_clearNights_13 (by decide) ?_
      replace hf := bd_s hf; obtain ⟨u14, i14, hf⟩ := hf
      replace hf := bd_s hf; obtain ⟨h14, e14, hf⟩ := hf
      refine x_cVv (pc := 14) (M' := mX6_write) (as := [.int (x1), .int (5 + x2), .int ((-1))]) (st := []) (a := x0) (ci := 6) dX6_clearNights_14 mo_X6_write lk_6_25 im_X6_write se_X6_write rfl ⟨Nat.le_of_ble_eq_true rfl, Nat.le_of_ble_eq_true rfl⟩ rfl (Nat.le_of_ble_eq_true rfl) rfl i14 (tm_X6_write e14) ?_
      refine x_iinc (pc := 17) (x := x2) (v := x2 + 1) (ls' := [some (va_rf (x0)), some (.int (x1)), some (.int (x2 + 1))]) dX6_clearNights_17 rfl rfl (by decide) rfl ?_
      refine x_goto (pc := 20) (tgt := 2) dX6_clearNights_20 rfl ?_
      exact ih hf

def f_X6_clearNights (h : AH) (x0 : Option Nat) (x1 : Int32) : Option AH :=
  g_X6_clearNights_2  NN h x0 x1 0

set_option maxRecDepth 100000 in
set_option maxHeartbeats 4000000 in
theorem tm_X6_clearNights {g : GT} {h : AH} {x0 : Option Nat} {x1 : Int32} {h' : AH} (hf : f_X6_clearNights h x0 x1 = some h') : Xm g mX6_clearNights [va_rf (x0), .int (x1)] h none h' := by
  refine xm_of mo_X6_clearNights (Nat.le_of_ble_eq_true rfl) (ls := [some (va_rf (x0)), some (.int (x1)), none]) rfl ?_
  rw [f_X6_clearNights] at hf
  refine x_iconst (pc := 0) (v := 0) dX6_clearNights_0 (by decide) ?_
  refine x_istore_n (pc := 1) (ls' := [some (va_rf (x0)), some (.int (x1)), some (.int (0))]) dX6_clearNights_1 (by decide) rfl ?_
  exact tg_X6_clearNights_2  NN hf

def f_X6_read (h : AH) (x0 : Option Nat) (x1 : Int32) (x2 : Int32) : Option (Int32 × AH) :=
  bd (gR h x0 6 1) fun v1 =>
  bd (isO h x0 6) fun _ =>
  bd2 (f_X6_index h x0 x1 x2) fun v7 h7 =>
  bd (ldI h7 v1 v7) fun v10 =>
  some (v10, h7)

set_option maxRecDepth 100000 in
set_option maxHeartbeats 4000000 in
theorem tm_X6_read {g : GT} {h : AH} {x0 : Option Nat} {x1 : Int32} {x2 : Int32} {r : Int32} {h' : AH} (hf : f_X6_read h x0 x1 x2 = some (r, h')) : Xm g mX6_read [va_rf (x0), .int (x1), .int (x2)] h (some (.int r)) h' := by
  refine xm_of mo_X6_read (Nat.le_of_ble_eq_true rfl) (ls := [some (va_rf (x0)), some (.int (x1)), some (.int (x2))]) rfl ?_
  rw [f_X6_read] at hf
  refine x_aload_n (pc := 0) (a := x0) dX6_read_0 rfl ?_
  replace hf := bd_s hf; obtain ⟨v1, e1, hf⟩ := hf
  refine x_getR (pc := 1) dX6_read_1 fl_6_15 e1 ?_
  refine x_aload_n (pc := 4) (a := x0) dX6_read_4 rfl ?_
  refine x_iload_n (pc := 5) (x := x1) dX6_read_5 rfl ?_
  refine x_iload_n (pc := 6) (x := x2) dX6_read_6 rfl ?_
  replace hf := bd_s hf; obtain ⟨u7, i7, hf⟩ := hf
  replace hf := bd2_s hf; obtain ⟨v7, h7, e7, hf⟩ := hf
  refine x_cVi (pc := 7) (M' := mX6_index) (as := [.int (x1), .int (x2)]) (st := [va_rf (v1)]) (a := x0) (ci := 6) dX6_read_7 mo_X6_index lk_6_21 im_X6_index se_X6_index rfl ⟨Nat.le_of_ble_eq_true rfl, Nat.le_of_ble_eq_true rfl⟩ rfl (Nat.le_of_ble_eq_true rfl) rfl i7 (tm_X6_index e7) ?_
  replace hf := bd_s hf; obtain ⟨v10, e10, hf⟩ := hf
  refine x_ldI (pc := 10) dX6_read_10 e10 ?_
  obtain ⟨rfl, rfl⟩ := ret_s hf
  exact x_reti (pc := 11) dX6_read_11 rfl

def j_X4_campsFor_43 (k4 : AH → Option Nat → Int32 → Int32 → Int32 → Option (Int32 × AH)) (h : AH) (x0 : Option Nat) (x1 : Int32) (x2 : Int32) (x3 : Int32) : Option (Int32 × AH) :=
  k4 h x0 x1 (x2 ||| (1 <<< (x3 &&& 31))) (x3 + 1)

set_option maxRecDepth 100000 in
set_option maxHeartbeats 4000000 in
theorem tj_X4_campsFor_43 {g : GT} {k4 : AH → Option Nat → Int32 → Int32 → Int32 → Option (Int32 × AH)} (hk4 : ∀ (h : AH) (x0 : Option Nat) (x1 : Int32) (x2 : Int32) (x3 : Int32) (r : Int32) (h' : AH), k4 h x0 x1 x2 x3 = some (r, h') → Xj g mX4_campsFor h 4 [some (va_rf (x0)), some (.int (x1)), some (.int (x2)), some (.int (x3))] [] (some (.int r)) h') {h : AH} {x0 : Option Nat} {x1 : Int32} {x2 : Int32} {x3 : Int32} {r : Int32} {h' : AH} (hf : j_X4_campsFor_43 k4 h x0 x1 x2 x3 = some (r, h')) : Xj g mX4_campsFor h 43 [some (va_rf (x0)), some (.int (x1)), some (.int (x2)), some (.int (x3))] [] (some (.int r)) h' := by
  rw [j_X4_campsFor_43] at hf
  refine x_iload_n (pc := 43) (x := x2) dX4_campsFor_43 rfl ?_
  refine x_iconst (pc := 44) (v := 1) dX4_campsFor_44 (by decide) ?_
  refine x_iload_n (pc := 45) (x := x3) dX4_campsFor_45 rfl ?_
  refine x_ishl (pc := 46) dX4_campsFor_46 ?_
  refine x_ior (pc := 47) dX4_campsFor_47 ?_
  refine x_istore_n (pc := 48) (ls' := [some (va_rf (x0)), some (.int (x1)), some (.int (x2 ||| (1 <<< (x3 &&& 31)))), some (.int (x3))]) dX4_campsFor_48 (by decide) rfl ?_
  refine x_iinc (pc := 49) (x := x3) (v := x3 + 1) (ls' := [some (va_rf (x0)), some (.int (x1)), some (.int (x2 ||| (1 <<< (x3 &&& 31)))), some (.int (x3 + 1))]) dX4_campsFor_49 rfl rfl (by decide) rfl ?_
  refine x_goto (pc := 52) (tgt := 4) dX4_campsFor_52 rfl ?_
  exact hk4 _ _ _ _ _ _ _ hf

def g_X4_campsFor_4 : Nat → AH → Option Nat → Int32 → Int32 → Int32 → Option (Int32 × AH)
  | 0, _, _, _, _, _ => none
  | n + 1, h, x0, x1, x2, x3 =>
    bd (gR h x0 4 1) fun v6 =>
    bd (ldI h v6 0) fun v10 =>
    if v10 ≤ x3 then (
      some (x2, h)
    ) else (
      bd (gR h x0 4 3) fun v15 =>
      bd (ldI h v15 x3) fun v19 =>
      bd (gR h x0 4 0) fun v21 =>
      bd (ldI h v21 0) fun v25 =>
      if v25 ≤ v19 then (
        g_X4_campsFor_4  n h x0 x1 x2 (x3 + 1)
      ) else (
        if ¬ x1 = 2 then (
          j_X4_campsFor_43 (fun h x0 x1 x2 x3 => g_X4_campsFor_4  n h x0 x1 x2 x3) h x0 x1 x2 x3
        ) else (
          bd (gR h x0 4 4) fun v35 =>
          bd (ldZ h v35 x3) fun v39 =>
          if ¬ v39 = 0 then (
            g_X4_campsFor_4  n h x0 x1 x2 (x3 + 1)
          ) else (
            j_X4_campsFor_43 (fun h x0 x1 x2 x3 => g_X4_campsFor_4  n h x0 x1 x2 x3) h x0 x1 x2 x3
          )
        )
      )
    )

set_option maxRecDepth 100000 in
set_option maxHeartbeats 4000000 in
theorem tg_X4_campsFor_4 {g : GT} : ∀ (n : Nat) {h : AH} {x0 : Option Nat} {x1 : Int32} {x2 : Int32} {x3 : Int32} {r : Int32} {h' : AH}, g_X4_campsFor_4 n h x0 x1 x2 x3 = some (r, h') → Xj g mX4_campsFor h 4 [some (va_rf (x0)), some (.int (x1)), some (.int (x2)), some (.int (x3))] [] (some (.int r)) h' := by
  intro n
  induction n with
  | zero =>
    intros
    rename_i z
    cases z
  | succ n ih =>
    intro h x0 x1 x2 x3 r h' hf
    rw [g_X4_campsFor_4] at hf
    refine x_iload_n (pc := 4) (x := x3) dX4_campsFor_4 rfl ?_
    refine x_aload_n (pc := 5) (a := x0) dX4_campsFor_5 rfl ?_
    replace hf := bd_s hf; obtain ⟨v6, e6, hf⟩ := hf
    refine x_getR (pc := 6) dX4_campsFor_6 fl_4_15 e6 ?_
    refine x_iconst (pc := 9) (v := 0) dX4_campsFor_9 (by decide) ?_
    replace hf := bd_s hf; obtain ⟨v10, e10, hf⟩ := hf
    refine x_ldI (pc := 10) dX4_campsFor_10 e10 ?_
    refine x_icmp_ge (pc := 11) (tgt := 55) (x := x3) (y := v10) dX4_campsFor_11 rfl (fun hc => ?_) (fun hc => ?_)
    · replace hf := it_t hc hf
      refine x_iload_n (pc := 55) (x := x2) dX4_campsFor_55 rfl ?_
      obtain ⟨rfl, rfl⟩ := ret_s hf
      exact x_reti (pc := 56) dX4_campsFor_56 rfl
    · replace hf := it_f hc hf
      refine x_aload_n (pc := 14) (a := x0) dX4_campsFor_14 rfl ?_
      replace hf := bd_s hf; obtain ⟨v15, e15, hf⟩ := hf
      refine x_getR (pc := 15) dX4_campsFor_15 fl_4_21 e15 ?_
      refine x_iload_n (pc := 18) (x := x3) dX4_campsFor_18 rfl ?_
      replace hf := bd_s hf; obtain ⟨v19, e19, hf⟩ := hf
      refine x_ldI (pc := 19) dX4_campsFor_19 e19 ?_
      refine x_aload_n (pc := 20) (a := x0) dX4_campsFor_20 rfl ?_
      replace hf := bd_s hf; obtain ⟨v21, e21, hf⟩ := hf
      refine x_getR (pc := 21) dX4_campsFor_21 fl_4_11 e21 ?_
      refine x_iconst (pc := 24) (v := 0) dX4_campsFor_24 (by decide) ?_
      replace hf := bd_s hf; obtain ⟨v25, e25, hf⟩ := hf
      refine x_ldI (pc := 25) dX4_campsFor_25 e25 ?_
      refine x_icmp_ge (pc := 26) (tgt := 49) (x := v19) (y := v25) dX4_campsFor_26 rfl (fun hc => ?_) (fun hc => ?_)
      · replace hf := it_t hc hf
        refine x_iinc (pc := 49) (x := x3) (v := x3 + 1) (ls' := [some (va_rf (x0)), some (.int (x1)), some (.int (x2)), some (.int (x3 + 1))]) dX4_campsFor_49 rfl rfl (by decide) rfl ?_
        refine x_goto (pc := 52) (tgt := 4) dX4_campsFor_52 rfl ?_
        exact ih hf
      · replace hf := it_f hc hf
        refine x_iload_n (pc := 29) (x := x1) dX4_campsFor_29 rfl ?_
        refine x_iconst (pc := 30) (v := 2) dX4_campsFor_30 (by decide) ?_
        refine x_icmp_ne (pc := 31) (tgt := 43) (x := x1) (y := 2) dX4_campsFor_31 rfl (fun hc => ?_) (fun hc => ?_)
        · replace hf := it_t hc hf
          exact tj_X4_campsFor_43 (fun _ _ _ _ _ _ _ z => ih z) hf
        · replace hf := it_n hc hf
          refine x_aload_n (pc := 34) (a := x0) dX4_campsFor_34 rfl ?_
          replace hf := bd_s hf; obtain ⟨v35, e35, hf⟩ := hf
          refine x_getR (pc := 35) dX4_campsFor_35 fl_4_24 e35 ?_
          refine x_iload_n (pc := 38) (x := x3) dX4_campsFor_38 rfl ?_
          replace hf := bd_s hf; obtain ⟨v39, e39, hf⟩ := hf
          refine x_ldZ (pc := 39) dX4_campsFor_39 e39 ?_
          refine x_if_ne (pc := 40) (tgt := 49) (x := v39) dX4_campsFor_40 rfl (fun hc => ?_) (fun hc => ?_)
          · replace hf := it_t hc hf
            refine x_iinc (pc := 49) (x := x3) (v := x3 + 1) (ls' := [some (va_rf (x0)), some (.int (x1)), some (.int (x2)), some (.int (x3 + 1))]) dX4_campsFor_49 rfl rfl (by decide) rfl ?_
            refine x_goto (pc := 52) (tgt := 4) dX4_campsFor_52 rfl ?_
            exact ih hf
          · replace hf := it_n hc hf
            exact tj_X4_campsFor_43 (fun _ _ _ _ _ _ _ z => ih z) hf

def f_X4_campsFor (h : AH) (x0 : Option Nat) (x1 : Int32) : Option (Int32 × AH) :=
  g_X4_campsFor_4  NN h x0 x1 0 0

set_option maxRecDepth 100000 in
set_option maxHeartbeats 4000000 in
theorem tm_X4_campsFor {g : GT} {h : AH} {x0 : Option Nat} {x1 : Int32} {r : Int32} {h' : AH} (hf : f_X4_campsFor h x0 x1 = some (r, h')) : Xm g mX4_campsFor [va_rf (x0), .int (x1)] h (some (.int r)) h' := by
  refine xm_of mo_X4_campsFor (Nat.le_of_ble_eq_true rfl) (ls := [some (va_rf (x0)), some (.int (x1)), none, none]) rfl ?_
  rw [f_X4_campsFor] at hf
  refine x_iconst (pc := 0) (v := 0) dX4_campsFor_0 (by decide) ?_
  refine x_istore_n (pc := 1) (ls' := [some (va_rf (x0)), some (.int (x1)), some (.int (0)), none]) dX4_campsFor_1 (by decide) rfl ?_
  refine x_iconst (pc := 2) (v := 0) dX4_campsFor_2 (by decide) ?_
  refine x_istore_n (pc := 3) (ls' := [some (va_rf (x0)), some (.int (x1)), some (.int (0)), some (.int (0))]) dX4_campsFor_3 (by decide) rfl ?_
  exact tg_X4_campsFor_4  NN hf

def f_X3_startAhead (h : AH) (x0 : Option Nat) : Option AH :=
  bd (gR h x0 3 2) fun v1 =>
  bd (f_J_fill h v1 0) fun h5 =>
  bd (gR h5 x0 3 2) fun v9 =>
  bd (stI h5 v9 0 16384) fun h16 =>
  some h16

set_option maxRecDepth 100000 in
set_option maxHeartbeats 4000000 in
theorem tm_X3_startAhead {g : GT} {h : AH} {x0 : Option Nat} {h' : AH} (hf : f_X3_startAhead h x0 = some h') : Xm g mX3_startAhead [va_rf (x0)] h none h' := by
  refine xm_of mo_X3_startAhead (Nat.le_of_ble_eq_true rfl) (ls := [some (va_rf (x0))]) rfl ?_
  rw [f_X3_startAhead] at hf
  refine x_aload_n (pc := 0) (a := x0) dX3_startAhead_0 rfl ?_
  replace hf := bd_s hf; obtain ⟨v1, e1, hf⟩ := hf
  refine x_getR (pc := 1) dX3_startAhead_1 fl_3_21 e1 ?_
  refine x_iconst (pc := 4) (v := 0) dX3_startAhead_4 (by decide) ?_
  replace hf := bd_s hf; obtain ⟨h5, e5, hf⟩ := hf
  refine x_cSv (pc := 5) (M' := mJ_fill) (as := [va_rf (v1), .int (0)]) (st := []) dX3_startAhead_5 mo_J_fill lk_3_98 sm_J_fill ⟨Nat.le_of_ble_eq_true rfl, Nat.le_of_ble_eq_true rfl⟩ rfl (Nat.le_of_ble_eq_true rfl) rfl (tm_J_fill e5) ?_
  refine x_aload_n (pc := 8) (a := x0) dX3_startAhead_8 rfl ?_
  replace hf := bd_s hf; obtain ⟨v9, e9, hf⟩ := hf
  refine x_getR (pc := 9) dX3_startAhead_9 fl_3_21 e9 ?_
  refine x_iconst (pc := 12) (v := 0) dX3_startAhead_12 (by decide) ?_
  refine x_sipush (pc := 13) (v := 16384) dX3_startAhead_13 (by decide) ?_
  replace hf := bd_s hf; obtain ⟨h16, e16, hf⟩ := hf
  refine x_stI (pc := 16) dX3_startAhead_16 e16 ?_
  obtain rfl := Option.some.inj hf
  exact x_vret (pc := 17) dX3_startAhead_17 rfl

def f_X4_arriving (h : AH) (x0 : Option Nat) (x1 : Int32) (x2 : Int32) (x3 : Int32) : Option (Int32 × AH) :=
  bd (gR h x0 4 0) fun v3 =>
  bd (ldI h v3 1) fun v7 =>
  bd (dv x1 (if 1 < v7 then v7 else 1)) fun v11 =>
  bd (gR h x0 4 2) fun v30 =>
  bd (dv (if 0 < (((x2 * 24) + x3) - v11) then (((x2 * 24) + x3) - v11) else 0) 6) fun v37 =>
  bd (ldI h v30 v37) fun v38 =>
  some (v38, h)

set_option maxRecDepth 100000 in
set_option maxHeartbeats 4000000 in
theorem tm_X4_arriving {g : GT} {h : AH} {x0 : Option Nat} {x1 : Int32} {x2 : Int32} {x3 : Int32} {r : Int32} {h' : AH} (hf : f_X4_arriving h x0 x1 x2 x3 = some (r, h')) : Xm g mX4_arriving [va_rf (x0), .int (x1), .int (x2), .int (x3)] h (some (.int r)) h' := by
  refine xm_of mo_X4_arriving (Nat.le_of_ble_eq_true rfl) (ls := [some (va_rf (x0)), some (.int (x1)), some (.int (x2)), some (.int (x3)), none, none]) rfl ?_
  rw [f_X4_arriving] at hf
  refine x_iload_n (pc := 0) (x := x1) dX4_arriving_0 rfl ?_
  refine x_iconst (pc := 1) (v := 1) dX4_arriving_1 (by decide) ?_
  refine x_aload_n (pc := 2) (a := x0) dX4_arriving_2 rfl ?_
  replace hf := bd_s hf; obtain ⟨v3, e3, hf⟩ := hf
  refine x_getR (pc := 3) dX4_arriving_3 fl_4_11 e3 ?_
  refine x_iconst (pc := 6) (v := 1) dX4_arriving_6 (by decide) ?_
  replace hf := bd_s hf; obtain ⟨v7, e7, hf⟩ := hf
  refine x_ldI (pc := 7) dX4_arriving_7 e7 ?_
  refine x_max (pc := 8) dX4_arriving_8 lm_4_46 ma_max_1 ma_0 ma_max_2 (Nat.le_of_ble_eq_true rfl) (Nat.le_of_ble_eq_true rfl) ?_
  replace hf := bd_s hf; obtain ⟨v11, e11, hf⟩ := hf
  refine x_dv (pc := 11) dX4_arriving_11 e11 ?_
  refine x_istore (pc := 12) (ls' := [some (va_rf (x0)), some (.int (x1)), some (.int (x2)), some (.int (x3)), some (.int (v11)), none]) dX4_arriving_12 (by decide) rfl ?_
  refine x_iconst (pc := 14) (v := 0) dX4_arriving_14 (by decide) ?_
  refine x_iload_n (pc := 15) (x := x2) dX4_arriving_15 rfl ?_
  refine x_bipush (pc := 16) (v := 24) dX4_arriving_16 (by decide) ?_
  refine x_imul (pc := 18) dX4_arriving_18 ?_
  refine x_iload_n (pc := 19) (x := x3) dX4_arriving_19 rfl ?_
  refine x_iadd (pc := 20) dX4_arriving_20 ?_
  refine x_iload (pc := 21) (x := v11) dX4_arriving_21 rfl ?_
  refine x_isub (pc := 23) dX4_arriving_23 ?_
  refine x_max (pc := 24) dX4_arriving_24 lm_4_46 ma_max_1 ma_0 ma_max_2 (Nat.le_of_ble_eq_true rfl) (Nat.le_of_ble_eq_true rfl) ?_
  refine x_istore (pc := 27) (ls' := [some (va_rf (x0)), some (.int (x1)), some (.int (x2)), some (.int (x3)), some (.int (v11)), some (.int ((if 0 < (((x2 * 24) + x3) - v11) then (((x2 * 24) + x3) - v11) else 0)))]) dX4_arriving_27 (by decide) rfl ?_
  refine x_aload_n (pc := 29) (a := x0) dX4_arriving_29 rfl ?_
  replace hf := bd_s hf; obtain ⟨v30, e30, hf⟩ := hf
  refine x_getR (pc := 30) dX4_arriving_30 fl_4_18 e30 ?_
  refine x_iload (pc := 33) (x := (if 0 < (((x2 * 24) + x3) - v11) then (((x2 * 24) + x3) - v11) else 0)) dX4_arriving_33 rfl ?_
  refine x_bipush (pc := 35) (v := 6) dX4_arriving_35 (by decide) ?_
  replace hf := bd_s hf; obtain ⟨v37, e37, hf⟩ := hf
  refine x_dv (pc := 37) dX4_arriving_37 e37 ?_
  replace hf := bd_s hf; obtain ⟨v38, e38, hf⟩ := hf
  refine x_ldI (pc := 38) dX4_arriving_38 e38 ?_
  obtain ⟨rfl, rfl⟩ := ret_s hf
  exact x_reti (pc := 39) dX4_arriving_39 rfl

def g_X4_firstHour_24 : Nat → AH → Option Nat → Int32 → Int32 → Int32 → Int32 → Option (Int32 × AH)
  | 0, _, _, _, _, _, _ => none
  | n + 1, h, x0, x1, x2, x4, x5 =>
    if 17 < x5 then (
      some ((-1), h)
    ) else (
      bd (gR h x0 4 5) fun v33 =>
      bd (ldI h v33 x1) fun v37 =>
      bd (isO h x0 4) fun _ =>
      bd2 (f_X4_arriving h x0 v37 x2 x5) fun v41 h41 =>
      bd (gR h41 x0 4 7) fun v47 =>
      bd (ldI h41 v47 x1) fun v51 =>
      bd2 (f_X7_within h41 v41 x4 v51) fun v52 h52 =>
      if v52 = 0 then (
        g_X4_firstHour_24  n h52 x0 x1 x2 x4 (x5 + 1)
      ) else (
        some (x5, h52)
      )
    )

set_option maxRecDepth 100000 in
set_option maxHeartbeats 4000000 in
theorem tg_X4_firstHour_24 {g : GT} : ∀ (n : Nat) {h : AH} {x0 : Option Nat} {x1 : Int32} {x2 : Int32} {x4 : Int32} {x5 : Int32} {r : Int32} {h' : AH}, g_X4_firstHour_24 n h x0 x1 x2 x4 x5 = some (r, h') → Xj g mX4_firstHour h 24 [some (va_rf (x0)), some (.int (x1)), some (.int (x2)), none, some (.int (x4)), some (.int (x5))] [] (some (.int r)) h' := by
  intro n
  induction n with
  | zero =>
    intros
    rename_i z
    cases z
  | succ n ih =>
    intro h x0 x1 x2 x4 x5 r h' hf
    rw [g_X4_firstHour_24] at hf
    refine x_iload (pc := 24) (x := x5) dX4_firstHour_24 rfl ?_
    refine x_bipush (pc := 26) (v := 17) dX4_firstHour_26 (by decide) ?_
    refine x_icmp_gt (pc := 28) (tgt := 67) (x := x5) (y := 17) dX4_firstHour_28 rfl (fun hc => ?_) (fun hc => ?_)
    · replace hf := it_t hc hf
      refine x_iconst (pc := 67) (v := -1) dX4_firstHour_67 (by decide) ?_
      obtain ⟨rfl, rfl⟩ := ret_s hf
      exact x_reti (pc := 68) dX4_firstHour_68 rfl
    · replace hf := it_f hc hf
      refine x_aload_n (pc := 31) (a := x0) dX4_firstHour_31 rfl ?_
      refine x_aload_n (pc := 32) (a := x0) dX4_firstHour_32 rfl ?_
      replace hf := bd_s hf; obtain ⟨v33, e33, hf⟩ := hf
      refine x_getR (pc := 33) dX4_firstHour_33 fl_4_28 e33 ?_
      refine x_iload_n (pc := 36) (x := x1) dX4_firstHour_36 rfl ?_
      replace hf := bd_s hf; obtain ⟨v37, e37, hf⟩ := hf
      refine x_ldI (pc := 37) dX4_firstHour_37 e37 ?_
      refine x_iload_n (pc := 38) (x := x2) dX4_firstHour_38 rfl ?_
      refine x_iload (pc := 39) (x := x5) dX4_firstHour_39 rfl ?_
      replace hf := bd_s hf; obtain ⟨u41, i41, hf⟩ := hf
      replace hf := bd2_s hf; obtain ⟨v41, h41, e41, hf⟩ := hf
      refine x_cVi (pc := 41) (M' := mX4_arriving) (as := [.int (v37), .int (x2), .int (x5)]) (st := []) (a := x0) (ci := 4) dX4_firstHour_41 mo_X4_arriving lk_4_52 im_X4_arriving se_X4_arriving rfl ⟨Nat.le_of_ble_eq_true rfl, Nat.le_of_ble_eq_true rfl⟩ rfl (Nat.le_of_ble_eq_true rfl) rfl i41 (tm_X4_arriving e41) ?_
      refine x_iload (pc := 44) (x := x4) dX4_firstHour_44 rfl ?_
      refine x_aload_n (pc := 46) (a := x0) dX4_firstHour_46 rfl ?_
      replace hf := bd_s hf; obtain ⟨v47, e47, hf⟩ := hf
      refine x_getR (pc := 47) dX4_firstHour_47 fl_4_34 e47 ?_
      refine x_iload_n (pc := 50) (x := x1) dX4_firstHour_50 rfl ?_
      replace hf := bd_s hf; obtain ⟨v51, e51, hf⟩ := hf
      refine x_ldI (pc := 51) dX4_firstHour_51 e51 ?_
      replace hf := bd2_s hf; obtain ⟨v52, h52, e52, hf⟩ := hf
      refine x_cNi (pc := 52) (M' := mX7_within) (as := [.int (v41), .int (x4), .int (v51)]) (st := []) dX4_firstHour_52 mo_X7_within lk_4_56 sm_X7_within ⟨Nat.le_of_ble_eq_true rfl, Nat.le_of_ble_eq_true rfl⟩ rfl (Nat.le_of_ble_eq_true rfl) rfl (tm_X7_within e52) ?_
      refine x_if_eq (pc := 55) (tgt := 61) (x := v52) dX4_firstHour_55 rfl (fun hc => ?_) (fun hc => ?_)
      · replace hf := it_t hc hf
        refine x_iinc (pc := 61) (x := x5) (v := x5 + 1) (ls' := [some (va_rf (x0)), some (.int (x1)), some (.int (x2)), none, some (.int (x4)), some (.int (x5 + 1))]) dX4_firstHour_61 rfl rfl (by decide) rfl ?_
        refine x_goto (pc := 64) (tgt := 24) dX4_firstHour_64 rfl ?_
        exact ih hf
      · replace hf := it_f hc hf
        refine x_iload (pc := 58) (x := x5) dX4_firstHour_58 rfl ?_
        obtain ⟨rfl, rfl⟩ := ret_s hf
        exact x_reti (pc := 60) dX4_firstHour_60 rfl

def j_X4_firstHour_17 (h : AH) (x0 : Option Nat) (x1 : Int32) (x2 : Int32) (y0 : Int32) (y1 : Int32) : Option (Int32 × AH) :=
  g_X4_firstHour_24  NN h x0 x1 x2 (y0 - y1) 8

set_option maxRecDepth 100000 in
set_option maxHeartbeats 4000000 in
theorem tj_X4_firstHour_17 {g : GT} {h : AH} {x0 : Option Nat} {x1 : Int32} {x2 : Int32} {y0 : Int32} {y1 : Int32} {r : Int32} {h' : AH} (hf : j_X4_firstHour_17 h x0 x1 x2 y0 y1 = some (r, h')) : Xj g mX4_firstHour h 17 [some (va_rf (x0)), some (.int (x1)), some (.int (x2)), none, none, none] [.int (y1), .int (y0)] (some (.int r)) h' := by
  rw [j_X4_firstHour_17] at hf
  refine x_isub (pc := 17) dX4_firstHour_17 ?_
  refine x_istore (pc := 18) (ls' := [some (va_rf (x0)), some (.int (x1)), some (.int (x2)), none, some (.int (y0 - y1)), none]) dX4_firstHour_18 (by decide) rfl ?_
  refine x_bipush (pc := 20) (v := 8) dX4_firstHour_20 (by decide) ?_
  refine x_istore (pc := 22) (ls' := [some (va_rf (x0)), some (.int (x1)), some (.int (x2)), none, some (.int (y0 - y1)), some (.int (8))]) dX4_firstHour_22 (by decide) rfl ?_
  exact tg_X4_firstHour_24  NN hf

def f_X4_firstHour (h : AH) (x0 : Option Nat) (x1 : Int32) (x2 : Int32) (x3 : Int32) : Option (Int32 × AH) :=
  bd (gR h x0 4 6) fun v1 =>
  bd (ldI h v1 x1) fun v5 =>
  if ¬ x3 = 3 then (
    j_X4_firstHour_17  h x0 x1 x2 v5 0
  ) else (
    j_X4_firstHour_17  h x0 x1 x2 v5 50
  )

set_option maxRecDepth 100000 in
set_option maxHeartbeats 4000000 in
theorem tm_X4_firstHour {g : GT} {h : AH} {x0 : Option Nat} {x1 : Int32} {x2 : Int32} {x3 : Int32} {r : Int32} {h' : AH} (hf : f_X4_firstHour h x0 x1 x2 x3 = some (r, h')) : Xm g mX4_firstHour [va_rf (x0), .int (x1), .int (x2), .int (x3)] h (some (.int r)) h' := by
  refine xm_of mo_X4_firstHour (Nat.le_of_ble_eq_true rfl) (ls := [some (va_rf (x0)), some (.int (x1)), some (.int (x2)), some (.int (x3)), none, none]) rfl ?_
  rw [f_X4_firstHour] at hf
  refine x_aload_n (pc := 0) (a := x0) dX4_firstHour_0 rfl ?_
  replace hf := bd_s hf; obtain ⟨v1, e1, hf⟩ := hf
  refine x_getR (pc := 1) dX4_firstHour_1 fl_4_31 e1 ?_
  refine x_iload_n (pc := 4) (x := x1) dX4_firstHour_4 rfl ?_
  replace hf := bd_s hf; obtain ⟨v5, e5, hf⟩ := hf
  refine x_ldI (pc := 5) dX4_firstHour_5 e5 ?_
  refine x_iload_n (pc := 6) (x := x3) dX4_firstHour_6 rfl ?_
  refine x_iconst (pc := 7) (v := 3) dX4_firstHour_7 (by decide) ?_
  refine x_icmp_ne (pc := 8) (tgt := 16) (x := x3) (y := 3) dX4_firstHour_8 rfl (fun hc => ?_) (fun hc => ?_)
  · replace hf := it_t hc hf
    refine x_iconst (pc := 16) (v := 0) dX4_firstHour_16 (by decide) ?_
    refine x_mask [true, true, true, false, false, false] rfl ?_
    exact tj_X4_firstHour_17  hf
  · replace hf := it_n hc hf
    refine x_bipush (pc := 11) (v := 50) dX4_firstHour_11 (by decide) ?_
    refine x_goto (pc := 13) (tgt := 17) dX4_firstHour_13 rfl ?_
    refine x_mask [true, true, true, false, false, false] rfl ?_
    exact tj_X4_firstHour_17  hf
