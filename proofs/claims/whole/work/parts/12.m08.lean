def j_X8_leftFrom_59 (k33 : AH → Option Nat → Int32 → Int32 → Int32 → Int32 → Int32 → Int32 → Int32 → Option (Int32 × AH)) (h : AH) (x0 : Option Nat) (x1 : Int32) (x2 : Int32) (x3 : Int32) (x4 : Int32) (x5 : Int32) (x6 : Int32) (x7 : Int32) (y0 : Int32) : Option (Int32 × AH) :=
  if y0 < 0 then (
    k33 h x0 x1 x2 x3 x4 x5 x6 (x7 + 1)
  ) else (
    bd (isO h x0 8) fun _ =>
    bd2 (f_X8_leftAt h x0 (x2 + 1) x7 y0) fun v74 h74 =>
    if 1000 ≤ v74 then (
      k33 h74 x0 x1 x2 x3 x4 x5 x6 (x7 + 1)
    ) else (
      bd (isO h74 x0 8) fun _ =>
      bd2 (f_X8_leftAt h74 x0 (x2 + 1) x7 y0) fun v92 h92 =>
      if x6 ≤ (1 + v92) then (
        k33 h92 x0 x1 x2 x3 x4 x5 x6 (x7 + 1)
      ) else (
        bd (isO h92 x0 8) fun _ =>
        bd2 (f_X8_canGo h92 x0 x1 x3 x7 x5) fun v108 h108 =>
        if v108 = 0 then (
          k33 h108 x0 x1 x2 x3 x4 x5 x6 (x7 + 1)
        ) else (
          bd (isO h108 x0 8) fun _ =>
          bd2 (f_X8_leftAt h108 x0 (x2 + 1) x7 y0) fun v123 h123 =>
          k33 h123 x0 x1 x2 x3 x4 x5 (1 + v123) (x7 + 1)
        )
      )
    )
  )

set_option maxRecDepth 100000 in
set_option maxHeartbeats 4000000 in
theorem tj_X8_leftFrom_59 {g : GT} {k33 : AH → Option Nat → Int32 → Int32 → Int32 → Int32 → Int32 → Int32 → Int32 → Option (Int32 × AH)} (hk33 : ∀ (h : AH) (x0 : Option Nat) (x1 : Int32) (x2 : Int32) (x3 : Int32) (x4 : Int32) (x5 : Int32) (x6 : Int32) (x7 : Int32) (r : Int32) (h' : AH), k33 h x0 x1 x2 x3 x4 x5 x6 x7 = some (r, h') → Xj g mX8_leftFrom h 33 [some (va_rf (x0)), some (.int (x1)), some (.int (x2)), some (.int (x3)), some (.int (x4)), some (.int (x5)), some (.int (x6)), some (.int (x7)), none] [] (some (.int r)) h') {h : AH} {x0 : Option Nat} {x1 : Int32} {x2 : Int32} {x3 : Int32} {x4 : Int32} {x5 : Int32} {x6 : Int32} {x7 : Int32} {y0 : Int32} {r : Int32} {h' : AH} (hf : j_X8_leftFrom_59 k33 h x0 x1 x2 x3 x4 x5 x6 x7 y0 = some (r, h')) : Xj g mX8_leftFrom h 59 [some (va_rf (x0)), some (.int (x1)), some (.int (x2)), some (.int (x3)), some (.int (x4)), some (.int (x5)), some (.int (x6)), some (.int (x7)), none] [.int (y0)] (some (.int r)) h' := by
  rw [j_X8_leftFrom_59] at hf
  refine x_istore (pc := 59) (ls' := [some (va_rf (x0)), some (.int (x1)), some (.int (x2)), some (.int (x3)), some (.int (x4)), some (.int (x5)), some (.int (x6)), some (.int (x7)), some (.int (y0))]) dX8_leftFrom_59 (by decide) rfl ?_
  refine x_iload (pc := 61) (x := y0) dX8_leftFrom_61 rfl ?_
  refine x_if_lt (pc := 63) (tgt := 129) (x := y0) dX8_leftFrom_63 rfl (fun hc => ?_) (fun hc => ?_)
  · replace hf := it_t hc hf
    refine x_iinc (pc := 129) (x := x7) (v := x7 + 1) (ls' := [some (va_rf (x0)), some (.int (x1)), some (.int (x2)), some (.int (x3)), some (.int (x4)), some (.int (x5)), some (.int (x6)), some (.int (x7 + 1)), some (.int (y0))]) dX8_leftFrom_129 rfl rfl (by decide) rfl ?_
    refine x_goto (pc := 132) (tgt := 33) dX8_leftFrom_132 rfl ?_
    refine x_mask [true, true, true, true, true, true, true, true, false] rfl ?_
    exact hk33 _ _ _ _ _ _ _ _ _ _ _ hf
  · replace hf := it_f hc hf
    refine x_aload_n (pc := 66) (a := x0) dX8_leftFrom_66 rfl ?_
    refine x_iload_n (pc := 67) (x := x2) dX8_leftFrom_67 rfl ?_
    refine x_iconst (pc := 68) (v := 1) dX8_leftFrom_68 (by decide) ?_
    refine x_iadd (pc := 69) dX8_leftFrom_69 ?_
    refine x_iload (pc := 70) (x := x7) dX8_leftFrom_70 rfl ?_
    refine x_iload (pc := 72) (x := y0) dX8_leftFrom_72 rfl ?_
    replace hf := bd_s hf; obtain ⟨u74, i74, hf⟩ := hf
    replace hf := bd2_s hf; obtain ⟨v74, h74, e74, hf⟩ := hf
    refine x_cVi (pc := 74) (M' := mX8_leftAt) (as := [.int (x2 + 1), .int (x7), .int (y0)]) (st := []) (a := x0) (ci := 8) dX8_leftFrom_74 mo_X8_leftAt lk_8_120 im_X8_leftAt se_X8_leftAt rfl ⟨Nat.le_of_ble_eq_true rfl, Nat.le_of_ble_eq_true rfl⟩ rfl (Nat.le_of_ble_eq_true rfl) rfl i74 (tm_X8_leftAt e74) ?_
    refine x_sipush (pc := 77) (v := 1000) dX8_leftFrom_77 (by decide) ?_
    refine x_icmp_ge (pc := 80) (tgt := 129) (x := v74) (y := 1000) dX8_leftFrom_80 rfl (fun hc => ?_) (fun hc => ?_)
    · replace hf := it_t hc hf
      refine x_iinc (pc := 129) (x := x7) (v := x7 + 1) (ls' := [some (va_rf (x0)), some (.int (x1)), some (.int (x2)), some (.int (x3)), some (.int (x4)), some (.int (x5)), some (.int (x6)), some (.int (x7 + 1)), some (.int (y0))]) dX8_leftFrom_129 rfl rfl (by decide) rfl ?_
      refine x_goto (pc := 132) (tgt := 33) dX8_leftFrom_132 rfl ?_
      refine x_mask [true, true, true, true, true, true, true, true, false] rfl ?_
      exact hk33 _ _ _ _ _ _ _ _ _ _ _ hf
    · replace hf := it_f hc hf
      refine x_iconst (pc := 83) (v := 1) dX8_leftFrom_83 (by decide) ?_
      refine x_aload_n (pc := 84) (a := x0) dX8_leftFrom_84 rfl ?_
      refine x_iload_n (pc := 85) (x := x2) dX8_leftFrom_85 rfl ?_
      refine x_iconst (pc := 86) (v := 1) dX8_leftFrom_86 (by decide) ?_
      refine x_iadd (pc := 87) dX8_leftFrom_87 ?_
      refine x_iload (pc := 88) (x := x7) dX8_leftFrom_88 rfl ?_
      refine x_iload (pc := 90) (x := y0) dX8_leftFrom_90 rfl ?_
      replace hf := bd_s hf; obtain ⟨u92, i92, hf⟩ := hf
      replace hf := bd2_s hf; obtain ⟨v92, h92, e92, hf⟩ := hf
      refine x_cVi (pc := 92) (M' := mX8_leftAt) (as := [.int (x2 + 1), .int (x7), .int (y0)]) (st := [.int (1)]) (a := x0) (ci := 8) dX8_leftFrom_92 mo_X8_leftAt lk_8_120 im_X8_leftAt se_X8_leftAt rfl ⟨Nat.le_of_ble_eq_true rfl, Nat.le_of_ble_eq_true rfl⟩ rfl (Nat.le_of_ble_eq_true rfl) rfl i92 (tm_X8_leftAt e92) ?_
      refine x_iadd (pc := 95) dX8_leftFrom_95 ?_
      refine x_iload (pc := 96) (x := x6) dX8_leftFrom_96 rfl ?_
      refine x_icmp_ge (pc := 98) (tgt := 129) (x := (1 + v92)) (y := x6) dX8_leftFrom_98 rfl (fun hc => ?_) (fun hc => ?_)
      · replace hf := it_t hc hf
        refine x_iinc (pc := 129) (x := x7) (v := x7 + 1) (ls' := [some (va_rf (x0)), some (.int (x1)), some (.int (x2)), some (.int (x3)), some (.int (x4)), some (.int (x5)), some (.int (x6)), some (.int (x7 + 1)), some (.int (y0))]) dX8_leftFrom_129 rfl rfl (by decide) rfl ?_
        refine x_goto (pc := 132) (tgt := 33) dX8_leftFrom_132 rfl ?_
        refine x_mask [true, true, true, true, true, true, true, true, false] rfl ?_
        exact hk33 _ _ _ _ _ _ _ _ _ _ _ hf
      · replace hf := it_f hc hf
        refine x_aload_n (pc := 101) (a := x0) dX8_leftFrom_101 rfl ?_
        refine x_iload_n (pc := 102) (x := x1) dX8_leftFrom_102 rfl ?_
        refine x_iload_n (pc := 103) (x := x3) dX8_leftFrom_103 rfl ?_
        refine x_iload (pc := 104) (x := x7) dX8_leftFrom_104 rfl ?_
        refine x_iload (pc := 106) (x := x5) dX8_leftFrom_106 rfl ?_
        replace hf := bd_s hf; obtain ⟨u108, i108, hf⟩ := hf
        replace hf := bd2_s hf; obtain ⟨v108, h108, e108, hf⟩ := hf
        refine x_cVi (pc := 108) (M' := mX8_canGo) (as := [.int (x1), .int (x3), .int (x7), .int (x5)]) (st := []) (a := x0) (ci := 8) dX8_leftFrom_108 mo_X8_canGo lk_8_126 im_X8_canGo se_X8_canGo rfl ⟨Nat.le_of_ble_eq_true rfl, Nat.le_of_ble_eq_true rfl⟩ rfl (Nat.le_of_ble_eq_true rfl) rfl i108 (tm_X8_canGo e108) ?_
        refine x_if_eq (pc := 111) (tgt := 129) (x := v108) dX8_leftFrom_111 rfl (fun hc => ?_) (fun hc => ?_)
        · replace hf := it_t hc hf
          refine x_iinc (pc := 129) (x := x7) (v := x7 + 1) (ls' := [some (va_rf (x0)), some (.int (x1)), some (.int (x2)), some (.int (x3)), some (.int (x4)), some (.int (x5)), some (.int (x6)), some (.int (x7 + 1)), some (.int (y0))]) dX8_leftFrom_129 rfl rfl (by decide) rfl ?_
          refine x_goto (pc := 132) (tgt := 33) dX8_leftFrom_132 rfl ?_
          refine x_mask [true, true, true, true, true, true, true, true, false] rfl ?_
          exact hk33 _ _ _ _ _ _ _ _ _ _ _ hf
        · replace hf := it_f hc hf
          refine x_iconst (pc := 114) (v := 1) dX8_leftFrom_114 (by decide) ?_
          refine x_aload_n (pc := 115) (a := x0) dX8_leftFrom_115 rfl ?_
          refine x_iload_n (pc := 116) (x := x2) dX8_leftFrom_116 rfl ?_
          refine x_iconst (pc := 117) (v := 1) dX8_leftFrom_117 (by decide) ?_
          refine x_iadd (pc := 118) dX8_leftFrom_118 ?_
          refine x_iload (pc := 119) (x := x7) dX8_leftFrom_119 rfl ?_
          refine x_iload (pc := 121) (x := y0) dX8_leftFrom_121 rfl ?_
          replace hf := bd_s hf; obtain ⟨u123, i123, hf⟩ := hf
          replace hf := bd2_s hf; obtain ⟨v123, h123, e123, hf⟩ := hf
          refine x_cVi (pc := 123) (M' := mX8_leftAt) (as := [.int (x2 + 1), .int (x7), .int (y0)]) (st := [.int (1)]) (a := x0) (ci := 8) dX8_leftFrom_123 mo_X8_leftAt lk_8_120 im_X8_leftAt se_X8_leftAt rfl ⟨Nat.le_of_ble_eq_true rfl, Nat.le_of_ble_eq_true rfl⟩ rfl (Nat.le_of_ble_eq_true rfl) rfl i123 (tm_X8_leftAt e123) ?_
          refine x_iadd (pc := 126) dX8_leftFrom_126 ?_
          refine x_istore (pc := 127) (ls' := [some (va_rf (x0)), some (.int (x1)), some (.int (x2)), some (.int (x3)), some (.int (x4)), some (.int (x5)), some (.int (1 + v123)), some (.int (x7)), some (.int (y0))]) dX8_leftFrom_127 (by decide) rfl ?_
          refine x_iinc (pc := 129) (x := x7) (v := x7 + 1) (ls' := [some (va_rf (x0)), some (.int (x1)), some (.int (x2)), some (.int (x3)), some (.int (x4)), some (.int (x5)), some (.int (1 + v123)), some (.int (x7 + 1)), some (.int (y0))]) dX8_leftFrom_129 rfl rfl (by decide) rfl ?_
          refine x_goto (pc := 132) (tgt := 33) dX8_leftFrom_132 rfl ?_
          refine x_mask [true, true, true, true, true, true, true, true, false] rfl ?_
          exact hk33 _ _ _ _ _ _ _ _ _ _ _ hf

def g_X8_leftFrom_33 : Nat → AH → Option Nat → Int32 → Int32 → Int32 → Int32 → Int32 → Int32 → Int32 → Option (Int32 × AH)
  | 0, _, _, _, _, _, _, _, _, _ => none
  | n + 1, h, x0, x1, x2, x3, x4, x5, x6, x7 =>
    bd (gR h x0 8 0) fun v36 =>
    bd (ldI h v36 2) fun v40 =>
    if v40 ≤ x7 then (
      some (x6, h)
    ) else (
      if ¬ x7 = x3 then (
        j_X8_leftFrom_59 (fun h x0 x1 x2 x3 x4 x5 x6 x7 => g_X8_leftFrom_33  n h x0 x1 x2 x3 x4 x5 x6 x7) h x0 x1 x2 x3 x4 x5 x6 x7 x4
      ) else (
        j_X8_leftFrom_59 (fun h x0 x1 x2 x3 x4 x5 x6 x7 => g_X8_leftFrom_33  n h x0 x1 x2 x3 x4 x5 x6 x7) h x0 x1 x2 x3 x4 x5 x6 x7 (x4 - 1)
      )
    )

set_option maxRecDepth 100000 in
set_option maxHeartbeats 4000000 in
theorem tg_X8_leftFrom_33 {g : GT} : ∀ (n : Nat) {h : AH} {x0 : Option Nat} {x1 : Int32} {x2 : Int32} {x3 : Int32} {x4 : Int32} {x5 : Int32} {x6 : Int32} {x7 : Int32} {r : Int32} {h' : AH}, g_X8_leftFrom_33 n h x0 x1 x2 x3 x4 x5 x6 x7 = some (r, h') → Xj g mX8_leftFrom h 33 [some (va_rf (x0)), some (.int (x1)), some (.int (x2)), some (.int (x3)), some (.int (x4)), some (.int (x5)), some (.int (x6)), some (.int (x7)), none] [] (some (.int r)) h' := by
  intro n
  induction n with
  | zero =>
    intros
    rename_i z
    cases z
  | succ n ih =>
    intro h x0 x1 x2 x3 x4 x5 x6 x7 r h' hf
    rw [g_X8_leftFrom_33] at hf
    refine x_iload (pc := 33) (x := x7) dX8_leftFrom_33 rfl ?_
    refine x_aload_n (pc := 35) (a := x0) dX8_leftFrom_35 rfl ?_
    replace hf := bd_s hf; obtain ⟨v36, e36, hf⟩ := hf
    refine x_getR (pc := 36) dX8_leftFrom_36 fl_8_7 e36 ?_
    refine x_iconst (pc := 39) (v := 2) dX8_leftFrom_39 (by decide) ?_
    replace hf := bd_s hf; obtain ⟨v40, e40, hf⟩ := hf
    refine x_ldI (pc := 40) dX8_leftFrom_40 e40 ?_
    refine x_icmp_ge (pc := 41) (tgt := 135) (x := x7) (y := v40) dX8_leftFrom_41 rfl (fun hc => ?_) (fun hc => ?_)
    · replace hf := it_t hc hf
      refine x_iload (pc := 135) (x := x6) dX8_leftFrom_135 rfl ?_
      obtain ⟨rfl, rfl⟩ := ret_s hf
      exact x_reti (pc := 137) dX8_leftFrom_137 rfl
    · replace hf := it_f hc hf
      refine x_iload (pc := 44) (x := x7) dX8_leftFrom_44 rfl ?_
      refine x_iload_n (pc := 46) (x := x3) dX8_leftFrom_46 rfl ?_
      refine x_icmp_ne (pc := 47) (tgt := 57) (x := x7) (y := x3) dX8_leftFrom_47 rfl (fun hc => ?_) (fun hc => ?_)
      · replace hf := it_t hc hf
        refine x_iload (pc := 57) (x := x4) dX8_leftFrom_57 rfl ?_
        exact tj_X8_leftFrom_59 (fun _ _ _ _ _ _ _ _ _ _ _ z => ih z) hf
      · replace hf := it_n hc hf
        refine x_iload (pc := 50) (x := x4) dX8_leftFrom_50 rfl ?_
        refine x_iconst (pc := 52) (v := 1) dX8_leftFrom_52 (by decide) ?_
        refine x_isub (pc := 53) dX8_leftFrom_53 ?_
        refine x_goto (pc := 54) (tgt := 59) dX8_leftFrom_54 rfl ?_
        exact tj_X8_leftFrom_59 (fun _ _ _ _ _ _ _ _ _ _ _ z => ih z) hf

def f_X8_leftFrom (h : AH) (x0 : Option Nat) (x1 : Int32) (x2 : Int32) (x3 : Int32) (x4 : Int32) : Option (Int32 × AH) :=
  bd (isO h x0 8) fun _ =>
  bd2 (f_X8_told h x0 x1 1) fun v3 h3 =>
  bd (isO h3 x0 8) fun _ =>
  bd2 (f_X8_canEnd h3 x0 x1 x3 (v3 + x2)) fun v15 h15 =>
  if v15 = 0 then (
    g_X8_leftFrom_33  NN h15 x0 x1 x2 x3 x4 (v3 + x2) 1000 0
  ) else (
    g_X8_leftFrom_33  NN h15 x0 x1 x2 x3 x4 (v3 + x2) 1 0
  )

set_option maxRecDepth 100000 in
set_option maxHeartbeats 4000000 in
theorem tm_X8_leftFrom {g : GT} {h : AH} {x0 : Option Nat} {x1 : Int32} {x2 : Int32} {x3 : Int32} {x4 : Int32} {r : Int32} {h' : AH} (hf : f_X8_leftFrom h x0 x1 x2 x3 x4 = some (r, h')) : Xm g mX8_leftFrom [va_rf (x0), .int (x1), .int (x2), .int (x3), .int (x4)] h (some (.int r)) h' := by
  refine xm_of mo_X8_leftFrom (Nat.le_of_ble_eq_true rfl) (ls := [some (va_rf (x0)), some (.int (x1)), some (.int (x2)), some (.int (x3)), some (.int (x4)), none, none, none, none]) rfl ?_
  rw [f_X8_leftFrom] at hf
  refine x_aload_n (pc := 0) (a := x0) dX8_leftFrom_0 rfl ?_
  refine x_iload_n (pc := 1) (x := x1) dX8_leftFrom_1 rfl ?_
  refine x_iconst (pc := 2) (v := 1) dX8_leftFrom_2 (by decide) ?_
  replace hf := bd_s hf; obtain ⟨u3, i3, hf⟩ := hf
  replace hf := bd2_s hf; obtain ⟨v3, h3, e3, hf⟩ := hf
  refine x_cVi (pc := 3) (M' := mX8_told) (as := [.int (x1), .int (1)]) (st := []) (a := x0) (ci := 8) dX8_leftFrom_3 mo_X8_told lk_8_94 im_X8_told se_X8_told rfl ⟨Nat.le_of_ble_eq_true rfl, Nat.le_of_ble_eq_true rfl⟩ rfl (Nat.le_of_ble_eq_true rfl) rfl i3 (tm_X8_told e3) ?_
  refine x_iload_n (pc := 6) (x := x2) dX8_leftFrom_6 rfl ?_
  refine x_iadd (pc := 7) dX8_leftFrom_7 ?_
  refine x_istore (pc := 8) (ls' := [some (va_rf (x0)), some (.int (x1)), some (.int (x2)), some (.int (x3)), some (.int (x4)), some (.int (v3 + x2)), none, none, none]) dX8_leftFrom_8 (by decide) rfl ?_
  refine x_aload_n (pc := 10) (a := x0) dX8_leftFrom_10 rfl ?_
  refine x_iload_n (pc := 11) (x := x1) dX8_leftFrom_11 rfl ?_
  refine x_iload_n (pc := 12) (x := x3) dX8_leftFrom_12 rfl ?_
  refine x_iload (pc := 13) (x := v3 + x2) dX8_leftFrom_13 rfl ?_
  replace hf := bd_s hf; obtain ⟨u15, i15, hf⟩ := hf
  replace hf := bd2_s hf; obtain ⟨v15, h15, e15, hf⟩ := hf
  refine x_cVi (pc := 15) (M' := mX8_canEnd) (as := [.int (x1), .int (x3), .int (v3 + x2)]) (st := []) (a := x0) (ci := 8) dX8_leftFrom_15 mo_X8_canEnd lk_8_123 im_X8_canEnd se_X8_canEnd rfl ⟨Nat.le_of_ble_eq_true rfl, Nat.le_of_ble_eq_true rfl⟩ rfl (Nat.le_of_ble_eq_true rfl) rfl i15 (tm_X8_canEnd e15) ?_
  refine x_if_eq (pc := 18) (tgt := 25) (x := v15) dX8_leftFrom_18 rfl (fun hc => ?_) (fun hc => ?_)
  · replace hf := it_t hc hf
    refine x_sipush (pc := 25) (v := 1000) dX8_leftFrom_25 (by decide) ?_
    refine x_istore (pc := 28) (ls' := [some (va_rf (x0)), some (.int (x1)), some (.int (x2)), some (.int (x3)), some (.int (x4)), some (.int (v3 + x2)), some (.int (1000)), none, none]) dX8_leftFrom_28 (by decide) rfl ?_
    refine x_iconst (pc := 30) (v := 0) dX8_leftFrom_30 (by decide) ?_
    refine x_istore (pc := 31) (ls' := [some (va_rf (x0)), some (.int (x1)), some (.int (x2)), some (.int (x3)), some (.int (x4)), some (.int (v3 + x2)), some (.int (1000)), some (.int (0)), none]) dX8_leftFrom_31 (by decide) rfl ?_
    exact tg_X8_leftFrom_33  NN hf
  · replace hf := it_f hc hf
    refine x_iconst (pc := 21) (v := 1) dX8_leftFrom_21 (by decide) ?_
    refine x_goto (pc := 22) (tgt := 28) dX8_leftFrom_22 rfl ?_
    refine x_istore (pc := 28) (ls' := [some (va_rf (x0)), some (.int (x1)), some (.int (x2)), some (.int (x3)), some (.int (x4)), some (.int (v3 + x2)), some (.int (1)), none, none]) dX8_leftFrom_28 (by decide) rfl ?_
    refine x_iconst (pc := 30) (v := 0) dX8_leftFrom_30 (by decide) ?_
    refine x_istore (pc := 31) (ls' := [some (va_rf (x0)), some (.int (x1)), some (.int (x2)), some (.int (x3)), some (.int (x4)), some (.int (v3 + x2)), some (.int (1)), some (.int (0)), none]) dX8_leftFrom_31 (by decide) rfl ?_
    exact tg_X8_leftFrom_33  NN hf

def j_X8_tell_125 (k34 : AH → Option Nat → Int32 → Int32 → Int32 → Option (Int32 × AH)) (k42 : AH → Option Nat → Int32 → Int32 → Int32 → Int32 → Option (Int32 × AH)) (k77 : AH → Option Nat → Int32 → Int32 → Int32 → Int32 → Int32 → Int32 → Option (Int32 × AH)) (h : AH) (x0 : Option Nat) (x1 : Int32) (x3 : Int32) (x4 : Int32) (x5 : Int32) (x6 : Int32) (x7 : Int32) (y0 : Option Nat) (y1 : Int32) : Option (Int32 × AH) :=
  bd (stI h y0 y1 1000) fun h128 =>
  k77 h128 x0 x1 x3 x4 x5 x6 (x7 + 1)

set_option maxRecDepth 100000 in
set_option maxHeartbeats 4000000 in
theorem tj_X8_tell_125 {g : GT} {k34 : AH → Option Nat → Int32 → Int32 → Int32 → Option (Int32 × AH)} {k42 : AH → Option Nat → Int32 → Int32 → Int32 → Int32 → Option (Int32 × AH)} {k77 : AH → Option Nat → Int32 → Int32 → Int32 → Int32 → Int32 → Int32 → Option (Int32 × AH)} (hk34 : ∀ (h : AH) (x0 : Option Nat) (x1 : Int32) (x3 : Int32) (x4 : Int32) (r : Int32) (h' : AH), k34 h x0 x1 x3 x4 = some (r, h') → Xj g mX8_tell h 34 [some (va_rf (x0)), some (.int (x1)), none, some (.int (x3)), some (.int (x4)), none, none, none] [] (some (.int r)) h') (hk42 : ∀ (h : AH) (x0 : Option Nat) (x1 : Int32) (x3 : Int32) (x4 : Int32) (x5 : Int32) (r : Int32) (h' : AH), k42 h x0 x1 x3 x4 x5 = some (r, h') → Xj g mX8_tell h 42 [some (va_rf (x0)), some (.int (x1)), none, some (.int (x3)), some (.int (x4)), some (.int (x5)), none, none] [] (some (.int r)) h') (hk77 : ∀ (h : AH) (x0 : Option Nat) (x1 : Int32) (x3 : Int32) (x4 : Int32) (x5 : Int32) (x6 : Int32) (x7 : Int32) (r : Int32) (h' : AH), k77 h x0 x1 x3 x4 x5 x6 x7 = some (r, h') → Xj g mX8_tell h 77 [some (va_rf (x0)), some (.int (x1)), none, some (.int (x3)), some (.int (x4)), some (.int (x5)), some (.int (x6)), some (.int (x7))] [] (some (.int r)) h') {h : AH} {x0 : Option Nat} {x1 : Int32} {x3 : Int32} {x4 : Int32} {x5 : Int32} {x6 : Int32} {x7 : Int32} {y0 : Option Nat} {y1 : Int32} {r : Int32} {h' : AH} (hf : j_X8_tell_125 k34 k42 k77 h x0 x1 x3 x4 x5 x6 x7 y0 y1 = some (r, h')) : Xj g mX8_tell h 125 [some (va_rf (x0)), some (.int (x1)), none, some (.int (x3)), some (.int (x4)), some (.int (x5)), some (.int (x6)), some (.int (x7))] [.int (y1), va_rf (y0)] (some (.int r)) h' := by
  rw [j_X8_tell_125] at hf
  refine x_sipush (pc := 125) (v := 1000) dX8_tell_125 (by decide) ?_
  replace hf := bd_s hf; obtain ⟨h128, e128, hf⟩ := hf
  refine x_stI (pc := 128) dX8_tell_128 e128 ?_
  refine x_iinc (pc := 129) (x := x7) (v := x7 + 1) (ls' := [some (va_rf (x0)), some (.int (x1)), none, some (.int (x3)), some (.int (x4)), some (.int (x5)), some (.int (x6)), some (.int (x7 + 1))]) dX8_tell_129 rfl rfl (by decide) rfl ?_
  refine x_goto (pc := 132) (tgt := 77) dX8_tell_132 rfl ?_
  exact hk77 _ _ _ _ _ _ _ _ _ _ hf

def g_X8_tell_77 (k34 : AH → Option Nat → Int32 → Int32 → Int32 → Option (Int32 × AH)) (k42 : AH → Option Nat → Int32 → Int32 → Int32 → Int32 → Option (Int32 × AH)) : Nat → AH → Option Nat → Int32 → Int32 → Int32 → Int32 → Int32 → Int32 → Option (Int32 × AH)
  | 0, _, _, _, _, _, _, _, _ => none
  | n + 1, h, x0, x1, x3, x4, x5, x6, x7 =>
    if 3 ≤ x7 then (
      k42 h x0 x1 x3 x4 (x5 + 1)
    ) else (
      bd (gR h x0 8 7) fun v84 =>
      if x6 = 0 then (
        j_X8_tell_125 k34 k42 (fun h x0 x1 x3 x4 x5 x6 x7 => g_X8_tell_77 k34 k42 n h x0 x1 x3 x4 x5 x6 x7) h x0 x1 x3 x4 x5 x6 x7 v84 (((45 * x4) + (3 * x5)) + x7)
      ) else (
        if x3 ≤ x4 then (
          j_X8_tell_125 k34 k42 (fun h x0 x1 x3 x4 x5 x6 x7 => g_X8_tell_77 k34 k42 n h x0 x1 x3 x4 x5 x6 x7) h x0 x1 x3 x4 x5 x6 x7 v84 (((45 * x4) + (3 * x5)) + x7)
        ) else (
          bd (isO h x0 8) fun _ =>
          bd2 (f_X8_leftFrom h x0 x1 x4 x5 x7) fun v119 h119 =>
          bd (stI h119 v84 (((45 * x4) + (3 * x5)) + x7) v119) fun h128 =>
          g_X8_tell_77 k34 k42 n h128 x0 x1 x3 x4 x5 x6 (x7 + 1)
        )
      )
    )

set_option maxRecDepth 100000 in
set_option maxHeartbeats 4000000 in
theorem tg_X8_tell_77 {g : GT} {k34 : AH → Option Nat → Int32 → Int32 → Int32 → Option (Int32 × AH)} {k42 : AH → Option Nat → Int32 → Int32 → Int32 → Int32 → Option (Int32 × AH)} (hk34 : ∀ (h : AH) (x0 : Option Nat) (x1 : Int32) (x3 : Int32) (x4 : Int32) (r : Int32) (h' : AH), k34 h x0 x1 x3 x4 = some (r, h') → Xj g mX8_tell h 34 [some (va_rf (x0)), some (.int (x1)), none, some (.int (x3)), some (.int (x4)), none, none, none] [] (some (.int r)) h') (hk42 : ∀ (h : AH) (x0 : Option Nat) (x1 : Int32) (x3 : Int32) (x4 : Int32) (x5 : Int32) (r : Int32) (h' : AH), k42 h x0 x1 x3 x4 x5 = some (r, h') → Xj g mX8_tell h 42 [some (va_rf (x0)), some (.int (x1)), none, some (.int (x3)), some (.int (x4)), some (.int (x5)), none, none] [] (some (.int r)) h') : ∀ (n : Nat) {h : AH} {x0 : Option Nat} {x1 : Int32} {x3 : Int32} {x4 : Int32} {x5 : Int32} {x6 : Int32} {x7 : Int32} {r : Int32} {h' : AH}, g_X8_tell_77 k34 k42 n h x0 x1 x3 x4 x5 x6 x7 = some (r, h') → Xj g mX8_tell h 77 [some (va_rf (x0)), some (.int (x1)), none, some (.int (x3)), some (.int (x4)), some (.int (x5)), some (.int (x6)), some (.int (x7))] [] (some (.int r)) h' := by
  intro n
  induction n with
  | zero =>
    intros
    rename_i z
    cases z
  | succ n ih =>
    intro h x0 x1 x3 x4 x5 x6 x7 r h' hf
    rw [g_X8_tell_77] at hf
    refine x_iload (pc := 77) (x := x7) dX8_tell_77 rfl ?_
    refine x_iconst (pc := 79) (v := 3) dX8_tell_79 (by decide) ?_
    refine x_icmp_ge (pc := 80) (tgt := 135) (x := x7) (y := 3) dX8_tell_80 rfl (fun hc => ?_) (fun hc => ?_)
    · replace hf := it_t hc hf
      refine x_iinc (pc := 135) (x := x5) (v := x5 + 1) (ls' := [some (va_rf (x0)), some (.int (x1)), none, some (.int (x3)), some (.int (x4)), some (.int (x5 + 1)), some (.int (x6)), some (.int (x7))]) dX8_tell_135 rfl rfl (by decide) rfl ?_
      refine x_goto (pc := 138) (tgt := 42) dX8_tell_138 rfl ?_
      refine x_mask [true, true, false, true, true, true, false, false] rfl ?_
      exact hk42 _ _ _ _ _ _ _ _ hf
    · replace hf := it_f hc hf
      refine x_aload_n (pc := 83) (a := x0) dX8_tell_83 rfl ?_
      replace hf := bd_s hf; obtain ⟨v84, e84, hf⟩ := hf
      refine x_getR (pc := 84) dX8_tell_84 fl_8_25 e84 ?_
      refine x_bipush (pc := 87) (v := 45) dX8_tell_87 (by decide) ?_
      refine x_iload (pc := 89) (x := x4) dX8_tell_89 rfl ?_
      refine x_imul (pc := 91) dX8_tell_91 ?_
      refine x_iconst (pc := 92) (v := 3) dX8_tell_92 (by decide) ?_
      refine x_iload (pc := 93) (x := x5) dX8_tell_93 rfl ?_
      refine x_imul (pc := 95) dX8_tell_95 ?_
      refine x_iadd (pc := 96) dX8_tell_96 ?_
      refine x_iload (pc := 97) (x := x7) dX8_tell_97 rfl ?_
      refine x_iadd (pc := 99) dX8_tell_99 ?_
      refine x_iload (pc := 100) (x := x6) dX8_tell_100 rfl ?_
      refine x_if_eq (pc := 102) (tgt := 125) (x := x6) dX8_tell_102 rfl (fun hc => ?_) (fun hc => ?_)
      · replace hf := it_t hc hf
        exact tj_X8_tell_125 hk34 hk42 (fun _ _ _ _ _ _ _ _ _ _ z => ih z) hf
      · replace hf := it_f hc hf
        refine x_iload (pc := 105) (x := x4) dX8_tell_105 rfl ?_
        refine x_iload_n (pc := 107) (x := x3) dX8_tell_107 rfl ?_
        refine x_icmp_ge (pc := 108) (tgt := 125) (x := x4) (y := x3) dX8_tell_108 rfl (fun hc => ?_) (fun hc => ?_)
        · replace hf := it_t hc hf
          exact tj_X8_tell_125 hk34 hk42 (fun _ _ _ _ _ _ _ _ _ _ z => ih z) hf
        · replace hf := it_f hc hf
          refine x_aload_n (pc := 111) (a := x0) dX8_tell_111 rfl ?_
          refine x_iload_n (pc := 112) (x := x1) dX8_tell_112 rfl ?_
          refine x_iload (pc := 113) (x := x4) dX8_tell_113 rfl ?_
          refine x_iload (pc := 115) (x := x5) dX8_tell_115 rfl ?_
          refine x_iload (pc := 117) (x := x7) dX8_tell_117 rfl ?_
          replace hf := bd_s hf; obtain ⟨u119, i119, hf⟩ := hf
          replace hf := bd2_s hf; obtain ⟨v119, h119, e119, hf⟩ := hf
          refine x_cVi (pc := 119) (M' := mX8_leftFrom) (as := [.int (x1), .int (x4), .int (x5), .int (x7)]) (st := [.int (((45 * x4) + (3 * x5)) + x7), va_rf (v84)]) (a := x0) (ci := 8) dX8_tell_119 mo_X8_leftFrom lk_8_116 im_X8_leftFrom se_X8_leftFrom rfl ⟨Nat.le_of_ble_eq_true rfl, Nat.le_of_ble_eq_true rfl⟩ rfl (Nat.le_of_ble_eq_true rfl) rfl i119 (tm_X8_leftFrom e119) ?_
          refine x_goto (pc := 122) (tgt := 128) dX8_tell_122 rfl ?_
          replace hf := bd_s hf; obtain ⟨h128, e128, hf⟩ := hf
          refine x_stI (pc := 128) dX8_tell_128 e128 ?_
          refine x_iinc (pc := 129) (x := x7) (v := x7 + 1) (ls' := [some (va_rf (x0)), some (.int (x1)), none, some (.int (x3)), some (.int (x4)), some (.int (x5)), some (.int (x6)), some (.int (x7 + 1))]) dX8_tell_129 rfl rfl (by decide) rfl ?_
          refine x_goto (pc := 132) (tgt := 77) dX8_tell_132 rfl ?_
          exact ih hf

def j_X8_tell_67 (k34 : AH → Option Nat → Int32 → Int32 → Int32 → Option (Int32 × AH)) (k42 : AH → Option Nat → Int32 → Int32 → Int32 → Int32 → Option (Int32 × AH)) (h : AH) (x0 : Option Nat) (x1 : Int32) (x3 : Int32) (x4 : Int32) (x5 : Int32) : Option (Int32 × AH) :=
  g_X8_tell_77 k34 k42 NN h x0 x1 x3 x4 x5 1 0

set_option maxRecDepth 100000 in
set_option maxHeartbeats 4000000 in
theorem tj_X8_tell_67 {g : GT} {k34 : AH → Option Nat → Int32 → Int32 → Int32 → Option (Int32 × AH)} {k42 : AH → Option Nat → Int32 → Int32 → Int32 → Int32 → Option (Int32 × AH)} (hk34 : ∀ (h : AH) (x0 : Option Nat) (x1 : Int32) (x3 : Int32) (x4 : Int32) (r : Int32) (h' : AH), k34 h x0 x1 x3 x4 = some (r, h') → Xj g mX8_tell h 34 [some (va_rf (x0)), some (.int (x1)), none, some (.int (x3)), some (.int (x4)), none, none, none] [] (some (.int r)) h') (hk42 : ∀ (h : AH) (x0 : Option Nat) (x1 : Int32) (x3 : Int32) (x4 : Int32) (x5 : Int32) (r : Int32) (h' : AH), k42 h x0 x1 x3 x4 x5 = some (r, h') → Xj g mX8_tell h 42 [some (va_rf (x0)), some (.int (x1)), none, some (.int (x3)), some (.int (x4)), some (.int (x5)), none, none] [] (some (.int r)) h') {h : AH} {x0 : Option Nat} {x1 : Int32} {x3 : Int32} {x4 : Int32} {x5 : Int32} {r : Int32} {h' : AH} (hf : j_X8_tell_67 k34 k42 h x0 x1 x3 x4 x5 = some (r, h')) : Xj g mX8_tell h 67 [some (va_rf (x0)), some (.int (x1)), none, some (.int (x3)), some (.int (x4)), some (.int (x5)), none, none] [] (some (.int r)) h' := by
  rw [j_X8_tell_67] at hf
  refine x_iconst (pc := 67) (v := 1) dX8_tell_67 (by decide) ?_
  refine x_goto (pc := 68) (tgt := 72) dX8_tell_68 rfl ?_
  refine x_istore (pc := 72) (ls' := [some (va_rf (x0)), some (.int (x1)), none, some (.int (x3)), some (.int (x4)), some (.int (x5)), some (.int (1)), none]) dX8_tell_72 (by decide) rfl ?_
  refine x_iconst (pc := 74) (v := 0) dX8_tell_74 (by decide) ?_
  refine x_istore (pc := 75) (ls' := [some (va_rf (x0)), some (.int (x1)), none, some (.int (x3)), some (.int (x4)), some (.int (x5)), some (.int (1)), some (.int (0))]) dX8_tell_75 (by decide) rfl ?_
  exact tg_X8_tell_77 hk34 hk42 NN hf

def g_X8_tell_42 (k34 : AH → Option Nat → Int32 → Int32 → Int32 → Option (Int32 × AH)) : Nat → AH → Option Nat → Int32 → Int32 → Int32 → Int32 → Option (Int32 × AH)
  | 0, _, _, _, _, _, _ => none
  | n + 1, h, x0, x1, x3, x4, x5 =>
    if 14 < x5 then (
      k34 h x0 x1 x3 (x4 + (-1))
    ) else (
      if x5 = 14 then (
        j_X8_tell_67 k34 (fun h x0 x1 x3 x4 x5 => g_X8_tell_42 k34 n h x0 x1 x3 x4 x5) h x0 x1 x3 x4 x5
      ) else (
        bd (gR h x0 8 0) fun v59 =>
        bd (ldI h v59 2) fun v63 =>
        if v63 ≤ x5 then (
          g_X8_tell_77 k34 (fun h x0 x1 x3 x4 x5 => g_X8_tell_42 k34 n h x0 x1 x3 x4 x5) NN h x0 x1 x3 x4 x5 0 0
        ) else (
          j_X8_tell_67 k34 (fun h x0 x1 x3 x4 x5 => g_X8_tell_42 k34 n h x0 x1 x3 x4 x5) h x0 x1 x3 x4 x5
        )
      )
    )

set_option maxRecDepth 100000 in
set_option maxHeartbeats 4000000 in
theorem tg_X8_tell_42 {g : GT} {k34 : AH → Option Nat → Int32 → Int32 → Int32 → Option (Int32 × AH)} (hk34 : ∀ (h : AH) (x0 : Option Nat) (x1 : Int32) (x3 : Int32) (x4 : Int32) (r : Int32) (h' : AH), k34 h x0 x1 x3 x4 = some (r, h') → Xj g mX8_tell h 34 [some (va_rf (x0)), some (.int (x1)), none, some (.int (x3)), some (.int (x4)), none, none, none] [] (some (.int r)) h') : ∀ (n : Nat) {h : AH} {x0 : Option Nat} {x1 : Int32} {x3 : Int32} {x4 : Int32} {x5 : Int32} {r : Int32} {h' : AH}, g_X8_tell_42 k34 n h x0 x1 x3 x4 x5 = some (r, h') → Xj g mX8_tell h 42 [some (va_rf (x0)), some (.int (x1)), none, some (.int (x3)), some (.int (x4)), some (.int (x5)), none, none] [] (some (.int r)) h' := by
  intro n
  induction n with
  | zero =>
    intros
    rename_i z
    cases z
  | succ n ih =>
    intro h x0 x1 x3 x4 x5 r h' hf
    rw [g_X8_tell_42] at hf
    refine x_iload (pc := 42) (x := x5) dX8_tell_42 rfl ?_
    refine x_bipush (pc := 44) (v := 14) dX8_tell_44 (by decide) ?_
    refine x_icmp_gt (pc := 46) (tgt := 141) (x := x5) (y := 14) dX8_tell_46 rfl (fun hc => ?_) (fun hc => ?_)
    · replace hf := it_t hc hf
      refine x_iinc (pc := 141) (x := x4) (v := x4 + (-1)) (ls' := [some (va_rf (x0)), some (.int (x1)), none, some (.int (x3)), some (.int (x4 + (-1))), some (.int (x5)), none, none]) dX8_tell_141 rfl rfl (by decide) rfl ?_
      refine x_goto (pc := 144) (tgt := 34) dX8_tell_144 rfl ?_
      refine x_mask [true, true, false, true, true, false, false, false] rfl ?_
      exact hk34 _ _ _ _ _ _ _ hf
    · replace hf := it_f hc hf
      refine x_iload (pc := 49) (x := x5) dX8_tell_49 rfl ?_
      refine x_bipush (pc := 51) (v := 14) dX8_tell_51 (by decide) ?_
      refine x_icmp_eq (pc := 53) (tgt := 67) (x := x5) (y := 14) dX8_tell_53 rfl (fun hc => ?_) (fun hc => ?_)
      · replace hf := it_t hc hf
        exact tj_X8_tell_67 hk34 (fun _ _ _ _ _ _ _ _ z => ih z) hf
      · replace hf := it_f hc hf
        refine x_iload (pc := 56) (x := x5) dX8_tell_56 rfl ?_
        refine x_aload_n (pc := 58) (a := x0) dX8_tell_58 rfl ?_
        replace hf := bd_s hf; obtain ⟨v59, e59, hf⟩ := hf
        refine x_getR (pc := 59) dX8_tell_59 fl_8_7 e59 ?_
        refine x_iconst (pc := 62) (v := 2) dX8_tell_62 (by decide) ?_
        replace hf := bd_s hf; obtain ⟨v63, e63, hf⟩ := hf
        refine x_ldI (pc := 63) dX8_tell_63 e63 ?_
        refine x_icmp_ge (pc := 64) (tgt := 71) (x := x5) (y := v63) dX8_tell_64 rfl (fun hc => ?_) (fun hc => ?_)
        · replace hf := it_t hc hf
          refine x_iconst (pc := 71) (v := 0) dX8_tell_71 (by decide) ?_
          refine x_istore (pc := 72) (ls' := [some (va_rf (x0)), some (.int (x1)), none, some (.int (x3)), some (.int (x4)), some (.int (x5)), some (.int (0)), none]) dX8_tell_72 (by decide) rfl ?_
          refine x_iconst (pc := 74) (v := 0) dX8_tell_74 (by decide) ?_
          refine x_istore (pc := 75) (ls' := [some (va_rf (x0)), some (.int (x1)), none, some (.int (x3)), some (.int (x4)), some (.int (x5)), some (.int (0)), some (.int (0))]) dX8_tell_75 (by decide) rfl ?_
          exact tg_X8_tell_77 hk34 (fun _ _ _ _ _ _ _ _ z => ih z) NN hf
        · replace hf := it_f hc hf
          exact tj_X8_tell_67 hk34 (fun _ _ _ _ _ _ _ _ z => ih z) hf

def g_X8_tell_34 : Nat → AH → Option Nat → Int32 → Int32 → Int32 → Option (Int32 × AH)
  | 0, _, _, _, _, _ => none
  | n + 1, h, x0, x1, x3, x4 =>
    if x4 < 0 then (
      bd (isO h x0 8) fun _ =>
      bd2 (f_X8_told h x0 x1 4) fun v154 h154 =>
      bd (isO h154 x0 8) fun _ =>
      bd2 (f_X8_leftAt h154 x0 0 14 v154) fun v157 h157 =>
      some (v157, h157)
    ) else (
      g_X8_tell_42 (fun h x0 x1 x3 x4 => g_X8_tell_34  n h x0 x1 x3 x4) NN h x0 x1 x3 x4 0
    )

set_option maxRecDepth 100000 in
set_option maxHeartbeats 4000000 in
theorem tg_X8_tell_34 {g : GT} : ∀ (n : Nat) {h : AH} {x0 : Option Nat} {x1 : Int32} {x3 : Int32} {x4 : Int32} {r : Int32} {h' : AH}, g_X8_tell_34 n h x0 x1 x3 x4 = some (r, h') → Xj g mX8_tell h 34 [some (va_rf (x0)), some (.int (x1)), none, some (.int (x3)), some (.int (x4)), none, none, none] [] (some (.int r)) h' := by
  intro n
  induction n with
  | zero =>
    intros
    rename_i z
    cases z
  | succ n ih =>
    intro h x0 x1 x3 x4 r h' hf
    rw [g_X8_tell_34] at hf
    refine x_iload (pc := 34) (x := x4) dX8_tell_34 rfl ?_
    refine x_if_lt (pc := 36) (tgt := 147) (x := x4) dX8_tell_36 rfl (fun hc => ?_) (fun hc => ?_)
    · replace hf := it_t hc hf
      refine x_aload_n (pc := 147) (a := x0) dX8_tell_147 rfl ?_
      refine x_iconst (pc := 148) (v := 0) dX8_tell_148 (by decide) ?_
      refine x_bipush (pc := 149) (v := 14) dX8_tell_149 (by decide) ?_
      refine x_aload_n (pc := 151) (a := x0) dX8_tell_151 rfl ?_
      refine x_iload_n (pc := 152) (x := x1) dX8_tell_152 rfl ?_
      refine x_iconst (pc := 153) (v := 4) dX8_tell_153 (by decide) ?_
      replace hf := bd_s hf; obtain ⟨u154, i154, hf⟩ := hf
      replace hf := bd2_s hf; obtain ⟨v154, h154, e154, hf⟩ := hf
      refine x_cVi (pc := 154) (M' := mX8_told) (as := [.int (x1), .int (4)]) (st := [.int (14), .int (0), va_rf (x0)]) (a := x0) (ci := 8) dX8_tell_154 mo_X8_told lk_8_94 im_X8_told se_X8_told rfl ⟨Nat.le_of_ble_eq_true rfl, Nat.le_of_ble_eq_true rfl⟩ rfl (Nat.le_of_ble_eq_true rfl) rfl i154 (tm_X8_told e154) ?_
      replace hf := bd_s hf; obtain ⟨u157, i157, hf⟩ := hf
      replace hf := bd2_s hf; obtain ⟨v157, h157, e157, hf⟩ := hf
      refine x_cVi (pc := 157) (M' := mX8_leftAt) (as := [.int (0), .int (14), .int (v154)]) (st := []) (a := x0) (ci := 8) dX8_tell_157 mo_X8_leftAt lk_8_120 im_X8_leftAt se_X8_leftAt rfl ⟨Nat.le_of_ble_eq_true rfl, Nat.le_of_ble_eq_true rfl⟩ rfl (Nat.le_of_ble_eq_true rfl) rfl i157 (tm_X8_leftAt e157) ?_
      obtain ⟨rfl, rfl⟩ := ret_s hf
      exact x_reti (pc := 160) dX8_tell_160 rfl
    · replace hf := it_f hc hf
      refine x_iconst (pc := 39) (v := 0) dX8_tell_39 (by decide) ?_
      refine x_istore (pc := 40) (ls' := [some (va_rf (x0)), some (.int (x1)), none, some (.int (x3)), some (.int (x4)), some (.int (0)), none, none]) dX8_tell_40 (by decide) rfl ?_
      exact tg_X8_tell_42 (fun _ _ _ _ _ _ _ z => ih z) NN hf

def f_X8_tell (h : AH) (x0 : Option Nat) (x1 : Int32) : Option (Int32 × AH) :=
  bd (isO h x0 8) fun _ =>
  bd2 (f_X8_told h x0 x1 1) fun v3 h3 =>
  bd (isO h3 x0 8) fun _ =>
  bd2 (f_X8_told h3 x0 x1 3) fun v10 h10 =>
  if v10 ≤ (30 - v3) then (
    g_X8_tell_34  NN h10 x0 x1 v10 v10
  ) else (
    g_X8_tell_34  NN h10 x0 x1 (30 - v3) (30 - v3)
  )

set_option maxRecDepth 100000 in
set_option maxHeartbeats 4000000 in
theorem tm_X8_tell {g : GT} {h : AH} {x0 : Option Nat} {x1 : Int32} {r : Int32} {h' : AH} (hf : f_X8_tell h x0 x1 = some (r, h')) : Xm g mX8_tell [va_rf (x0), .int (x1)] h (some (.int r)) h' := by
  refine xm_of mo_X8_tell (Nat.le_of_ble_eq_true rfl) (ls := [some (va_rf (x0)), some (.int (x1)), none, none, none, none, none, none]) rfl ?_
  rw [f_X8_tell] at hf
  refine x_aload_n (pc := 0) (a := x0) dX8_tell_0 rfl ?_
  refine x_iload_n (pc := 1) (x := x1) dX8_tell_1 rfl ?_
  refine x_iconst (pc := 2) (v := 1) dX8_tell_2 (by decide) ?_
  replace hf := bd_s hf; obtain ⟨u3, i3, hf⟩ := hf
  replace hf := bd2_s hf; obtain ⟨v3, h3, e3, hf⟩ := hf
  refine x_cVi (pc := 3) (M' := mX8_told) (as := [.int (x1), .int (1)]) (st := []) (a := x0) (ci := 8) dX8_tell_3 mo_X8_told lk_8_94 im_X8_told se_X8_told rfl ⟨Nat.le_of_ble_eq_true rfl, Nat.le_of_ble_eq_true rfl⟩ rfl (Nat.le_of_ble_eq_true rfl) rfl i3 (tm_X8_told e3) ?_
  refine x_istore_n (pc := 6) (ls' := [some (va_rf (x0)), some (.int (x1)), some (.int (v3)), none, none, none, none, none]) dX8_tell_6 (by decide) rfl ?_
  refine x_aload_n (pc := 7) (a := x0) dX8_tell_7 rfl ?_
  refine x_iload_n (pc := 8) (x := x1) dX8_tell_8 rfl ?_
  refine x_iconst (pc := 9) (v := 3) dX8_tell_9 (by decide) ?_
  replace hf := bd_s hf; obtain ⟨u10, i10, hf⟩ := hf
  replace hf := bd2_s hf; obtain ⟨v10, h10, e10, hf⟩ := hf
  refine x_cVi (pc := 10) (M' := mX8_told) (as := [.int (x1), .int (3)]) (st := []) (a := x0) (ci := 8) dX8_tell_10 mo_X8_told lk_8_94 im_X8_told se_X8_told rfl ⟨Nat.le_of_ble_eq_true rfl, Nat.le_of_ble_eq_true rfl⟩ rfl (Nat.le_of_ble_eq_true rfl) rfl i10 (tm_X8_told e10) ?_
  refine x_istore_n (pc := 13) (ls' := [some (va_rf (x0)), some (.int (x1)), some (.int (v3)), some (.int (v10)), none, none, none, none]) dX8_tell_13 (by decide) rfl ?_
  refine x_iload_n (pc := 14) (x := v10) dX8_tell_14 rfl ?_
  refine x_bipush (pc := 15) (v := 30) dX8_tell_15 (by decide) ?_
  refine x_iload_n (pc := 17) (x := v3) dX8_tell_17 rfl ?_
  refine x_isub (pc := 18) dX8_tell_18 ?_
  refine x_icmp_le (pc := 19) (tgt := 29) (x := v10) (y := (30 - v3)) dX8_tell_19 rfl (fun hc => ?_) (fun hc => ?_)
  · replace hf := it_t hc hf
    refine x_iload_n (pc := 29) (x := v10) dX8_tell_29 rfl ?_
    refine x_istore_n (pc := 30) (ls' := [some (va_rf (x0)), some (.int (x1)), some (.int (v3)), some (.int (v10)), none, none, none, none]) dX8_tell_30 (by decide) rfl ?_
    refine x_iload_n (pc := 31) (x := v10) dX8_tell_31 rfl ?_
    refine x_istore (pc := 32) (ls' := [some (va_rf (x0)), some (.int (x1)), some (.int (v3)), some (.int (v10)), some (.int (v10)), none, none, none]) dX8_tell_32 (by decide) rfl ?_
    refine x_mask [true, true, false, true, true, false, false, false] rfl ?_
    exact tg_X8_tell_34  NN hf
  · replace hf := it_f hc hf
    refine x_bipush (pc := 22) (v := 30) dX8_tell_22 (by decide) ?_
    refine x_iload_n (pc := 24) (x := v3) dX8_tell_24 rfl ?_
    refine x_isub (pc := 25) dX8_tell_25 ?_
    refine x_goto (pc := 26) (tgt := 30) dX8_tell_26 rfl ?_
    refine x_istore_n (pc := 30) (ls' := [some (va_rf (x0)), some (.int (x1)), some (.int (v3)), some (.int (30 - v3)), none, none, none, none]) dX8_tell_30 (by decide) rfl ?_
    refine x_iload_n (pc := 31) (x := 30 - v3) dX8_tell_31 rfl ?_
    refine x_istore (pc := 32) (ls' := [some (va_rf (x0)), some (.int (x1)), some (.int (v3)), some (.int (30 - v3)), some (.int (30 - v3)), none, none, none]) dX8_tell_32 (by decide) rfl ?_
    refine x_mask [true, true, false, true, true, false, false, false] rfl ?_
    exact tg_X8_tell_34  NN hf

def j_X8_planOf_138 (k29 : AH → Option Nat → Int32 → Int32 → Int32 → Int32 → Int32 → Option (Int32 × AH)) (h : AH) (x0 : Option Nat) (x1 : Int32) (x2 : Int32) (x5 : Int32) (x7 : Int32) (y0 : Int32) (y1 : Int32) : Option (Int32 × AH) :=
  bd (gR h x0 8 8) fun v145 =>
  bd (stI h v145 x5 x7) fun h152 =>
  k29 h152 x0 x1 x2 x7 (y0 - y1) (x5 + 1)

set_option maxRecDepth 100000 in
set_option maxHeartbeats 4000000 in
theorem tj_X8_planOf_138 {g : GT} {k29 : AH → Option Nat → Int32 → Int32 → Int32 → Int32 → Int32 → Option (Int32 × AH)} (hk29 : ∀ (h : AH) (x0 : Option Nat) (x1 : Int32) (x2 : Int32) (x3 : Int32) (x4 : Int32) (x5 : Int32) (r : Int32) (h' : AH), k29 h x0 x1 x2 x3 x4 x5 = some (r, h') → Xj g mX8_planOf h 29 [some (va_rf (x0)), some (.int (x1)), some (.int (x2)), some (.int (x3)), some (.int (x4)), some (.int (x5)), none, none] [] (some (.int r)) h') {h : AH} {x0 : Option Nat} {x1 : Int32} {x2 : Int32} {x5 : Int32} {x7 : Int32} {y0 : Int32} {y1 : Int32} {r : Int32} {h' : AH} (hf : j_X8_planOf_138 k29 h x0 x1 x2 x5 x7 y0 y1 = some (r, h')) : Xj g mX8_planOf h 138 [some (va_rf (x0)), some (.int (x1)), some (.int (x2)), none, none, some (.int (x5)), none, some (.int (x7))] [.int (y1), .int (y0)] (some (.int r)) h' := by
  rw [j_X8_planOf_138] at hf
  refine x_isub (pc := 138) dX8_planOf_138 ?_
  refine x_istore (pc := 139) (ls' := [some (va_rf (x0)), some (.int (x1)), some (.int (x2)), none, some (.int (y0 - y1)), some (.int (x5)), none, some (.int (x7))]) dX8_planOf_139 (by decide) rfl ?_
  refine x_iload (pc := 141) (x := x7) dX8_planOf_141 rfl ?_
  refine x_istore_n (pc := 143) (ls' := [some (va_rf (x0)), some (.int (x1)), some (.int (x2)), some (.int (x7)), some (.int (y0 - y1)), some (.int (x5)), none, some (.int (x7))]) dX8_planOf_143 (by decide) rfl ?_
  refine x_aload_n (pc := 144) (a := x0) dX8_planOf_144 rfl ?_
  replace hf := bd_s hf; obtain ⟨v145, e145, hf⟩ := hf
  refine x_getR (pc := 145) dX8_planOf_145 fl_8_28 e145 ?_
  refine x_iload (pc := 148) (x := x5) dX8_planOf_148 rfl ?_
  refine x_iload (pc := 150) (x := x7) dX8_planOf_150 rfl ?_
  replace hf := bd_s hf; obtain ⟨h152, e152, hf⟩ := hf
  refine x_stI (pc := 152) dX8_planOf_152 e152 ?_
  refine x_iinc (pc := 153) (x := x5) (v := x5 + 1) (ls' := [some (va_rf (x0)), some (.int (x1)), some (.int (x2)), some (.int (x7)), some (.int (y0 - y1)), some (.int (x5 + 1)), none, some (.int (x7))]) dX8_planOf_153 rfl rfl (by decide) rfl ?_
  refine x_goto (pc := 156) (tgt := 29) dX8_planOf_156 rfl ?_
  refine x_mask [true, true, true, true, true, true, false, false] rfl ?_
  exact hk29 _ _ _ _ _ _ _ _ _ hf

def j_X8_planOf_89 (k29 : AH → Option Nat → Int32 → Int32 → Int32 → Int32 → Int32 → Option (Int32 × AH)) (k51 : AH → Option Nat → Int32 → Int32 → Int32 → Int32 → Int32 → Int32 → Int32 → Option (Int32 × AH)) (h : AH) (x0 : Option Nat) (x1 : Int32) (x2 : Int32) (x3 : Int32) (x4 : Int32) (x5 : Int32) (x6 : Int32) (x7 : Int32) (y0 : Int32) (y1 : Option Nat) (y2 : Int32) (y3 : Int32) (y4 : Int32) (y5 : Int32) : Option (Int32 × AH) :=
  bd (isO h y1 8) fun _ =>
  bd2 (f_X8_leftAt h y1 y2 y3 (y4 - y5)) fun v90 h90 =>
  bd (isO h90 x0 8) fun _ =>
  bd2 (f_X8_leftAt h90 x0 x5 x3 x4) fun v100 h100 =>
  if ¬ (y0 + v90) = v100 then (
    k51 h100 x0 x1 x2 x3 x4 x5 x6 (x7 + 1)
  ) else (
    bd (isO h100 x0 8) fun _ =>
    bd2 (f_X8_canGo h100 x0 x1 x3 x7 x6) fun v113 h113 =>
    if ¬ v113 = 0 then (
      if ¬ x7 = x3 then (
        j_X8_planOf_138 k29 h113 x0 x1 x2 x5 x7 x4 0
      ) else (
        j_X8_planOf_138 k29 h113 x0 x1 x2 x5 x7 x4 1
      )
    ) else (
      k51 h113 x0 x1 x2 x3 x4 x5 x6 (x7 + 1)
    )
  )

set_option maxRecDepth 100000 in
set_option maxHeartbeats 4000000 in
theorem tj_X8_planOf_89 {g : GT} {k29 : AH → Option Nat → Int32 → Int32 → Int32 → Int32 → Int32 → Option (Int32 × AH)} {k51 : AH → Option Nat → Int32 → Int32 → Int32 → Int32 → Int32 → Int32 → Int32 → Option (Int32 × AH)} (hk29 : ∀ (h : AH) (x0 : Option Nat) (x1 : Int32) (x2 : Int32) (x3 : Int32) (x4 : Int32) (x5 : Int32) (r : Int32) (h' : AH), k29 h x0 x1 x2 x3 x4 x5 = some (r, h') → Xj g mX8_planOf h 29 [some (va_rf (x0)), some (.int (x1)), some (.int (x2)), some (.int (x3)), some (.int (x4)), some (.int (x5)), none, none] [] (some (.int r)) h') (hk51 : ∀ (h : AH) (x0 : Option Nat) (x1 : Int32) (x2 : Int32) (x3 : Int32) (x4 : Int32) (x5 : Int32) (x6 : Int32) (x7 : Int32) (r : Int32) (h' : AH), k51 h x0 x1 x2 x3 x4 x5 x6 x7 = some (r, h') → Xj g mX8_planOf h 51 [some (va_rf (x0)), some (.int (x1)), some (.int (x2)), some (.int (x3)), some (.int (x4)), some (.int (x5)), some (.int (x6)), some (.int (x7))] [] (some (.int r)) h') {h : AH} {x0 : Option Nat} {x1 : Int32} {x2 : Int32} {x3 : Int32} {x4 : Int32} {x5 : Int32} {x6 : Int32} {x7 : Int32} {y0 : Int32} {y1 : Option Nat} {y2 : Int32} {y3 : Int32} {y4 : Int32} {y5 : Int32} {r : Int32} {h' : AH} (hf : j_X8_planOf_89 k29 k51 h x0 x1 x2 x3 x4 x5 x6 x7 y0 y1 y2 y3 y4 y5 = some (r, h')) : Xj g mX8_planOf h 89 [some (va_rf (x0)), some (.int (x1)), some (.int (x2)), some (.int (x3)), some (.int (x4)), some (.int (x5)), some (.int (x6)), some (.int (x7))] [.int (y5), .int (y4), .int (y3), .int (y2), va_rf (y1), .int (y0)] (some (.int r)) h' := by
  rw [j_X8_planOf_89] at hf
  refine x_isub (pc := 89) dX8_planOf_89 ?_
  replace hf := bd_s hf; obtain ⟨u90, i90, hf⟩ := hf
  replace hf := bd2_s hf; obtain ⟨v90, h90, e90, hf⟩ := hf
  refine x_cVi (pc := 90) (M' := mX8_leftAt) (as := [.int (y2), .int (y3), .int (y4 - y5)]) (st := [.int (y0)]) (a := y1) (ci := 8) dX8_planOf_90 mo_X8_leftAt lk_8_120 im_X8_leftAt se_X8_leftAt rfl ⟨Nat.le_of_ble_eq_true rfl, Nat.le_of_ble_eq_true rfl⟩ rfl (Nat.le_of_ble_eq_true rfl) rfl i90 (tm_X8_leftAt e90) ?_
  refine x_iadd (pc := 93) dX8_planOf_93 ?_
  refine x_aload_n (pc := 94) (a := x0) dX8_planOf_94 rfl ?_
  refine x_iload (pc := 95) (x := x5) dX8_planOf_95 rfl ?_
  refine x_iload_n (pc := 97) (x := x3) dX8_planOf_97 rfl ?_
  refine x_iload (pc := 98) (x := x4) dX8_planOf_98 rfl ?_
  replace hf := bd_s hf; obtain ⟨u100, i100, hf⟩ := hf
  replace hf := bd2_s hf; obtain ⟨v100, h100, e100, hf⟩ := hf
  refine x_cVi (pc := 100) (M' := mX8_leftAt) (as := [.int (x5), .int (x3), .int (x4)]) (st := [.int (y0 + v90)]) (a := x0) (ci := 8) dX8_planOf_100 mo_X8_leftAt lk_8_120 im_X8_leftAt se_X8_leftAt rfl ⟨Nat.le_of_ble_eq_true rfl, Nat.le_of_ble_eq_true rfl⟩ rfl (Nat.le_of_ble_eq_true rfl) rfl i100 (tm_X8_leftAt e100) ?_
  refine x_icmp_ne (pc := 103) (tgt := 119) (x := (y0 + v90)) (y := v100) dX8_planOf_103 rfl (fun hc => ?_) (fun hc => ?_)
  · replace hf := it_t hc hf
    refine x_iinc (pc := 119) (x := x7) (v := x7 + 1) (ls' := [some (va_rf (x0)), some (.int (x1)), some (.int (x2)), some (.int (x3)), some (.int (x4)), some (.int (x5)), some (.int (x6)), some (.int (x7 + 1))]) dX8_planOf_119 rfl rfl (by decide) rfl ?_
    refine x_goto (pc := 122) (tgt := 51) dX8_planOf_122 rfl ?_
    exact hk51 _ _ _ _ _ _ _ _ _ _ _ hf
  · replace hf := it_n hc hf
    refine x_aload_n (pc := 106) (a := x0) dX8_planOf_106 rfl ?_
    refine x_iload_n (pc := 107) (x := x1) dX8_planOf_107 rfl ?_
    refine x_iload_n (pc := 108) (x := x3) dX8_planOf_108 rfl ?_
    refine x_iload (pc := 109) (x := x7) dX8_planOf_109 rfl ?_
    refine x_iload (pc := 111) (x := x6) dX8_planOf_111 rfl ?_
    replace hf := bd_s hf; obtain ⟨u113, i113, hf⟩ := hf
    replace hf := bd2_s hf; obtain ⟨v113, h113, e113, hf⟩ := hf
    refine x_cVi (pc := 113) (M' := mX8_canGo) (as := [.int (x1), .int (x3), .int (x7), .int (x6)]) (st := []) (a := x0) (ci := 8) dX8_planOf_113 mo_X8_canGo lk_8_126 im_X8_canGo se_X8_canGo rfl ⟨Nat.le_of_ble_eq_true rfl, Nat.le_of_ble_eq_true rfl⟩ rfl (Nat.le_of_ble_eq_true rfl) rfl i113 (tm_X8_canGo e113) ?_
    refine x_if_ne (pc := 116) (tgt := 125) (x := v113) dX8_planOf_116 rfl (fun hc => ?_) (fun hc => ?_)
    · replace hf := it_t hc hf
      refine x_iload (pc := 125) (x := x4) dX8_planOf_125 rfl ?_
      refine x_iload (pc := 127) (x := x7) dX8_planOf_127 rfl ?_
      refine x_iload_n (pc := 129) (x := x3) dX8_planOf_129 rfl ?_
      refine x_icmp_ne (pc := 130) (tgt := 137) (x := x7) (y := x3) dX8_planOf_130 rfl (fun hc => ?_) (fun hc => ?_)
      · replace hf := it_t hc hf
        refine x_iconst (pc := 137) (v := 0) dX8_planOf_137 (by decide) ?_
        refine x_mask [true, true, true, false, false, true, false, true] rfl ?_
        exact tj_X8_planOf_138 hk29 hf
      · replace hf := it_n hc hf
        refine x_iconst (pc := 133) (v := 1) dX8_planOf_133 (by decide) ?_
        refine x_goto (pc := 134) (tgt := 138) dX8_planOf_134 rfl ?_
        refine x_mask [true, true, true, false, false, true, false, true] rfl ?_
        exact tj_X8_planOf_138 hk29 hf
    · replace hf := it_n hc hf
      refine x_iinc (pc := 119) (x := x7) (v := x7 + 1) (ls' := [some (va_rf (x0)), some (.int (x1)), some (.int (x2)), some (.int (x3)), some (.int (x4)), some (.int (x5)), some (.int (x6)), some (.int (x7 + 1))]) dX8_planOf_119 rfl rfl (by decide) rfl ?_
      refine x_goto (pc := 122) (tgt := 51) dX8_planOf_122 rfl ?_
      exact hk51 _ _ _ _ _ _ _ _ _ _ _ hf

def j_X8_planOf_64 (k29 : AH → Option Nat → Int32 → Int32 → Int32 → Int32 → Int32 → Option (Int32 × AH)) (k51 : AH → Option Nat → Int32 → Int32 → Int32 → Int32 → Int32 → Int32 → Int32 → Option (Int32 × AH)) (h : AH) (x0 : Option Nat) (x1 : Int32) (x2 : Int32) (x3 : Int32) (x4 : Int32) (x5 : Int32) (x6 : Int32) (x7 : Int32) (y0 : Int32) (y1 : Int32) : Option (Int32 × AH) :=
  if (y0 - y1) < 0 then (
    k51 h x0 x1 x2 x3 x4 x5 x6 (x7 + 1)
  ) else (
    if ¬ x7 = x3 then (
      j_X8_planOf_89 k29 k51 h x0 x1 x2 x3 x4 x5 x6 x7 1 x0 (x5 + 1) x7 x4 0
    ) else (
      j_X8_planOf_89 k29 k51 h x0 x1 x2 x3 x4 x5 x6 x7 1 x0 (x5 + 1) x7 x4 1
    )
  )

set_option maxRecDepth 100000 in
set_option maxHeartbeats 4000000 in
theorem tj_X8_planOf_64 {g : GT} {k29 : AH → Option Nat → Int32 → Int32 → Int32 → Int32 → Int32 → Option (Int32 × AH)} {k51 : AH → Option Nat → Int32 → Int32 → Int32 → Int32 → Int32 → Int32 → Int32 → Option (Int32 × AH)} (hk29 : ∀ (h : AH) (x0 : Option Nat) (x1 : Int32) (x2 : Int32) (x3 : Int32) (x4 : Int32) (x5 : Int32) (r : Int32) (h' : AH), k29 h x0 x1 x2 x3 x4 x5 = some (r, h') → Xj g mX8_planOf h 29 [some (va_rf (x0)), some (.int (x1)), some (.int (x2)), some (.int (x3)), some (.int (x4)), some (.int (x5)), none, none] [] (some (.int r)) h') (hk51 : ∀ (h : AH) (x0 : Option Nat) (x1 : Int32) (x2 : Int32) (x3 : Int32) (x4 : Int32) (x5 : Int32) (x6 : Int32) (x7 : Int32) (r : Int32) (h' : AH), k51 h x0 x1 x2 x3 x4 x5 x6 x7 = some (r, h') → Xj g mX8_planOf h 51 [some (va_rf (x0)), some (.int (x1)), some (.int (x2)), some (.int (x3)), some (.int (x4)), some (.int (x5)), some (.int (x6)), some (.int (x7))] [] (some (.int r)) h') {h : AH} {x0 : Option Nat} {x1 : Int32} {x2 : Int32} {x3 : Int32} {x4 : Int32} {x5 : Int32} {x6 : Int32} {x7 : Int32} {y0 : Int32} {y1 : Int32} {r : Int32} {h' : AH} (hf : j_X8_planOf_64 k29 k51 h x0 x1 x2 x3 x4 x5 x6 x7 y0 y1 = some (r, h')) : Xj g mX8_planOf h 64 [some (va_rf (x0)), some (.int (x1)), some (.int (x2)), some (.int (x3)), some (.int (x4)), some (.int (x5)), some (.int (x6)), some (.int (x7))] [.int (y1), .int (y0)] (some (.int r)) h' := by
  rw [j_X8_planOf_64] at hf
  refine x_isub (pc := 64) dX8_planOf_64 ?_
  refine x_if_lt (pc := 65) (tgt := 119) (x := (y0 - y1)) dX8_planOf_65 rfl (fun hc => ?_) (fun hc => ?_)
  · replace hf := it_t hc hf
    refine x_iinc (pc := 119) (x := x7) (v := x7 + 1) (ls' := [some (va_rf (x0)), some (.int (x1)), some (.int (x2)), some (.int (x3)), some (.int (x4)), some (.int (x5)), some (.int (x6)), some (.int (x7 + 1))]) dX8_planOf_119 rfl rfl (by decide) rfl ?_
    refine x_goto (pc := 122) (tgt := 51) dX8_planOf_122 rfl ?_
    exact hk51 _ _ _ _ _ _ _ _ _ _ _ hf
  · replace hf := it_f hc hf
    refine x_iconst (pc := 68) (v := 1) dX8_planOf_68 (by decide) ?_
    refine x_aload_n (pc := 69) (a := x0) dX8_planOf_69 rfl ?_
    refine x_iload (pc := 70) (x := x5) dX8_planOf_70 rfl ?_
    refine x_iconst (pc := 72) (v := 1) dX8_planOf_72 (by decide) ?_
    refine x_iadd (pc := 73) dX8_planOf_73 ?_
    refine x_iload (pc := 74) (x := x7) dX8_planOf_74 rfl ?_
    refine x_iload (pc := 76) (x := x4) dX8_planOf_76 rfl ?_
    refine x_iload (pc := 78) (x := x7) dX8_planOf_78 rfl ?_
    refine x_iload_n (pc := 80) (x := x3) dX8_planOf_80 rfl ?_
    refine x_icmp_ne (pc := 81) (tgt := 88) (x := x7) (y := x3) dX8_planOf_81 rfl (fun hc => ?_) (fun hc => ?_)
    · replace hf := it_t hc hf
      refine x_iconst (pc := 88) (v := 0) dX8_planOf_88 (by decide) ?_
      exact tj_X8_planOf_89 hk29 hk51 hf
    · replace hf := it_n hc hf
      refine x_iconst (pc := 84) (v := 1) dX8_planOf_84 (by decide) ?_
      refine x_goto (pc := 85) (tgt := 89) dX8_planOf_85 rfl ?_
      exact tj_X8_planOf_89 hk29 hk51 hf

def g_X8_planOf_51 (k29 : AH → Option Nat → Int32 → Int32 → Int32 → Int32 → Int32 → Option (Int32 × AH)) : Nat → AH → Option Nat → Int32 → Int32 → Int32 → Int32 → Int32 → Int32 → Int32 → Option (Int32 × AH)
  | 0, _, _, _, _, _, _, _, _, _ => none
  | n + 1, h, x0, x1, x2, x3, x4, x5, x6, x7 =>
    if ¬ x7 = x3 then (
      j_X8_planOf_64 k29 (fun h x0 x1 x2 x3 x4 x5 x6 x7 => g_X8_planOf_51 k29 n h x0 x1 x2 x3 x4 x5 x6 x7) h x0 x1 x2 x3 x4 x5 x6 x7 x4 0
    ) else (
      j_X8_planOf_64 k29 (fun h x0 x1 x2 x3 x4 x5 x6 x7 => g_X8_planOf_51 k29 n h x0 x1 x2 x3 x4 x5 x6 x7) h x0 x1 x2 x3 x4 x5 x6 x7 x4 1
    )

set_option maxRecDepth 100000 in
set_option maxHeartbeats 4000000 in
theorem tg_X8_planOf_51 {g : GT} {k29 : AH → Option Nat → Int32 → Int32 → Int32 → Int32 → Int32 → Option (Int32 × AH)} (hk29 : ∀ (h : AH) (x0 : Option Nat) (x1 : Int32) (x2 : Int32) (x3 : Int32) (x4 : Int32) (x5 : Int32) (r : Int32) (h' : AH), k29 h x0 x1 x2 x3 x4 x5 = some (r, h') → Xj g mX8_planOf h 29 [some (va_rf (x0)), some (.int (x1)), some (.int (x2)), some (.int (x3)), some (.int (x4)), some (.int (x5)), none, none] [] (some (.int r)) h') : ∀ (n : Nat) {h : AH} {x0 : Option Nat} {x1 : Int32} {x2 : Int32} {x3 : Int32} {x4 : Int32} {x5 : Int32} {x6 : Int32} {x7 : Int32} {r : Int32} {h' : AH}, g_X8_planOf_51 k29 n h x0 x1 x2 x3 x4 x5 x6 x7 = some (r, h') → Xj g mX8_planOf h 51 [some (va_rf (x0)), some (.int (x1)), some (.int (x2)), some (.int (x3)), some (.int (x4)), some (.int (x5)), some (.int (x6)), some (.int (x7))] [] (some (.int r)) h' := by
  intro n
  induction n with
  | zero =>
    intros
    rename_i z
    cases z
  | succ n ih =>
    intro h x0 x1 x2 x3 x4 x5 x6 x7 r h' hf
    rw [g_X8_planOf_51] at hf
    refine x_iload (pc := 51) (x := x4) dX8_planOf_51 rfl ?_
    refine x_iload (pc := 53) (x := x7) dX8_planOf_53 rfl ?_
    refine x_iload_n (pc := 55) (x := x3) dX8_planOf_55 rfl ?_
    refine x_icmp_ne (pc := 56) (tgt := 63) (x := x7) (y := x3) dX8_planOf_56 rfl (fun hc => ?_) (fun hc => ?_)
    · replace hf := it_t hc hf
      refine x_iconst (pc := 63) (v := 0) dX8_planOf_63 (by decide) ?_
      exact tj_X8_planOf_64 hk29 (fun _ _ _ _ _ _ _ _ _ _ _ z => ih z) hf
    · replace hf := it_n hc hf
      refine x_iconst (pc := 59) (v := 1) dX8_planOf_59 (by decide) ?_
      refine x_goto (pc := 60) (tgt := 64) dX8_planOf_60 rfl ?_
      exact tj_X8_planOf_64 hk29 (fun _ _ _ _ _ _ _ _ _ _ _ z => ih z) hf

def g_X8_planOf_29 : Nat → AH → Option Nat → Int32 → Int32 → Int32 → Int32 → Int32 → Option (Int32 × AH)
  | 0, _, _, _, _, _, _, _ => none
  | n + 1, h, x0, x1, x2, x3, x4, x5 =>
    if x2 ≤ (x5 + 1) then (
      some (x2, h)
    ) else (
      bd (isO h x0 8) fun _ =>
      bd2 (f_X8_told h x0 x1 1) fun v40 h40 =>
      g_X8_planOf_51 (fun h x0 x1 x2 x3 x4 x5 => g_X8_planOf_29  n h x0 x1 x2 x3 x4 x5) NN h40 x0 x1 x2 x3 x4 x5 (v40 + x5) 0
    )

set_option maxRecDepth 100000 in
set_option maxHeartbeats 4000000 in
theorem tg_X8_planOf_29 {g : GT} : ∀ (n : Nat) {h : AH} {x0 : Option Nat} {x1 : Int32} {x2 : Int32} {x3 : Int32} {x4 : Int32} {x5 : Int32} {r : Int32} {h' : AH}, g_X8_planOf_29 n h x0 x1 x2 x3 x4 x5 = some (r, h') → Xj g mX8_planOf h 29 [some (va_rf (x0)), some (.int (x1)), some (.int (x2)), some (.int (x3)), some (.int (x4)), some (.int (x5)), none, none] [] (some (.int r)) h' := by
  intro n
  induction n with
  | zero =>
    intros
    rename_i z
    cases z
  | succ n ih =>
    intro h x0 x1 x2 x3 x4 x5 r h' hf
    rw [g_X8_planOf_29] at hf
    refine x_iload (pc := 29) (x := x5) dX8_planOf_29 rfl ?_
    refine x_iconst (pc := 31) (v := 1) dX8_planOf_31 (by decide) ?_
    refine x_iadd (pc := 32) dX8_planOf_32 ?_
    refine x_iload_n (pc := 33) (x := x2) dX8_planOf_33 rfl ?_
    refine x_icmp_ge (pc := 34) (tgt := 159) (x := (x5 + 1)) (y := x2) dX8_planOf_34 rfl (fun hc => ?_) (fun hc => ?_)
    · replace hf := it_t hc hf
      refine x_iload_n (pc := 159) (x := x2) dX8_planOf_159 rfl ?_
      obtain ⟨rfl, rfl⟩ := ret_s hf
      exact x_reti (pc := 160) dX8_planOf_160 rfl
    · replace hf := it_f hc hf
      refine x_aload_n (pc := 37) (a := x0) dX8_planOf_37 rfl ?_
      refine x_iload_n (pc := 38) (x := x1) dX8_planOf_38 rfl ?_
      refine x_iconst (pc := 39) (v := 1) dX8_planOf_39 (by decide) ?_
      replace hf := bd_s hf; obtain ⟨u40, i40, hf⟩ := hf
      replace hf := bd2_s hf; obtain ⟨v40, h40, e40, hf⟩ := hf
      refine x_cVi (pc := 40) (M' := mX8_told) (as := [.int (x1), .int (1)]) (st := []) (a := x0) (ci := 8) dX8_planOf_40 mo_X8_told lk_8_94 im_X8_told se_X8_told rfl ⟨Nat.le_of_ble_eq_true rfl, Nat.le_of_ble_eq_true rfl⟩ rfl (Nat.le_of_ble_eq_true rfl) rfl i40 (tm_X8_told e40) ?_
      refine x_iload (pc := 43) (x := x5) dX8_planOf_43 rfl ?_
      refine x_iadd (pc := 45) dX8_planOf_45 ?_
      refine x_istore (pc := 46) (ls' := [some (va_rf (x0)), some (.int (x1)), some (.int (x2)), some (.int (x3)), some (.int (x4)), some (.int (x5)), some (.int (v40 + x5)), none]) dX8_planOf_46 (by decide) rfl ?_
      refine x_iconst (pc := 48) (v := 0) dX8_planOf_48 (by decide) ?_
      refine x_istore (pc := 49) (ls' := [some (va_rf (x0)), some (.int (x1)), some (.int (x2)), some (.int (x3)), some (.int (x4)), some (.int (x5)), some (.int (v40 + x5)), some (.int (0))]) dX8_planOf_49 (by decide) rfl ?_
      exact tg_X8_planOf_51 (fun _ _ _ _ _ _ _ _ _ z => ih z) NN hf

def f_X8_planOf (h : AH) (x0 : Option Nat) (x1 : Int32) : Option (Int32 × AH) :=
  bd (isO h x0 8) fun _ =>
  bd2 (f_X8_tell h x0 x1) fun v2 h2 =>
  if ¬ v2 = 1000 then (
    bd (isO h2 x0 8) fun _ =>
    bd2 (f_X8_told h2 x0 x1 4) fun v21 h21 =>
    g_X8_planOf_29  NN h21 x0 x1 v2 14 v21 0
  ) else (
    some (v2, h2)
  )

set_option maxRecDepth 100000 in
set_option maxHeartbeats 4000000 in
theorem tm_X8_planOf {g : GT} {h : AH} {x0 : Option Nat} {x1 : Int32} {r : Int32} {h' : AH} (hf : f_X8_planOf h x0 x1 = some (r, h')) : Xm g mX8_planOf [va_rf (x0), .int (x1)] h (some (.int r)) h' := by
  refine xm_of mo_X8_planOf (Nat.le_of_ble_eq_true rfl) (ls := [some (va_rf (x0)), some (.int (x1)), none, none, none, none, none, none]) rfl ?_
  rw [f_X8_planOf] at hf
  refine x_aload_n (pc := 0) (a := x0) dX8_planOf_0 rfl ?_
  refine x_iload_n (pc := 1) (x := x1) dX8_planOf_1 rfl ?_
  replace hf := bd_s hf; obtain ⟨u2, i2, hf⟩ := hf
  replace hf := bd2_s hf; obtain ⟨v2, h2, e2, hf⟩ := hf
  refine x_cVi (pc := 2) (M' := mX8_tell) (as := [.int (x1)]) (st := []) (a := x0) (ci := 8) dX8_planOf_2 mo_X8_tell lk_8_129 im_X8_tell se_X8_tell rfl ⟨Nat.le_of_ble_eq_true rfl, Nat.le_of_ble_eq_true rfl⟩ rfl (Nat.le_of_ble_eq_true rfl) rfl i2 (tm_X8_tell e2) ?_
  refine x_istore_n (pc := 5) (ls' := [some (va_rf (x0)), some (.int (x1)), some (.int (v2)), none, none, none, none, none]) dX8_planOf_5 (by decide) rfl ?_
  refine x_iload_n (pc := 6) (x := v2) dX8_planOf_6 rfl ?_
  refine x_sipush (pc := 7) (v := 1000) dX8_planOf_7 (by decide) ?_
  refine x_icmp_ne (pc := 10) (tgt := 15) (x := v2) (y := 1000) dX8_planOf_10 rfl (fun hc => ?_) (fun hc => ?_)
  · replace hf := it_t hc hf
    refine x_bipush (pc := 15) (v := 14) dX8_planOf_15 (by decide) ?_
    refine x_istore_n (pc := 17) (ls' := [some (va_rf (x0)), some (.int (x1)), some (.int (v2)), some (.int (14)), none, none, none, none]) dX8_planOf_17 (by decide) rfl ?_
    refine x_aload_n (pc := 18) (a := x0) dX8_planOf_18 rfl ?_
    refine x_iload_n (pc := 19) (x := x1) dX8_planOf_19 rfl ?_
    refine x_iconst (pc := 20) (v := 4) dX8_planOf_20 (by decide) ?_
    replace hf := bd_s hf; obtain ⟨u21, i21, hf⟩ := hf
    replace hf := bd2_s hf; obtain ⟨v21, h21, e21, hf⟩ := hf
    refine x_cVi (pc := 21) (M' := mX8_told) (as := [.int (x1), .int (4)]) (st := []) (a := x0) (ci := 8) dX8_planOf_21 mo_X8_told lk_8_94 im_X8_told se_X8_told rfl ⟨Nat.le_of_ble_eq_true rfl, Nat.le_of_ble_eq_true rfl⟩ rfl (Nat.le_of_ble_eq_true rfl) rfl i21 (tm_X8_told e21) ?_
    refine x_istore (pc := 24) (ls' := [some (va_rf (x0)), some (.int (x1)), some (.int (v2)), some (.int (14)), some (.int (v21)), none, none, none]) dX8_planOf_24 (by decide) rfl ?_
    refine x_iconst (pc := 26) (v := 0) dX8_planOf_26 (by decide) ?_
    refine x_istore (pc := 27) (ls' := [some (va_rf (x0)), some (.int (x1)), some (.int (v2)), some (.int (14)), some (.int (v21)), some (.int (0)), none, none]) dX8_planOf_27 (by decide) rfl ?_
    exact tg_X8_planOf_29  NN hf
  · replace hf := it_n hc hf
    refine x_iload_n (pc := 13) (x := v2) dX8_planOf_13 rfl ?_
    obtain ⟨rfl, rfl⟩ := ret_s hf
    exact x_reti (pc := 14) dX8_planOf_14 rfl

def g_X8_lay_7 : Nat → AH → Option Nat → Int32 → Int32 → Int32 → Option AH
  | 0, _, _, _, _, _ => none
  | n + 1, h, x0, x1, x2, x3 =>
    if x2 ≤ (x3 + 1) then (
      some h
    ) else (
      bd (gR h x0 8 0) fun v15 =>
      bd (isO h x0 8) fun _ =>
      bd2 (f_X8_told h x0 x1 1) fun v29 h29 =>
      bd (gR h29 x0 8 8) fun v36 =>
      bd (ldI h29 v36 x3) fun v40 =>
      bd (stI h29 v15 (((244 + (30 * x1)) + v29) + x3) v40) fun h41 =>
      g_X8_lay_7  n h41 x0 x1 x2 (x3 + 1)
    )

set_option maxRecDepth 100000 in
set_option maxHeartbeats 4000000 in
theorem tg_X8_lay_7 {g : GT} : ∀ (n : Nat) {h : AH} {x0 : Option Nat} {x1 : Int32} {x2 : Int32} {x3 : Int32} {h' : AH}, g_X8_lay_7 n h x0 x1 x2 x3 = some h' → Xj g mX8_lay h 7 [some (va_rf (x0)), some (.int (x1)), some (.int (x2)), some (.int (x3))] [] none h' := by
  intro n
  induction n with
  | zero =>
    intros
    rename_i z
    cases z
  | succ n ih =>
    intro h x0 x1 x2 x3 h' hf
    rw [g_X8_lay_7] at hf
    refine x_iload_n (pc := 7) (x := x3) dX8_lay_7 rfl ?_
    refine x_iconst (pc := 8) (v := 1) dX8_lay_8 (by decide) ?_
    refine x_iadd (pc := 9) dX8_lay_9 ?_
    refine x_iload_n (pc := 10) (x := x2) dX8_lay_10 rfl ?_
    refine x_icmp_ge (pc := 11) (tgt := 48) (x := (x3 + 1)) (y := x2) dX8_lay_11 rfl (fun hc => ?_) (fun hc => ?_)
    · replace hf := it_t hc hf
      obtain rfl := Option.some.inj hf
      exact x_vret (pc := 48) dX8_lay_48 rfl
    · replace hf := it_f hc hf
      refine x_aload_n (pc := 14) (a := x0) dX8_lay_14 rfl ?_
      replace hf := bd_s hf; obtain ⟨v15, e15, hf⟩ := hf
      refine x_getR (pc := 15) dX8_lay_15 fl_8_7 e15 ?_
      refine x_sipush (pc := 18) (v := 244) dX8_lay_18 (by decide) ?_
      refine x_bipush (pc := 21) (v := 30) dX8_lay_21 (by decide) ?_
      refine x_iload_n (pc := 23) (x := x1) dX8_lay_23 rfl ?_
      refine x_imul (pc := 24) dX8_lay_24 ?_
      refine x_iadd (pc := 25) dX8_lay_25 ?_
      refine x_aload_n (pc := 26) (a := x0) dX8_lay_26 rfl ?_
      refine x_iload_n (pc := 27) (x := x1) dX8_lay_27 rfl ?_
      refine x_iconst (pc := 28) (v := 1) dX8_lay_28 (by decide) ?_
      replace hf := bd_s hf; obtain ⟨u29, i29, hf⟩ := hf
      replace hf := bd2_s hf; obtain ⟨v29, h29, e29, hf⟩ := hf
      refine x_cVi (pc := 29) (M' := mX8_told) (as := [.int (x1), .int (1)]) (st := [.int (244 + (30 * x1)), va_rf (v15)]) (a := x0) (ci := 8) dX8_lay_29 mo_X8_told lk_8_94 im_X8_told se_X8_told rfl ⟨Nat.le_of_ble_eq_true rfl, Nat.le_of_ble_eq_true rfl⟩ rfl (Nat.le_of_ble_eq_true rfl) rfl i29 (tm_X8_told e29) ?_
      refine x_iadd (pc := 32) dX8_lay_32 ?_
      refine x_iload_n (pc := 33) (x := x3) dX8_lay_33 rfl ?_
      refine x_iadd (pc := 34) dX8_lay_34 ?_
      refine x_aload_n (pc := 35) (a := x0) dX8_lay_35 rfl ?_
      replace hf := bd_s hf; obtain ⟨v36, e36, hf⟩ := hf
      refine x_getR (pc := 36) dX8_lay_36 fl_8_28 e36 ?_
      refine x_iload_n (pc := 39) (x := x3) dX8_lay_39 rfl ?_
      replace hf := bd_s hf; obtain ⟨v40, e40, hf⟩ := hf
      refine x_ldI (pc := 40) dX8_lay_40 e40 ?_
      replace hf := bd_s hf; obtain ⟨h41, e41, hf⟩ := hf
      refine x_stI (pc := 41) dX8_lay_41 e41 ?_
      refine x_iinc (pc := 42) (x := x3) (v := x3 + 1) (ls' := [some (va_rf (x0)), some (.int (x1)), some (.int (x2)), some (.int (x3 + 1))]) dX8_lay_42 rfl rfl (by decide) rfl ?_
      refine x_goto (pc := 45) (tgt := 7) dX8_lay_45 rfl ?_
      exact ih hf

def f_X8_lay (h : AH) (x0 : Option Nat) (x1 : Int32) (x2 : Int32) : Option AH :=
  bd (isO h x0 8) fun _ =>
  bd (f_X8_noNights h x0 x1) fun h2 =>
  g_X8_lay_7  NN h2 x0 x1 x2 0

set_option maxRecDepth 100000 in
set_option maxHeartbeats 4000000 in
theorem tm_X8_lay {g : GT} {h : AH} {x0 : Option Nat} {x1 : Int32} {x2 : Int32} {h' : AH} (hf : f_X8_lay h x0 x1 x2 = some h') : Xm g mX8_lay [va_rf (x0), .int (x1), .int (x2)] h none h' := by
  refine xm_of mo_X8_lay (Nat.le_of_ble_eq_true rfl) (ls := [some (va_rf (x0)), some (.int (x1)), some (.int (x2)), none]) rfl ?_
  rw [f_X8_lay] at hf
  refine x_aload_n (pc := 0) (a := x0) dX8_lay_0 rfl ?_
  refine x_iload_n (pc := 1) (x := x1) dX8_lay_1 rfl ?_
  replace hf := bd_s hf; obtain ⟨u2, i2, hf⟩ := hf
  replace hf := bd_s hf; obtain ⟨h2, e2, hf⟩ := hf
  refine x_cVv (pc := 2) (M' := mX8_noNights) (as := [.int (x1)]) (st := []) (a := x0) (ci := 8) dX8_lay_2 mo_X8_noNights lk_8_87 im_X8_noNights se_X8_noNights rfl ⟨Nat.le_of_ble_eq_true rfl, Nat.le_of_ble_eq_true rfl⟩ rfl (Nat.le_of_ble_eq_true rfl) rfl i2 (tm_X8_noNights e2) ?_
  refine x_iconst (pc := 5) (v := 0) dX8_lay_5 (by decide) ?_
  refine x_istore_n (pc := 6) (ls' := [some (va_rf (x0)), some (.int (x1)), some (.int (x2)), some (.int (0))]) dX8_lay_6 (by decide) rfl ?_
  exact tg_X8_lay_7  NN hf

def j_X8_calendarOf_76 (k36 : AH → Option Nat → Int32 → Int32 → Int32 → Option (Int32 × AH)) (h : AH) (x0 : Option Nat) (x1 : Int32) (x3 : Int32) (x4 : Int32) (y0 : Int32) (y1 : Int32) : Option (Int32 × AH) :=
  if 1000 ≤ x4 then (
    bd (isO h x0 8) fun _ =>
    bd (f_X8_lay h x0 x3 0) fun h94 =>
    k36 h94 x0 x1 (y0 + y1) (x3 + 1)
  ) else (
    bd (isO h x0 8) fun _ =>
    bd (f_X8_lay h x0 x3 x4) fun h94 =>
    k36 h94 x0 x1 (y0 + y1) (x3 + 1)
  )

set_option maxRecDepth 100000 in
set_option maxHeartbeats 4000000 in
theorem tj_X8_calendarOf_76 {g : GT} {k36 : AH → Option Nat → Int32 → Int32 → Int32 → Option (Int32 × AH)} (hk36 : ∀ (h : AH) (x0 : Option Nat) (x1 : Int32) (x2 : Int32) (x3 : Int32) (r : Int32) (h' : AH), k36 h x0 x1 x2 x3 = some (r, h') → Xj g mX8_calendarOf h 36 [some (va_rf (x0)), some (.int (x1)), some (.int (x2)), some (.int (x3)), none] [] (some (.int r)) h') {h : AH} {x0 : Option Nat} {x1 : Int32} {x3 : Int32} {x4 : Int32} {y0 : Int32} {y1 : Int32} {r : Int32} {h' : AH} (hf : j_X8_calendarOf_76 k36 h x0 x1 x3 x4 y0 y1 = some (r, h')) : Xj g mX8_calendarOf h 76 [some (va_rf (x0)), some (.int (x1)), none, some (.int (x3)), some (.int (x4))] [.int (y1), .int (y0)] (some (.int r)) h' := by
  rw [j_X8_calendarOf_76] at hf
  refine x_iadd (pc := 76) dX8_calendarOf_76 ?_
  refine x_istore_n (pc := 77) (ls' := [some (va_rf (x0)), some (.int (x1)), some (.int (y0 + y1)), some (.int (x3)), some (.int (x4))]) dX8_calendarOf_77 (by decide) rfl ?_
  refine x_aload_n (pc := 78) (a := x0) dX8_calendarOf_78 rfl ?_
  refine x_iload_n (pc := 79) (x := x3) dX8_calendarOf_79 rfl ?_
  refine x_iload (pc := 80) (x := x4) dX8_calendarOf_80 rfl ?_
  refine x_sipush (pc := 82) (v := 1000) dX8_calendarOf_82 (by decide) ?_
  refine x_icmp_ge (pc := 85) (tgt := 93) (x := x4) (y := 1000) dX8_calendarOf_85 rfl (fun hc => ?_) (fun hc => ?_)
  · replace hf := it_t hc hf
    refine x_iconst (pc := 93) (v := 0) dX8_calendarOf_93 (by decide) ?_
    replace hf := bd_s hf; obtain ⟨u94, i94, hf⟩ := hf
    replace hf := bd_s hf; obtain ⟨h94, e94, hf⟩ := hf
    refine x_cVv (pc := 94) (M' := mX8_lay) (as := [.int (x3), .int (0)]) (st := []) (a := x0) (ci := 8) dX8_calendarOf_94 mo_X8_lay lk_8_135 im_X8_lay se_X8_lay rfl ⟨Nat.le_of_ble_eq_true rfl, Nat.le_of_ble_eq_true rfl⟩ rfl (Nat.le_of_ble_eq_true rfl) rfl i94 (tm_X8_lay e94) ?_
    refine x_iinc (pc := 97) (x := x3) (v := x3 + 1) (ls' := [some (va_rf (x0)), some (.int (x1)), some (.int (y0 + y1)), some (.int (x3 + 1)), some (.int (x4))]) dX8_calendarOf_97 rfl rfl (by decide) rfl ?_
    refine x_goto (pc := 100) (tgt := 36) dX8_calendarOf_100 rfl ?_
    refine x_mask [true, true, true, true, false] rfl ?_
    exact hk36 _ _ _ _ _ _ _ hf
  · replace hf := it_f hc hf
    refine x_iload (pc := 88) (x := x4) dX8_calendarOf_88 rfl ?_
    refine x_goto (pc := 90) (tgt := 94) dX8_calendarOf_90 rfl ?_
    replace hf := bd_s hf; obtain ⟨u94, i94, hf⟩ := hf
    replace hf := bd_s hf; obtain ⟨h94, e94, hf⟩ := hf
    refine x_cVv (pc := 94) (M' := mX8_lay) (as := [.int (x3), .int (x4)]) (st := []) (a := x0) (ci := 8) dX8_calendarOf_94 mo_X8_lay lk_8_135 im_X8_lay se_X8_lay rfl ⟨Nat.le_of_ble_eq_true rfl, Nat.le_of_ble_eq_true rfl⟩ rfl (Nat.le_of_ble_eq_true rfl) rfl i94 (tm_X8_lay e94) ?_
    refine x_iinc (pc := 97) (x := x3) (v := x3 + 1) (ls' := [some (va_rf (x0)), some (.int (x1)), some (.int (y0 + y1)), some (.int (x3 + 1)), some (.int (x4))]) dX8_calendarOf_97 rfl rfl (by decide) rfl ?_
    refine x_goto (pc := 100) (tgt := 36) dX8_calendarOf_100 rfl ?_
    refine x_mask [true, true, true, true, false] rfl ?_
    exact hk36 _ _ _ _ _ _ _ hf

def g_X8_calendarOf_36 : Nat → AH → Option Nat → Int32 → Int32 → Int32 → Option (Int32 × AH)
  | 0, _, _, _, _, _ => none
  | n + 1, h, x0, x1, x2, x3 =>
    bd (gR h x0 8 0) fun v38 =>
    bd (ldI h v38 5) fun v42 =>
    if v42 ≤ x3 then (
      some (x2, h)
    ) else (
      if ¬ ((x1 >>> (x3 &&& 31)) &&& 1) = 1 then (
        g_X8_calendarOf_36  n h x0 x1 x2 (x3 + 1)
      ) else (
        bd (isO h x0 8) fun _ =>
        bd2 (f_X8_planOf h x0 x3) fun v57 h57 =>
        if 1000 ≤ v57 then (
          j_X8_calendarOf_76 (fun h x0 x1 x2 x3 => g_X8_calendarOf_36  n h x0 x1 x2 x3) h57 x0 x1 x3 v57 x2 0
        ) else (
          j_X8_calendarOf_76 (fun h x0 x1 x2 x3 => g_X8_calendarOf_36  n h x0 x1 x2 x3) h57 x0 x1 x3 v57 x2 1
        )
      )
    )

set_option maxRecDepth 100000 in
set_option maxHeartbeats 4000000 in
theorem tg_X8_calendarOf_36 {g : GT} : ∀ (n : Nat) {h : AH} {x0 : Option Nat} {x1 : Int32} {x2 : Int32} {x3 : Int32} {r : Int32} {h' : AH}, g_X8_calendarOf_36 n h x0 x1 x2 x3 = some (r, h') → Xj g mX8_calendarOf h 36 [some (va_rf (x0)), some (.int (x1)), some (.int (x2)), some (.int (x3)), none] [] (some (.int r)) h' := by
  intro n
  induction n with
  | zero =>
    intros
    rename_i z
    cases z
  | succ n ih =>
    intro h x0 x1 x2 x3 r h' hf
    rw [g_X8_calendarOf_36] at hf
    refine x_iload_n (pc := 36) (x := x3) dX8_calendarOf_36 rfl ?_
    refine x_aload_n (pc := 37) (a := x0) dX8_calendarOf_37 rfl ?_
    replace hf := bd_s hf; obtain ⟨v38, e38, hf⟩ := hf
    refine x_getR (pc := 38) dX8_calendarOf_38 fl_8_7 e38 ?_
    refine x_iconst (pc := 41) (v := 5) dX8_calendarOf_41 (by decide) ?_
    replace hf := bd_s hf; obtain ⟨v42, e42, hf⟩ := hf
    refine x_ldI (pc := 42) dX8_calendarOf_42 e42 ?_
    refine x_icmp_ge (pc := 43) (tgt := 103) (x := x3) (y := v42) dX8_calendarOf_43 rfl (fun hc => ?_) (fun hc => ?_)
    · replace hf := it_t hc hf
      refine x_iload_n (pc := 103) (x := x2) dX8_calendarOf_103 rfl ?_
      obtain ⟨rfl, rfl⟩ := ret_s hf
      exact x_reti (pc := 104) dX8_calendarOf_104 rfl
    · replace hf := it_f hc hf
      refine x_iload_n (pc := 46) (x := x1) dX8_calendarOf_46 rfl ?_
      refine x_iload_n (pc := 47) (x := x3) dX8_calendarOf_47 rfl ?_
      refine x_ishr (pc := 48) dX8_calendarOf_48 ?_
      refine x_iconst (pc := 49) (v := 1) dX8_calendarOf_49 (by decide) ?_
      refine x_iand (pc := 50) dX8_calendarOf_50 ?_
      refine x_iconst (pc := 51) (v := 1) dX8_calendarOf_51 (by decide) ?_
      refine x_icmp_ne (pc := 52) (tgt := 97) (x := ((x1 >>> (x3 &&& 31)) &&& 1)) (y := 1) dX8_calendarOf_52 rfl (fun hc => ?_) (fun hc => ?_)
      · replace hf := it_t hc hf
        refine x_iinc (pc := 97) (x := x3) (v := x3 + 1) (ls' := [some (va_rf (x0)), some (.int (x1)), some (.int (x2)), some (.int (x3 + 1)), none]) dX8_calendarOf_97 rfl rfl (by decide) rfl ?_
        refine x_goto (pc := 100) (tgt := 36) dX8_calendarOf_100 rfl ?_
        exact ih hf
      · replace hf := it_n hc hf
        refine x_aload_n (pc := 55) (a := x0) dX8_calendarOf_55 rfl ?_
        refine x_iload_n (pc := 56) (x := x3) dX8_calendarOf_56 rfl ?_
        replace hf := bd_s hf; obtain ⟨u57, i57, hf⟩ := hf
        replace hf := bd2_s hf; obtain ⟨v57, h57, e57, hf⟩ := hf
        refine x_cVi (pc := 57) (M' := mX8_planOf) (as := [.int (x3)]) (st := []) (a := x0) (ci := 8) dX8_calendarOf_57 mo_X8_planOf lk_8_132 im_X8_planOf se_X8_planOf rfl ⟨Nat.le_of_ble_eq_true rfl, Nat.le_of_ble_eq_true rfl⟩ rfl (Nat.le_of_ble_eq_true rfl) rfl i57 (tm_X8_planOf e57) ?_
        refine x_istore (pc := 60) (ls' := [some (va_rf (x0)), some (.int (x1)), some (.int (x2)), some (.int (x3)), some (.int (v57))]) dX8_calendarOf_60 (by decide) rfl ?_
        refine x_iload_n (pc := 62) (x := x2) dX8_calendarOf_62 rfl ?_
        refine x_iload (pc := 63) (x := v57) dX8_calendarOf_63 rfl ?_
        refine x_sipush (pc := 65) (v := 1000) dX8_calendarOf_65 (by decide) ?_
        refine x_icmp_ge (pc := 68) (tgt := 75) (x := v57) (y := 1000) dX8_calendarOf_68 rfl (fun hc => ?_) (fun hc => ?_)
        · replace hf := it_t hc hf
          refine x_iconst (pc := 75) (v := 0) dX8_calendarOf_75 (by decide) ?_
          refine x_mask [true, true, false, true, true] rfl ?_
          exact tj_X8_calendarOf_76 (fun _ _ _ _ _ _ _ z => ih z) hf
        · replace hf := it_f hc hf
          refine x_iconst (pc := 71) (v := 1) dX8_calendarOf_71 (by decide) ?_
          refine x_goto (pc := 72) (tgt := 76) dX8_calendarOf_72 rfl ?_
          refine x_mask [true, true, false, true, true] rfl ?_
          exact tj_X8_calendarOf_76 (fun _ _ _ _ _ _ _ z => ih z) hf

def g_X8_calendarOf_2 : Nat → AH → Option Nat → Int32 → Int32 → Option (Int32 × AH)
  | 0, _, _, _, _ => none
  | n + 1, h, x0, x1, x2 =>
    bd (gR h x0 8 0) fun v4 =>
    bd (ldI h v4 5) fun v8 =>
    if v8 ≤ x2 then (
      g_X8_calendarOf_36  NN h x0 x1 0 0
    ) else (
      if ¬ ((x1 >>> (x2 &&& 31)) &&& 1) = 1 then (
        g_X8_calendarOf_2  n h x0 x1 (x2 + 1)
      ) else (
        bd (isO h x0 8) fun _ =>
        bd (f_X8_noNights h x0 x2) fun h23 =>
        g_X8_calendarOf_2  n h23 x0 x1 (x2 + 1)
      )
    )

set_option maxRecDepth 100000 in
set_option maxHeartbeats 4000000 in
theorem tg_X8_calendarOf_2 {g : GT} : ∀ (n : Nat) {h : AH} {x0 : Option Nat} {x1 : Int32} {x2 : Int32} {r : Int32} {h' : AH}, g_X8_calendarOf_2 n h x0 x1 x2 = some (r, h') → Xj g mX8_calendarOf h 2 [some (va_rf (x0)), some (.int (x1)), some (.int (x2)), none, none] [] (some (.int r)) h' := by
  intro n
  induction n with
  | zero =>
    intros
    rename_i z
    cases z
  | succ n ih =>
    intro h x0 x1 x2 r h' hf
    rw [g_X8_calendarOf_2] at hf
    refine x_iload_n (pc := 2) (x := x2) dX8_calendarOf_2 rfl ?_
    refine x_aload_n (pc := 3) (a := x0) dX8_calendarOf_3 rfl ?_
    replace hf := bd_s hf; obtain ⟨v4, e4, hf⟩ := hf
    refine x_getR (pc := 4) dX8_calendarOf_4 fl_8_7 e4 ?_
    refine x_iconst (pc := 7) (v := 5) dX8_calendarOf_7 (by decide) ?_
    replace hf := bd_s hf; obtain ⟨v8, e8, hf⟩ := hf
    refine x_ldI (pc := 8) dX8_calendarOf_8 e8 ?_
    refine x_icmp_ge (pc := 9) (tgt := 32) (x := x2) (y := v8) dX8_calendarOf_9 rfl (fun hc => ?_) (fun hc => ?_)
    · replace hf := it_t hc hf
      refine x_iconst (pc := 32) (v := 0) dX8_calendarOf_32 (by decide) ?_
      refine x_istore_n (pc := 33) (ls' := [some (va_rf (x0)), some (.int (x1)), some (.int (0)), none, none]) dX8_calendarOf_33 (by decide) rfl ?_
      refine x_iconst (pc := 34) (v := 0) dX8_calendarOf_34 (by decide) ?_
      refine x_istore_n (pc := 35) (ls' := [some (va_rf (x0)), some (.int (x1)), some (.int (0)), some (.int (0)), none]) dX8_calendarOf_35 (by decide) rfl ?_
      exact tg_X8_calendarOf_36  NN hf
    · replace hf := it_f hc hf
      refine x_iload_n (pc := 12) (x := x1) dX8_calendarOf_12 rfl ?_
      refine x_iload_n (pc := 13) (x := x2) dX8_calendarOf_13 rfl ?_
      refine x_ishr (pc := 14) dX8_calendarOf_14 ?_
      refine x_iconst (pc := 15) (v := 1) dX8_calendarOf_15 (by decide) ?_
      refine x_iand (pc := 16) dX8_calendarOf_16 ?_
      refine x_iconst (pc := 17) (v := 1) dX8_calendarOf_17 (by decide) ?_
      refine x_icmp_ne (pc := 18) (tgt := 26) (x := ((x1 >>> (x2 &&& 31)) &&& 1)) (y := 1) dX8_calendarOf_18 rfl (fun hc => ?_) (fun hc => ?_)
      · replace hf := it_t hc hf
        refine x_iinc (pc := 26) (x := x2) (v := x2 + 1) (ls' := [some (va_rf (x0)), some (.int (x1)), some (.int (x2 + 1)), none, none]) dX8_calendarOf_26 rfl rfl (by decide) rfl ?_
        refine x_goto (pc := 29) (tgt := 2) dX8_calendarOf_29 rfl ?_
        exact ih hf
      · replace hf := it_n hc hf
        refine x_aload_n (pc := 21) (a := x0) dX8_calendarOf_21 rfl ?_
        refine x_iload_n (pc := 22) (x := x2) dX8_calendarOf_22 rfl ?_
        replace hf := bd_s hf; obtain ⟨u23, i23, hf⟩ := hf
        replace hf := bd_s hf; obtain ⟨h23, e23, hf⟩ := hf
        refine x_cVv (pc := 23) (M' := mX8_noNights) (as := [.int (x2)]) (st := []) (a := x0) (ci := 8) dX8_calendarOf_23 mo_X8_noNights lk_8_87 im_X8_noNights se_X8_noNights rfl ⟨Nat.le_of_ble_eq_true rfl, Nat.le_of_ble_eq_true rfl⟩ rfl (Nat.le_of_ble_eq_true rfl) rfl i23 (tm_X8_noNights e23) ?_
        refine x_iinc (pc := 26) (x := x2) (v := x2 + 1) (ls' := [some (va_rf (x0)), some (.int (x1)), some (.int (x2 + 1)), none, none]) dX8_calendarOf_26 rfl rfl (by decide) rfl ?_
        refine x_goto (pc := 29) (tgt := 2) dX8_calendarOf_29 rfl ?_
        exact ih hf

def f_X8_calendarOf (h : AH) (x0 : Option Nat) (x1 : Int32) : Option (Int32 × AH) :=
  g_X8_calendarOf_2  NN h x0 x1 0

set_option maxRecDepth 100000 in
set_option maxHeartbeats 4000000 in
theorem tm_X8_calendarOf {g : GT} {h : AH} {x0 : Option Nat} {x1 : Int32} {r : Int32} {h' : AH} (hf : f_X8_calendarOf h x0 x1 = some (r, h')) : Xm g mX8_calendarOf [va_rf (x0), .int (x1)] h (some (.int r)) h' := by
  refine xm_of mo_X8_calendarOf (Nat.le_of_ble_eq_true rfl) (ls := [some (va_rf (x0)), some (.int (x1)), none, none, none]) rfl ?_
  rw [f_X8_calendarOf] at hf
  refine x_iconst (pc := 0) (v := 0) dX8_calendarOf_0 (by decide) ?_
  refine x_istore_n (pc := 1) (ls' := [some (va_rf (x0)), some (.int (x1)), some (.int (0)), none, none]) dX8_calendarOf_1 (by decide) rfl ?_
  exact tg_X8_calendarOf_2  NN hf

def g_X8_calendar_54 : Nat → AH → Option Nat → Int32 → Int32 → Option (Int32 × AH)
  | 0, _, _, _, _ => none
  | n + 1, h, x0, x2, x3 =>
    if 300 ≤ x3 then (
      some (x2, h)
    ) else (
      bd (gR h x0 8 0) fun v62 =>
      bd (gR h x0 8 9) fun v71 =>
      bd (ldI h v71 x3) fun v75 =>
      bd (stI h v62 (244 + x3) v75) fun h76 =>
      g_X8_calendar_54  n h76 x0 x2 (x3 + 1)
    )

set_option maxRecDepth 100000 in
set_option maxHeartbeats 4000000 in
theorem tg_X8_calendar_54 {g : GT} : ∀ (n : Nat) {h : AH} {x0 : Option Nat} {x2 : Int32} {x3 : Int32} {r : Int32} {h' : AH}, g_X8_calendar_54 n h x0 x2 x3 = some (r, h') → Xj g mX8_calendar h 54 [some (va_rf (x0)), none, some (.int (x2)), some (.int (x3))] [] (some (.int r)) h' := by
  intro n
  induction n with
  | zero =>
    intros
    rename_i z
    cases z
  | succ n ih =>
    intro h x0 x2 x3 r h' hf
    rw [g_X8_calendar_54] at hf
    refine x_iload_n (pc := 54) (x := x3) dX8_calendar_54 rfl ?_
    refine x_sipush (pc := 55) (v := 300) dX8_calendar_55 (by decide) ?_
    refine x_icmp_ge (pc := 58) (tgt := 83) (x := x3) (y := 300) dX8_calendar_58 rfl (fun hc => ?_) (fun hc => ?_)
    · replace hf := it_t hc hf
      refine x_iload_n (pc := 83) (x := x2) dX8_calendar_83 rfl ?_
      obtain ⟨rfl, rfl⟩ := ret_s hf
      exact x_reti (pc := 84) dX8_calendar_84 rfl
    · replace hf := it_f hc hf
      refine x_aload_n (pc := 61) (a := x0) dX8_calendar_61 rfl ?_
      replace hf := bd_s hf; obtain ⟨v62, e62, hf⟩ := hf
      refine x_getR (pc := 62) dX8_calendar_62 fl_8_7 e62 ?_
      refine x_sipush (pc := 65) (v := 244) dX8_calendar_65 (by decide) ?_
      refine x_iload_n (pc := 68) (x := x3) dX8_calendar_68 rfl ?_
      refine x_iadd (pc := 69) dX8_calendar_69 ?_
      refine x_aload_n (pc := 70) (a := x0) dX8_calendar_70 rfl ?_
      replace hf := bd_s hf; obtain ⟨v71, e71, hf⟩ := hf
      refine x_getR (pc := 71) dX8_calendar_71 fl_8_31 e71 ?_
      refine x_iload_n (pc := 74) (x := x3) dX8_calendar_74 rfl ?_
      replace hf := bd_s hf; obtain ⟨v75, e75, hf⟩ := hf
      refine x_ldI (pc := 75) dX8_calendar_75 e75 ?_
      replace hf := bd_s hf; obtain ⟨h76, e76, hf⟩ := hf
      refine x_stI (pc := 76) dX8_calendar_76 e76 ?_
      refine x_iinc (pc := 77) (x := x3) (v := x3 + 1) (ls' := [some (va_rf (x0)), none, some (.int (x2)), some (.int (x3 + 1))]) dX8_calendar_77 rfl rfl (by decide) rfl ?_
      refine x_goto (pc := 80) (tgt := 54) dX8_calendar_80 rfl ?_
      exact ih hf

def g_X8_calendar_17 : Nat → AH → Option Nat → Int32 → Int32 → Option (Int32 × AH)
  | 0, _, _, _, _ => none
  | n + 1, h, x0, x1, x2 =>
    if 300 ≤ x2 then (
      bd (isO h x0 8) fun _ =>
      bd2 (f_X8_calendarOf h x0 x1) fun v48 h48 =>
      g_X8_calendar_54  NN h48 x0 v48 0
    ) else (
      bd (gR h x0 8 9) fun v25 =>
      bd (gR h x0 8 0) fun v30 =>
      bd (ldI h v30 (244 + x2)) fun v38 =>
      bd (stI h v25 x2 v38) fun h39 =>
      g_X8_calendar_17  n h39 x0 x1 (x2 + 1)
    )

set_option maxRecDepth 100000 in
set_option maxHeartbeats 4000000 in
theorem tg_X8_calendar_17 {g : GT} : ∀ (n : Nat) {h : AH} {x0 : Option Nat} {x1 : Int32} {x2 : Int32} {r : Int32} {h' : AH}, g_X8_calendar_17 n h x0 x1 x2 = some (r, h') → Xj g mX8_calendar h 17 [some (va_rf (x0)), some (.int (x1)), some (.int (x2)), none] [] (some (.int r)) h' := by
  intro n
  induction n with
  | zero =>
    intros
    rename_i z
    cases z
  | succ n ih =>
    intro h x0 x1 x2 r h' hf
    rw [g_X8_calendar_17] at hf
    refine x_iload_n (pc := 17) (x := x2) dX8_calendar_17 rfl ?_
    refine x_sipush (pc := 18) (v := 300) dX8_calendar_18 (by decide) ?_
    refine x_icmp_ge (pc := 21) (tgt := 46) (x := x2) (y := 300) dX8_calendar_21 rfl (fun hc => ?_) (fun hc => ?_)
    · replace hf := it_t hc hf
      refine x_aload_n (pc := 46) (a := x0) dX8_calendar_46 rfl ?_
      refine x_iload_n (pc := 47) (x := x1) dX8_calendar_47 rfl ?_
      replace hf := bd_s hf; obtain ⟨u48, i48, hf⟩ := hf
      replace hf := bd2_s hf; obtain ⟨v48, h48, e48, hf⟩ := hf
      refine x_cVi (pc := 48) (M' := mX8_calendarOf) (as := [.int (x1)]) (st := []) (a := x0) (ci := 8) dX8_calendar_48 mo_X8_calendarOf lk_8_142 im_X8_calendarOf se_X8_calendarOf rfl ⟨Nat.le_of_ble_eq_true rfl, Nat.le_of_ble_eq_true rfl⟩ rfl (Nat.le_of_ble_eq_true rfl) rfl i48 (tm_X8_calendarOf e48) ?_
      refine x_istore_n (pc := 51) (ls' := [some (va_rf (x0)), some (.int (x1)), some (.int (v48)), none]) dX8_calendar_51 (by decide) rfl ?_
      refine x_iconst (pc := 52) (v := 0) dX8_calendar_52 (by decide) ?_
      refine x_istore_n (pc := 53) (ls' := [some (va_rf (x0)), some (.int (x1)), some (.int (v48)), some (.int (0))]) dX8_calendar_53 (by decide) rfl ?_
      refine x_mask [true, false, true, true] rfl ?_
      exact tg_X8_calendar_54  NN hf
    · replace hf := it_f hc hf
      refine x_aload_n (pc := 24) (a := x0) dX8_calendar_24 rfl ?_
      replace hf := bd_s hf; obtain ⟨v25, e25, hf⟩ := hf
      refine x_getR (pc := 25) dX8_calendar_25 fl_8_31 e25 ?_
      refine x_iload_n (pc := 28) (x := x2) dX8_calendar_28 rfl ?_
      refine x_aload_n (pc := 29) (a := x0) dX8_calendar_29 rfl ?_
      replace hf := bd_s hf; obtain ⟨v30, e30, hf⟩ := hf
      refine x_getR (pc := 30) dX8_calendar_30 fl_8_7 e30 ?_
      refine x_sipush (pc := 33) (v := 244) dX8_calendar_33 (by decide) ?_
      refine x_iload_n (pc := 36) (x := x2) dX8_calendar_36 rfl ?_
      refine x_iadd (pc := 37) dX8_calendar_37 ?_
      replace hf := bd_s hf; obtain ⟨v38, e38, hf⟩ := hf
      refine x_ldI (pc := 38) dX8_calendar_38 e38 ?_
      replace hf := bd_s hf; obtain ⟨h39, e39, hf⟩ := hf
      refine x_stI (pc := 39) dX8_calendar_39 e39 ?_
      refine x_iinc (pc := 40) (x := x2) (v := x2 + 1) (ls' := [some (va_rf (x0)), some (.int (x1)), some (.int (x2 + 1)), none]) dX8_calendar_40 rfl rfl (by decide) rfl ?_
      refine x_goto (pc := 43) (tgt := 17) dX8_calendar_43 rfl ?_
      exact ih hf

def f_X8_calendar (h : AH) (x0 : Option Nat) (x1 : Int32) : Option (Int32 × AH) :=
  bd (isO h x0 8) fun _ =>
  bd2 (f_X8_isSet h x0 x1) fun v2 h2 =>
  if ¬ v2 = 0 then (
    g_X8_calendar_17  NN h2 x0 x1 0
  ) else (
    bd (isO h2 x0 8) fun _ =>
    bd2 (f_X8_finding h2 x0 (-100001)) fun v11 h11 =>
    some (v11, h11)
  )

set_option maxRecDepth 100000 in
set_option maxHeartbeats 4000000 in
theorem tm_X8_calendar {g : GT} {h : AH} {x0 : Option Nat} {x1 : Int32} {r : Int32} {h' : AH} (hf : f_X8_calendar h x0 x1 = some (r, h')) : Xm g mX8_calendar [va_rf (x0), .int (x1)] h (some (.int r)) h' := by
  refine xm_of mo_X8_calendar (Nat.le_of_ble_eq_true rfl) (ls := [some (va_rf (x0)), some (.int (x1)), none, none]) rfl ?_
  rw [f_X8_calendar] at hf
  refine x_aload_n (pc := 0) (a := x0) dX8_calendar_0 rfl ?_
  refine x_iload_n (pc := 1) (x := x1) dX8_calendar_1 rfl ?_
  replace hf := bd_s hf; obtain ⟨u2, i2, hf⟩ := hf
  replace hf := bd2_s hf; obtain ⟨v2, h2, e2, hf⟩ := hf
  refine x_cVi (pc := 2) (M' := mX8_isSet) (as := [.int (x1)]) (st := []) (a := x0) (ci := 8) dX8_calendar_2 mo_X8_isSet lk_8_139 im_X8_isSet se_X8_isSet rfl ⟨Nat.le_of_ble_eq_true rfl, Nat.le_of_ble_eq_true rfl⟩ rfl (Nat.le_of_ble_eq_true rfl) rfl i2 (tm_X8_isSet e2) ?_
  refine x_if_ne (pc := 5) (tgt := 15) (x := v2) dX8_calendar_5 rfl (fun hc => ?_) (fun hc => ?_)
  · replace hf := it_t hc hf
    refine x_iconst (pc := 15) (v := 0) dX8_calendar_15 (by decide) ?_
    refine x_istore_n (pc := 16) (ls' := [some (va_rf (x0)), some (.int (x1)), some (.int (0)), none]) dX8_calendar_16 (by decide) rfl ?_
    exact tg_X8_calendar_17  NN hf
  · replace hf := it_n hc hf
    refine x_aload_n (pc := 8) (a := x0) dX8_calendar_8 rfl ?_
    refine x_ldc (pc := 9) (v := -100001) dX8_calendar_9 kc_8_67 ?_
    replace hf := bd_s hf; obtain ⟨u11, i11, hf⟩ := hf
    replace hf := bd2_s hf; obtain ⟨v11, h11, e11, hf⟩ := hf
    refine x_cVi (pc := 11) (M' := mX8_finding) (as := [.int ((-100001))]) (st := []) (a := x0) (ci := 8) dX8_calendar_11 mo_X8_finding lk_8_56 im_X8_finding se_X8_finding rfl ⟨Nat.le_of_ble_eq_true rfl, Nat.le_of_ble_eq_true rfl⟩ rfl (Nat.le_of_ble_eq_true rfl) rfl i11 (tm_X8_finding e11) ?_
    obtain ⟨rfl, rfl⟩ := ret_s hf
    exact x_reti (pc := 14) dX8_calendar_14 rfl
