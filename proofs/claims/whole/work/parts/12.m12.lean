def f_X8_trip (h : AH) (x0 : Option Nat) (x1 : Int32) (x2 : Int32) (x3 : Int32) (x4 : Int32) (x5 : Int32) : Option (Int32 × AH) :=
  bd2 (f_X8_isIn h x1 0 3) fun v3 h3 =>
  if v3 = 0 then (
    bd (isO h3 x0 8) fun _ =>
    bd2 (f_X8_finding h3 x0 (-100001)) fun v50 h50 =>
    some (v50, h50)
  ) else (
    bd2 (f_X8_isDay h3 x2) fun v10 h10 =>
    if v10 = 0 then (
      bd (isO h10 x0 8) fun _ =>
      bd2 (f_X8_finding h10 x0 (-100001)) fun v50 h50 =>
      some (v50, h50)
    ) else (
      bd2 (f_X8_isIn h10 x3 1 60) fun v20 h20 =>
      if v20 = 0 then (
        bd (isO h20 x0 8) fun _ =>
        bd2 (f_X8_finding h20 x0 (-100001)) fun v50 h50 =>
        some (v50, h50)
      ) else (
        bd2 (f_X8_isIn h20 x4 1 15) fun v31 h31 =>
        if v31 = 0 then (
          bd (isO h31 x0 8) fun _ =>
          bd2 (f_X8_finding h31 x0 (-100001)) fun v50 h50 =>
          some (v50, h50)
        ) else (
          bd2 (f_X8_isIn h31 x5 0 2) fun v41 h41 =>
          if ¬ v41 = 0 then (
            bd (gR h41 x0 8 0) fun v55 =>
            bd (ldI h41 v55 5) fun v59 =>
            if ¬ v59 = 10 then (
              bd (gR h41 x0 8 0) fun v75 =>
              bd (ldI h41 v75 5) fun v79 =>
              bd (isO h41 x0 8) fun _ =>
              bd2 (f_X8_becomes h41 x0 5 (v79 + 1)) fun v82 h82 =>
              bd (gR h82 x0 8 0) fun v88 =>
              bd (stI h82 v88 ((194 + (5 * v82)) + 0) x1) fun h102 =>
              bd (gR h102 x0 8 0) fun v104 =>
              bd (stI h102 v104 ((194 + (5 * v82)) + 1) x2) fun h118 =>
              bd (gR h118 x0 8 0) fun v120 =>
              bd (stI h118 v120 ((194 + (5 * v82)) + 2) x3) fun h134 =>
              bd (gR h134 x0 8 0) fun v136 =>
              bd (stI h134 v136 ((194 + (5 * v82)) + 3) x4) fun h151 =>
              bd (gR h151 x0 8 0) fun v153 =>
              bd (stI h151 v153 ((194 + (5 * v82)) + 4) x5) fun h168 =>
              bd (isO h168 x0 8) fun _ =>
              bd (f_X8_noNights h168 x0 v82) fun h172 =>
              some (v82, h172)
            ) else (
              bd (isO h41 x0 8) fun _ =>
              bd2 (f_X8_finding h41 x0 (-100005)) fun v68 h68 =>
              some (v68, h68)
            )
          ) else (
            bd (isO h41 x0 8) fun _ =>
            bd2 (f_X8_finding h41 x0 (-100001)) fun v50 h50 =>
            some (v50, h50)
          )
        )
      )
    )
  )

set_option maxRecDepth 100000 in
set_option maxHeartbeats 4000000 in
theorem tm_X8_trip {g : GT} {h : AH} {x0 : Option Nat} {x1 : Int32} {x2 : Int32} {x3 : Int32} {x4 : Int32} {x5 : Int32} {r : Int32} {h' : AH} (hf : f_X8_trip h x0 x1 x2 x3 x4 x5 = some (r, h')) : Xm g mX8_trip [va_rf (x0), .int (x1), .int (x2), .int (x3), .int (x4), .int (x5)] h (some (.int r)) h' := by
  refine xm_of mo_X8_trip (Nat.le_of_ble_eq_true rfl) (ls := [some (va_rf (x0)), some (.int (x1)), some (.int (x2)), some (.int (x3)), some (.int (x4)), some (.int (x5)), none]) rfl ?_
  rw [f_X8_trip] at hf
  refine x_iload_n (pc := 0) (x := x1) dX8_trip_0 rfl ?_
  refine x_iconst (pc := 1) (v := 0) dX8_trip_1 (by decide) ?_
  refine x_iconst (pc := 2) (v := 3) dX8_trip_2 (by decide) ?_
  replace hf := bd2_s hf; obtain ⟨v3, h3, e3, hf⟩ := hf
  refine x_cSi (pc := 3) (M' := mX8_isIn) (as := [.int (x1), .int (0), .int (3)]) (st := []) dX8_trip_3 mo_X8_isIn lk_8_48 sm_X8_isIn ⟨Nat.le_of_ble_eq_true rfl, Nat.le_of_ble_eq_true rfl⟩ rfl (Nat.le_of_ble_eq_true rfl) rfl (tm_X8_isIn e3) ?_
  refine x_if_eq (pc := 6) (tgt := 47) (x := v3) dX8_trip_6 rfl (fun hc => ?_) (fun hc => ?_)
  · replace hf := it_t hc hf
    refine x_aload_n (pc := 47) (a := x0) dX8_trip_47 rfl ?_
    refine x_ldc (pc := 48) (v := -100001) dX8_trip_48 kc_8_67 ?_
    replace hf := bd_s hf; obtain ⟨u50, i50, hf⟩ := hf
    replace hf := bd2_s hf; obtain ⟨v50, h50, e50, hf⟩ := hf
    refine x_cVi (pc := 50) (M' := mX8_finding) (as := [.int ((-100001))]) (st := []) (a := x0) (ci := 8) dX8_trip_50 mo_X8_finding lk_8_56 im_X8_finding se_X8_finding rfl ⟨Nat.le_of_ble_eq_true rfl, Nat.le_of_ble_eq_true rfl⟩ rfl (Nat.le_of_ble_eq_true rfl) rfl i50 (tm_X8_finding e50) ?_
    obtain ⟨rfl, rfl⟩ := ret_s hf
    exact x_reti (pc := 53) dX8_trip_53 rfl
  · replace hf := it_f hc hf
    refine x_iload_n (pc := 9) (x := x2) dX8_trip_9 rfl ?_
    replace hf := bd2_s hf; obtain ⟨v10, h10, e10, hf⟩ := hf
    refine x_cSi (pc := 10) (M' := mX8_isDay) (as := [.int (x2)]) (st := []) dX8_trip_10 mo_X8_isDay lk_8_74 sm_X8_isDay ⟨Nat.le_of_ble_eq_true rfl, Nat.le_of_ble_eq_true rfl⟩ rfl (Nat.le_of_ble_eq_true rfl) rfl (tm_X8_isDay e10) ?_
    refine x_if_eq (pc := 13) (tgt := 47) (x := v10) dX8_trip_13 rfl (fun hc => ?_) (fun hc => ?_)
    · replace hf := it_t hc hf
      refine x_aload_n (pc := 47) (a := x0) dX8_trip_47 rfl ?_
      refine x_ldc (pc := 48) (v := -100001) dX8_trip_48 kc_8_67 ?_
      replace hf := bd_s hf; obtain ⟨u50, i50, hf⟩ := hf
      replace hf := bd2_s hf; obtain ⟨v50, h50, e50, hf⟩ := hf
      refine x_cVi (pc := 50) (M' := mX8_finding) (as := [.int ((-100001))]) (st := []) (a := x0) (ci := 8) dX8_trip_50 mo_X8_finding lk_8_56 im_X8_finding se_X8_finding rfl ⟨Nat.le_of_ble_eq_true rfl, Nat.le_of_ble_eq_true rfl⟩ rfl (Nat.le_of_ble_eq_true rfl) rfl i50 (tm_X8_finding e50) ?_
      obtain ⟨rfl, rfl⟩ := ret_s hf
      exact x_reti (pc := 53) dX8_trip_53 rfl
    · replace hf := it_f hc hf
      refine x_iload_n (pc := 16) (x := x3) dX8_trip_16 rfl ?_
      refine x_iconst (pc := 17) (v := 1) dX8_trip_17 (by decide) ?_
      refine x_bipush (pc := 18) (v := 60) dX8_trip_18 (by decide) ?_
      replace hf := bd2_s hf; obtain ⟨v20, h20, e20, hf⟩ := hf
      refine x_cSi (pc := 20) (M' := mX8_isIn) (as := [.int (x3), .int (1), .int (60)]) (st := []) dX8_trip_20 mo_X8_isIn lk_8_48 sm_X8_isIn ⟨Nat.le_of_ble_eq_true rfl, Nat.le_of_ble_eq_true rfl⟩ rfl (Nat.le_of_ble_eq_true rfl) rfl (tm_X8_isIn e20) ?_
      refine x_if_eq (pc := 23) (tgt := 47) (x := v20) dX8_trip_23 rfl (fun hc => ?_) (fun hc => ?_)
      · replace hf := it_t hc hf
        refine x_aload_n (pc := 47) (a := x0) dX8_trip_47 rfl ?_
        refine x_ldc (pc := 48) (v := -100001) dX8_trip_48 kc_8_67 ?_
        replace hf := bd_s hf; obtain ⟨u50, i50, hf⟩ := hf
        replace hf := bd2_s hf; obtain ⟨v50, h50, e50, hf⟩ := hf
        refine x_cVi (pc := 50) (M' := mX8_finding) (as := [.int ((-100001))]) (st := []) (a := x0) (ci := 8) dX8_trip_50 mo_X8_finding lk_8_56 im_X8_finding se_X8_finding rfl ⟨Nat.le_of_ble_eq_true rfl, Nat.le_of_ble_eq_true rfl⟩ rfl (Nat.le_of_ble_eq_true rfl) rfl i50 (tm_X8_finding e50) ?_
        obtain ⟨rfl, rfl⟩ := ret_s hf
        exact x_reti (pc := 53) dX8_trip_53 rfl
      · replace hf := it_f hc hf
        refine x_iload (pc := 26) (x := x4) dX8_trip_26 rfl ?_
        refine x_iconst (pc := 28) (v := 1) dX8_trip_28 (by decide) ?_
        refine x_bipush (pc := 29) (v := 15) dX8_trip_29 (by decide) ?_
        replace hf := bd2_s hf; obtain ⟨v31, h31, e31, hf⟩ := hf
        refine x_cSi (pc := 31) (M' := mX8_isIn) (as := [.int (x4), .int (1), .int (15)]) (st := []) dX8_trip_31 mo_X8_isIn lk_8_48 sm_X8_isIn ⟨Nat.le_of_ble_eq_true rfl, Nat.le_of_ble_eq_true rfl⟩ rfl (Nat.le_of_ble_eq_true rfl) rfl (tm_X8_isIn e31) ?_
        refine x_if_eq (pc := 34) (tgt := 47) (x := v31) dX8_trip_34 rfl (fun hc => ?_) (fun hc => ?_)
        · replace hf := it_t hc hf
          refine x_aload_n (pc := 47) (a := x0) dX8_trip_47 rfl ?_
          refine x_ldc (pc := 48) (v := -100001) dX8_trip_48 kc_8_67 ?_
          replace hf := bd_s hf; obtain ⟨u50, i50, hf⟩ := hf
          replace hf := bd2_s hf; obtain ⟨v50, h50, e50, hf⟩ := hf
          refine x_cVi (pc := 50) (M' := mX8_finding) (as := [.int ((-100001))]) (st := []) (a := x0) (ci := 8) dX8_trip_50 mo_X8_finding lk_8_56 im_X8_finding se_X8_finding rfl ⟨Nat.le_of_ble_eq_true rfl, Nat.le_of_ble_eq_true rfl⟩ rfl (Nat.le_of_ble_eq_true rfl) rfl i50 (tm_X8_finding e50) ?_
          obtain ⟨rfl, rfl⟩ := ret_s hf
          exact x_reti (pc := 53) dX8_trip_53 rfl
        · replace hf := it_f hc hf
          refine x_iload (pc := 37) (x := x5) dX8_trip_37 rfl ?_
          refine x_iconst (pc := 39) (v := 0) dX8_trip_39 (by decide) ?_
          refine x_iconst (pc := 40) (v := 2) dX8_trip_40 (by decide) ?_
          replace hf := bd2_s hf; obtain ⟨v41, h41, e41, hf⟩ := hf
          refine x_cSi (pc := 41) (M' := mX8_isIn) (as := [.int (x5), .int (0), .int (2)]) (st := []) dX8_trip_41 mo_X8_isIn lk_8_48 sm_X8_isIn ⟨Nat.le_of_ble_eq_true rfl, Nat.le_of_ble_eq_true rfl⟩ rfl (Nat.le_of_ble_eq_true rfl) rfl (tm_X8_isIn e41) ?_
          refine x_if_ne (pc := 44) (tgt := 54) (x := v41) dX8_trip_44 rfl (fun hc => ?_) (fun hc => ?_)
          · replace hf := it_t hc hf
            refine x_aload_n (pc := 54) (a := x0) dX8_trip_54 rfl ?_
            replace hf := bd_s hf; obtain ⟨v55, e55, hf⟩ := hf
            refine x_getR (pc := 55) dX8_trip_55 fl_8_7 e55 ?_
            refine x_iconst (pc := 58) (v := 5) dX8_trip_58 (by decide) ?_
            replace hf := bd_s hf; obtain ⟨v59, e59, hf⟩ := hf
            refine x_ldI (pc := 59) dX8_trip_59 e59 ?_
            refine x_bipush (pc := 60) (v := 10) dX8_trip_60 (by decide) ?_
            refine x_icmp_ne (pc := 62) (tgt := 72) (x := v59) (y := 10) dX8_trip_62 rfl (fun hc => ?_) (fun hc => ?_)
            · replace hf := it_t hc hf
              refine x_aload_n (pc := 72) (a := x0) dX8_trip_72 rfl ?_
              refine x_iconst (pc := 73) (v := 5) dX8_trip_73 (by decide) ?_
              refine x_aload_n (pc := 74) (a := x0) dX8_trip_74 rfl ?_
              replace hf := bd_s hf; obtain ⟨v75, e75, hf⟩ := hf
              refine x_getR (pc := 75) dX8_trip_75 fl_8_7 e75 ?_
              refine x_iconst (pc := 78) (v := 5) dX8_trip_78 (by decide) ?_
              replace hf := bd_s hf; obtain ⟨v79, e79, hf⟩ := hf
              refine x_ldI (pc := 79) dX8_trip_79 e79 ?_
              refine x_iconst (pc := 80) (v := 1) dX8_trip_80 (by decide) ?_
              refine x_iadd (pc := 81) dX8_trip_81 ?_
              replace hf := bd_s hf; obtain ⟨u82, i82, hf⟩ := hf
              replace hf := bd2_s hf; obtain ⟨v82, h82, e82, hf⟩ := hf
              refine x_cVi (pc := 82) (M' := mX8_becomes) (as := [.int (5), .int (v79 + 1)]) (st := []) (a := x0) (ci := 8) dX8_trip_82 mo_X8_becomes lk_8_63 im_X8_becomes se_X8_becomes rfl ⟨Nat.le_of_ble_eq_true rfl, Nat.le_of_ble_eq_true rfl⟩ rfl (Nat.le_of_ble_eq_true rfl) rfl i82 (tm_X8_becomes e82) ?_
              refine x_istore (pc := 85) (ls' := [some (va_rf (x0)), some (.int (x1)), some (.int (x2)), some (.int (x3)), some (.int (x4)), some (.int (x5)), some (.int (v82))]) dX8_trip_85 (by decide) rfl ?_
              refine x_aload_n (pc := 87) (a := x0) dX8_trip_87 rfl ?_
              replace hf := bd_s hf; obtain ⟨v88, e88, hf⟩ := hf
              refine x_getR (pc := 88) dX8_trip_88 fl_8_7 e88 ?_
              refine x_sipush (pc := 91) (v := 194) dX8_trip_91 (by decide) ?_
              refine x_iconst (pc := 94) (v := 5) dX8_trip_94 (by decide) ?_
              refine x_iload (pc := 95) (x := v82) dX8_trip_95 rfl ?_
              refine x_imul (pc := 97) dX8_trip_97 ?_
              refine x_iadd (pc := 98) dX8_trip_98 ?_
              refine x_iconst (pc := 99) (v := 0) dX8_trip_99 (by decide) ?_
              refine x_iadd (pc := 100) dX8_trip_100 ?_
              refine x_iload_n (pc := 101) (x := x1) dX8_trip_101 rfl ?_
              replace hf := bd_s hf; obtain ⟨h102, e102, hf⟩ := hf
              refine x_stI (pc := 102) dX8_trip_102 e102 ?_
              refine x_aload_n (pc := 103) (a := x0) dX8_trip_103 rfl ?_
              replace hf := bd_s hf; obtain ⟨v104, e104, hf⟩ := hf
              refine x_getR (pc := 104) dX8_trip_104 fl_8_7 e104 ?_
              refine x_sipush (pc := 107) (v := 194) dX8_trip_107 (by decide) ?_
              refine x_iconst (pc := 110) (v := 5) dX8_trip_110 (by decide) ?_
              refine x_iload (pc := 111) (x := v82) dX8_trip_111 rfl ?_
              refine x_imul (pc := 113) dX8_trip_113 ?_
              refine x_iadd (pc := 114) dX8_trip_114 ?_
              refine x_iconst (pc := 115) (v := 1) dX8_trip_115 (by decide) ?_
              refine x_iadd (pc := 116) dX8_trip_116 ?_
              refine x_iload_n (pc := 117) (x := x2) dX8_trip_117 rfl ?_
              replace hf := bd_s hf; obtain ⟨h118, e118, hf⟩ := hf
              refine x_stI (pc := 118) dX8_trip_118 e118 ?_
              refine x_aload_n (pc := 119) (a := x0) dX8_trip_119 rfl ?_
              replace hf := bd_s hf; obtain ⟨v120, e120, hf⟩ := hf
              refine x_getR (pc := 120) dX8_trip_120 fl_8_7 e120 ?_
              refine x_sipush (pc := 123) (v := 194) dX8_trip_123 (by decide) ?_
              refine x_iconst (pc := 126) (v := 5) dX8_trip_126 (by decide) ?_
              refine x_iload (pc := 127) (x := v82) dX8_trip_127 rfl ?_
              refine x_imul (pc := 129) dX8_trip_129 ?_
              refine x_iadd (pc := 130) dX8_trip_130 ?_
              refine x_iconst (pc := 131) (v := 2) dX8_trip_131 (by decide) ?_
              refine x_iadd (pc := 132) dX8_trip_132 ?_
              refine x_iload_n (pc := 133) (x := x3) dX8_trip_133 rfl ?_
              replace hf := bd_s hf; obtain ⟨h134, e134, hf⟩ := hf
              refine x_stI (pc := 134) dX8_trip_134 e134 ?_
              refine x_aload_n (pc := 135) (a := x0) dX8_trip_135 rfl ?_
              replace hf := bd_s hf; obtain ⟨v136, e136, hf⟩ := hf
              refine x_getR (pc := 136) dX8_trip_136 fl_8_7 e136 ?_
              refine x_sipush (pc := 139) (v := 194) dX8_trip_139 (by decide) ?_
              refine x_iconst (pc := 142) (v := 5) dX8_trip_142 (by decide) ?_
              refine x_iload (pc := 143) (x := v82) dX8_trip_143 rfl ?_
              refine x_imul (pc := 145) dX8_trip_145 ?_
              refine x_iadd (pc := 146) dX8_trip_146 ?_
              refine x_iconst (pc := 147) (v := 3) dX8_trip_147 (by decide) ?_
              refine x_iadd (pc := 148) dX8_trip_148 ?_
              refine x_iload (pc := 149) (x := x4) dX8_trip_149 rfl ?_
              replace hf := bd_s hf; obtain ⟨h151, e151, hf⟩ := hf
              refine x_stI (pc := 151) dX8_trip_151 e151 ?_
              refine x_aload_n (pc := 152) (a := x0) dX8_trip_152 rfl ?_
              replace hf := bd_s hf; obtain ⟨v153, e153, hf⟩ := hf
              refine x_getR (pc := 153) dX8_trip_153 fl_8_7 e153 ?_
              refine x_sipush (pc := 156) (v := 194) dX8_trip_156 (by decide) ?_
              refine x_iconst (pc := 159) (v := 5) dX8_trip_159 (by decide) ?_
              refine x_iload (pc := 160) (x := v82) dX8_trip_160 rfl ?_
              refine x_imul (pc := 162) dX8_trip_162 ?_
              refine x_iadd (pc := 163) dX8_trip_163 ?_
              refine x_iconst (pc := 164) (v := 4) dX8_trip_164 (by decide) ?_
              refine x_iadd (pc := 165) dX8_trip_165 ?_
              refine x_iload (pc := 166) (x := x5) dX8_trip_166 rfl ?_
              replace hf := bd_s hf; obtain ⟨h168, e168, hf⟩ := hf
              refine x_stI (pc := 168) dX8_trip_168 e168 ?_
              refine x_aload_n (pc := 169) (a := x0) dX8_trip_169 rfl ?_
              refine x_iload (pc := 170) (x := v82) dX8_trip_170 rfl ?_
              replace hf := bd_s hf; obtain ⟨u172, i172, hf⟩ := hf
              replace hf := bd_s hf; obtain ⟨h172, e172, hf⟩ := hf
              refine x_cVv (pc := 172) (M' := mX8_noNights) (as := [.int (v82)]) (st := []) (a := x0) (ci := 8) dX8_trip_172 mo_X8_noNights lk_8_87 im_X8_noNights se_X8_noNights rfl ⟨Nat.le_of_ble_eq_true rfl, Nat.le_of_ble_eq_true rfl⟩ rfl (Nat.le_of_ble_eq_true rfl) rfl i172 (tm_X8_noNights e172) ?_
              refine x_iload (pc := 175) (x := v82) dX8_trip_175 rfl ?_
              obtain ⟨rfl, rfl⟩ := ret_s hf
              exact x_reti (pc := 177) dX8_trip_177 rfl
            · replace hf := it_n hc hf
              refine x_aload_n (pc := 65) (a := x0) dX8_trip_65 rfl ?_
              refine x_ldc (pc := 66) (v := -100005) dX8_trip_66 kc_8_68 ?_
              replace hf := bd_s hf; obtain ⟨u68, i68, hf⟩ := hf
              replace hf := bd2_s hf; obtain ⟨v68, h68, e68, hf⟩ := hf
              refine x_cVi (pc := 68) (M' := mX8_finding) (as := [.int ((-100005))]) (st := []) (a := x0) (ci := 8) dX8_trip_68 mo_X8_finding lk_8_56 im_X8_finding se_X8_finding rfl ⟨Nat.le_of_ble_eq_true rfl, Nat.le_of_ble_eq_true rfl⟩ rfl (Nat.le_of_ble_eq_true rfl) rfl i68 (tm_X8_finding e68) ?_
              obtain ⟨rfl, rfl⟩ := ret_s hf
              exact x_reti (pc := 71) dX8_trip_71 rfl
          · replace hf := it_n hc hf
            refine x_aload_n (pc := 47) (a := x0) dX8_trip_47 rfl ?_
            refine x_ldc (pc := 48) (v := -100001) dX8_trip_48 kc_8_67 ?_
            replace hf := bd_s hf; obtain ⟨u50, i50, hf⟩ := hf
            replace hf := bd2_s hf; obtain ⟨v50, h50, e50, hf⟩ := hf
            refine x_cVi (pc := 50) (M' := mX8_finding) (as := [.int ((-100001))]) (st := []) (a := x0) (ci := 8) dX8_trip_50 mo_X8_finding lk_8_56 im_X8_finding se_X8_finding rfl ⟨Nat.le_of_ble_eq_true rfl, Nat.le_of_ble_eq_true rfl⟩ rfl (Nat.le_of_ble_eq_true rfl) rfl i50 (tm_X8_finding e50) ?_
            obtain ⟨rfl, rfl⟩ := ret_s hf
            exact x_reti (pc := 53) dX8_trip_53 rfl

def g_X8_turn_22 : Nat → AH → Option Nat → Int32 → Int32 → Option (Int32 × AH)
  | 0, _, _, _, _ => none
  | n + 1, h, x0, x2, x3 =>
    bd (gR h x0 8 10) fun v23 =>
    bd (ldI h v23 x3) fun v27 =>
    if v27 = x2 then (
      some (x3, h)
    ) else (
      g_X8_turn_22  n h x0 x2 (x3 + 1)
    )

set_option maxRecDepth 100000 in
set_option maxHeartbeats 4000000 in
theorem tg_X8_turn_22 {g : GT} : ∀ (n : Nat) {h : AH} {x0 : Option Nat} {x2 : Int32} {x3 : Int32} {r : Int32} {h' : AH}, g_X8_turn_22 n h x0 x2 x3 = some (r, h') → Xj g mX8_turn h 22 [some (va_rf (x0)), none, some (.int (x2)), some (.int (x3))] [] (some (.int r)) h' := by
  intro n
  induction n with
  | zero =>
    intros
    rename_i z
    cases z
  | succ n ih =>
    intro h x0 x2 x3 r h' hf
    rw [g_X8_turn_22] at hf
    refine x_aload_n (pc := 22) (a := x0) dX8_turn_22 rfl ?_
    replace hf := bd_s hf; obtain ⟨v23, e23, hf⟩ := hf
    refine x_getR (pc := 23) dX8_turn_23 fl_8_34 e23 ?_
    refine x_iload_n (pc := 26) (x := x3) dX8_turn_26 rfl ?_
    replace hf := bd_s hf; obtain ⟨v27, e27, hf⟩ := hf
    refine x_ldI (pc := 27) dX8_turn_27 e27 ?_
    refine x_iload_n (pc := 28) (x := x2) dX8_turn_28 rfl ?_
    refine x_icmp_eq (pc := 29) (tgt := 38) (x := v27) (y := x2) dX8_turn_29 rfl (fun hc => ?_) (fun hc => ?_)
    · replace hf := it_t hc hf
      refine x_iload_n (pc := 38) (x := x3) dX8_turn_38 rfl ?_
      obtain ⟨rfl, rfl⟩ := ret_s hf
      exact x_reti (pc := 39) dX8_turn_39 rfl
    · replace hf := it_f hc hf
      refine x_iinc (pc := 32) (x := x3) (v := x3 + 1) (ls' := [some (va_rf (x0)), none, some (.int (x2)), some (.int (x3 + 1))]) dX8_turn_32 rfl rfl (by decide) rfl ?_
      refine x_goto (pc := 35) (tgt := 22) dX8_turn_35 rfl ?_
      exact ih hf

def f_X8_turn (h : AH) (x0 : Option Nat) (x1 : Int32) (x2 : Int32) : Option (Int32 × AH) :=
  bd (isO h x0 8) fun _ =>
  bd2 (f_X8_isApplicant h x0 x2) fun v2 h2 =>
  if ¬ v2 = 0 then (
    bd (isO h2 x0 8) fun _ =>
    bd (f_X8_draw h2 x0 x1) fun h17 =>
    g_X8_turn_22  NN h17 x0 x2 0
  ) else (
    bd (isO h2 x0 8) fun _ =>
    bd2 (f_X8_finding h2 x0 (-100001)) fun v11 h11 =>
    some (v11, h11)
  )

set_option maxRecDepth 100000 in
set_option maxHeartbeats 4000000 in
theorem tm_X8_turn {g : GT} {h : AH} {x0 : Option Nat} {x1 : Int32} {x2 : Int32} {r : Int32} {h' : AH} (hf : f_X8_turn h x0 x1 x2 = some (r, h')) : Xm g mX8_turn [va_rf (x0), .int (x1), .int (x2)] h (some (.int r)) h' := by
  refine xm_of mo_X8_turn (Nat.le_of_ble_eq_true rfl) (ls := [some (va_rf (x0)), some (.int (x1)), some (.int (x2)), none]) rfl ?_
  rw [f_X8_turn] at hf
  refine x_aload_n (pc := 0) (a := x0) dX8_turn_0 rfl ?_
  refine x_iload_n (pc := 1) (x := x2) dX8_turn_1 rfl ?_
  replace hf := bd_s hf; obtain ⟨u2, i2, hf⟩ := hf
  replace hf := bd2_s hf; obtain ⟨v2, h2, e2, hf⟩ := hf
  refine x_cVi (pc := 2) (M' := mX8_isApplicant) (as := [.int (x2)]) (st := []) (a := x0) (ci := 8) dX8_turn_2 mo_X8_isApplicant lk_8_145 im_X8_isApplicant se_X8_isApplicant rfl ⟨Nat.le_of_ble_eq_true rfl, Nat.le_of_ble_eq_true rfl⟩ rfl (Nat.le_of_ble_eq_true rfl) rfl i2 (tm_X8_isApplicant e2) ?_
  refine x_if_ne (pc := 5) (tgt := 15) (x := v2) dX8_turn_5 rfl (fun hc => ?_) (fun hc => ?_)
  · replace hf := it_t hc hf
    refine x_aload_n (pc := 15) (a := x0) dX8_turn_15 rfl ?_
    refine x_iload_n (pc := 16) (x := x1) dX8_turn_16 rfl ?_
    replace hf := bd_s hf; obtain ⟨u17, i17, hf⟩ := hf
    replace hf := bd_s hf; obtain ⟨h17, e17, hf⟩ := hf
    refine x_cVv (pc := 17) (M' := mX8_draw) (as := [.int (x1)]) (st := []) (a := x0) (ci := 8) dX8_turn_17 mo_X8_draw lk_8_153 im_X8_draw se_X8_draw rfl ⟨Nat.le_of_ble_eq_true rfl, Nat.le_of_ble_eq_true rfl⟩ rfl (Nat.le_of_ble_eq_true rfl) rfl i17 (tm_X8_draw e17) ?_
    refine x_iconst (pc := 20) (v := 0) dX8_turn_20 (by decide) ?_
    refine x_istore_n (pc := 21) (ls' := [some (va_rf (x0)), some (.int (x1)), some (.int (x2)), some (.int (0))]) dX8_turn_21 (by decide) rfl ?_
    refine x_mask [true, false, true, true] rfl ?_
    exact tg_X8_turn_22  NN hf
  · replace hf := it_n hc hf
    refine x_aload_n (pc := 8) (a := x0) dX8_turn_8 rfl ?_
    refine x_ldc (pc := 9) (v := -100001) dX8_turn_9 kc_8_67 ?_
    replace hf := bd_s hf; obtain ⟨u11, i11, hf⟩ := hf
    replace hf := bd2_s hf; obtain ⟨v11, h11, e11, hf⟩ := hf
    refine x_cVi (pc := 11) (M' := mX8_finding) (as := [.int ((-100001))]) (st := []) (a := x0) (ci := 8) dX8_turn_11 mo_X8_finding lk_8_56 im_X8_finding se_X8_finding rfl ⟨Nat.le_of_ble_eq_true rfl, Nat.le_of_ble_eq_true rfl⟩ rfl (Nat.le_of_ble_eq_true rfl) rfl i11 (tm_X8_finding e11) ?_
    obtain ⟨rfl, rfl⟩ := ret_s hf
    exact x_reti (pc := 14) dX8_turn_14 rfl

def g_X8_undo_26 : Nat → AH → Option Nat → Int32 → Option (Int32 × AH)
  | 0, _, _, _ => none
  | n + 1, h, x0, x1 =>
    if 556 ≤ x1 then (
      bd (gI h x0 8 2) fun v61 =>
      some (v61, h)
    ) else (
      bd (gR h x0 8 0) fun v34 =>
      bd (gR h x0 8 1) fun v39 =>
      bd (gI h x0 8 2) fun v46 =>
      bd (ldI h v39 ((556 * v46) + x1)) fun v52 =>
      bd (stI h v34 x1 v52) fun h53 =>
      g_X8_undo_26  n h53 x0 (x1 + 1)
    )

set_option maxRecDepth 100000 in
set_option maxHeartbeats 4000000 in
theorem tg_X8_undo_26 {g : GT} : ∀ (n : Nat) {h : AH} {x0 : Option Nat} {x1 : Int32} {r : Int32} {h' : AH}, g_X8_undo_26 n h x0 x1 = some (r, h') → Xj g mX8_undo h 26 [some (va_rf (x0)), some (.int (x1))] [] (some (.int r)) h' := by
  intro n
  induction n with
  | zero =>
    intros
    rename_i z
    cases z
  | succ n ih =>
    intro h x0 x1 r h' hf
    rw [g_X8_undo_26] at hf
    refine x_iload_n (pc := 26) (x := x1) dX8_undo_26 rfl ?_
    refine x_sipush (pc := 27) (v := 556) dX8_undo_27 (by decide) ?_
    refine x_icmp_ge (pc := 30) (tgt := 60) (x := x1) (y := 556) dX8_undo_30 rfl (fun hc => ?_) (fun hc => ?_)
    · replace hf := it_t hc hf
      refine x_aload_n (pc := 60) (a := x0) dX8_undo_60 rfl ?_
      replace hf := bd_s hf; obtain ⟨v61, e61, hf⟩ := hf
      refine x_getI (pc := 61) dX8_undo_61 fl_8_52 e61 ?_
      obtain ⟨rfl, rfl⟩ := ret_s hf
      exact x_reti (pc := 64) dX8_undo_64 rfl
    · replace hf := it_f hc hf
      refine x_aload_n (pc := 33) (a := x0) dX8_undo_33 rfl ?_
      replace hf := bd_s hf; obtain ⟨v34, e34, hf⟩ := hf
      refine x_getR (pc := 34) dX8_undo_34 fl_8_7 e34 ?_
      refine x_iload_n (pc := 37) (x := x1) dX8_undo_37 rfl ?_
      refine x_aload_n (pc := 38) (a := x0) dX8_undo_38 rfl ?_
      replace hf := bd_s hf; obtain ⟨v39, e39, hf⟩ := hf
      refine x_getR (pc := 39) dX8_undo_39 fl_8_13 e39 ?_
      refine x_sipush (pc := 42) (v := 556) dX8_undo_42 (by decide) ?_
      refine x_aload_n (pc := 45) (a := x0) dX8_undo_45 rfl ?_
      replace hf := bd_s hf; obtain ⟨v46, e46, hf⟩ := hf
      refine x_getI (pc := 46) dX8_undo_46 fl_8_52 e46 ?_
      refine x_imul (pc := 49) dX8_undo_49 ?_
      refine x_iload_n (pc := 50) (x := x1) dX8_undo_50 rfl ?_
      refine x_iadd (pc := 51) dX8_undo_51 ?_
      replace hf := bd_s hf; obtain ⟨v52, e52, hf⟩ := hf
      refine x_ldI (pc := 52) dX8_undo_52 e52 ?_
      replace hf := bd_s hf; obtain ⟨h53, e53, hf⟩ := hf
      refine x_stI (pc := 53) dX8_undo_53 e53 ?_
      refine x_iinc (pc := 54) (x := x1) (v := x1 + 1) (ls' := [some (va_rf (x0)), some (.int (x1 + 1))]) dX8_undo_54 rfl rfl (by decide) rfl ?_
      refine x_goto (pc := 57) (tgt := 26) dX8_undo_57 rfl ?_
      exact ih hf

def f_X8_undo (h : AH) (x0 : Option Nat) : Option (Int32 × AH) :=
  bd (gI h x0 8 2) fun v1 =>
  if ¬ v1 = 0 then (
    bd (gI h x0 8 2) fun v16 =>
    bd (pI h x0 8 2 (v16 - 1)) fun h21 =>
    g_X8_undo_26  NN h21 x0 0
  ) else (
    bd (isO h x0 8) fun _ =>
    bd2 (f_X8_finding h x0 (-100006)) fun v10 h10 =>
    some (v10, h10)
  )

set_option maxRecDepth 100000 in
set_option maxHeartbeats 4000000 in
theorem tm_X8_undo {g : GT} {h : AH} {x0 : Option Nat} {r : Int32} {h' : AH} (hf : f_X8_undo h x0 = some (r, h')) : Xm g mX8_undo [va_rf (x0)] h (some (.int r)) h' := by
  refine xm_of mo_X8_undo (Nat.le_of_ble_eq_true rfl) (ls := [some (va_rf (x0)), none]) rfl ?_
  rw [f_X8_undo] at hf
  refine x_aload_n (pc := 0) (a := x0) dX8_undo_0 rfl ?_
  replace hf := bd_s hf; obtain ⟨v1, e1, hf⟩ := hf
  refine x_getI (pc := 1) dX8_undo_1 fl_8_52 e1 ?_
  refine x_if_ne (pc := 4) (tgt := 14) (x := v1) dX8_undo_4 rfl (fun hc => ?_) (fun hc => ?_)
  · replace hf := it_t hc hf
    refine x_aload_n (pc := 14) (a := x0) dX8_undo_14 rfl ?_
    refine x_dup (pc := 15) dX8_undo_15 ?_
    replace hf := bd_s hf; obtain ⟨v16, e16, hf⟩ := hf
    refine x_getI (pc := 16) dX8_undo_16 fl_8_52 e16 ?_
    refine x_iconst (pc := 19) (v := 1) dX8_undo_19 (by decide) ?_
    refine x_isub (pc := 20) dX8_undo_20 ?_
    replace hf := bd_s hf; obtain ⟨h21, e21, hf⟩ := hf
    refine x_putI (pc := 21) dX8_undo_21 fl_8_52 (fW_no rfl) e21 ?_
    refine x_iconst (pc := 24) (v := 0) dX8_undo_24 (by decide) ?_
    refine x_istore_n (pc := 25) (ls' := [some (va_rf (x0)), some (.int (0))]) dX8_undo_25 (by decide) rfl ?_
    exact tg_X8_undo_26  NN hf
  · replace hf := it_n hc hf
    refine x_aload_n (pc := 7) (a := x0) dX8_undo_7 rfl ?_
    refine x_ldc (pc := 8) (v := -100006) dX8_undo_8 kc_8_55 ?_
    replace hf := bd_s hf; obtain ⟨u10, i10, hf⟩ := hf
    replace hf := bd2_s hf; obtain ⟨v10, h10, e10, hf⟩ := hf
    refine x_cVi (pc := 10) (M' := mX8_finding) (as := [.int ((-100006))]) (st := []) (a := x0) (ci := 8) dX8_undo_10 mo_X8_finding lk_8_56 im_X8_finding se_X8_finding rfl ⟨Nat.le_of_ble_eq_true rfl, Nat.le_of_ble_eq_true rfl⟩ rfl (Nat.le_of_ble_eq_true rfl) rfl i10 (tm_X8_finding e10) ?_
    obtain ⟨rfl, rfl⟩ := ret_s hf
    exact x_reti (pc := 13) dX8_undo_13 rfl

def f_X8_water (h : AH) (x0 : Option Nat) (x1 : Int32) (x2 : Int32) (x3 : Int32) : Option (Int32 × AH) :=
  bd2 (f_X8_isDay h x1) fun v1 h1 =>
  if v1 = 0 then (
    bd (isO h1 x0 8) fun _ =>
    bd2 (f_X8_finding h1 x0 (-100001)) fun v42 h42 =>
    some (v42, h42)
  ) else (
    bd2 (f_X8_isIn h1 x2 0 3) fun v10 h10 =>
    if v10 = 0 then (
      bd (isO h10 x0 8) fun _ =>
      bd2 (f_X8_finding h10 x0 (-100001)) fun v42 h42 =>
      some (v42, h42)
    ) else (
      bd2 (f_X8_isWater h10 x3) fun v17 h17 =>
      if v17 = 0 then (
        bd (isO h17 x0 8) fun _ =>
        bd2 (f_X8_finding h17 x0 (-100001)) fun v42 h42 =>
        some (v42, h42)
      ) else (
        bd (isO h17 x0 8) fun _ =>
        bd2 (f_X8_becomes h17 x0 ((74 + (4 * x1)) + x2) x3) fun v33 h33 =>
        some (v33, h33)
      )
    )
  )

set_option maxRecDepth 100000 in
set_option maxHeartbeats 4000000 in
theorem tm_X8_water {g : GT} {h : AH} {x0 : Option Nat} {x1 : Int32} {x2 : Int32} {x3 : Int32} {r : Int32} {h' : AH} (hf : f_X8_water h x0 x1 x2 x3 = some (r, h')) : Xm g mX8_water [va_rf (x0), .int (x1), .int (x2), .int (x3)] h (some (.int r)) h' := by
  refine xm_of mo_X8_water (Nat.le_of_ble_eq_true rfl) (ls := [some (va_rf (x0)), some (.int (x1)), some (.int (x2)), some (.int (x3))]) rfl ?_
  rw [f_X8_water] at hf
  refine x_iload_n (pc := 0) (x := x1) dX8_water_0 rfl ?_
  replace hf := bd2_s hf; obtain ⟨v1, h1, e1, hf⟩ := hf
  refine x_cSi (pc := 1) (M' := mX8_isDay) (as := [.int (x1)]) (st := []) dX8_water_1 mo_X8_isDay lk_8_74 sm_X8_isDay ⟨Nat.le_of_ble_eq_true rfl, Nat.le_of_ble_eq_true rfl⟩ rfl (Nat.le_of_ble_eq_true rfl) rfl (tm_X8_isDay e1) ?_
  refine x_if_eq (pc := 4) (tgt := 39) (x := v1) dX8_water_4 rfl (fun hc => ?_) (fun hc => ?_)
  · replace hf := it_t hc hf
    refine x_aload_n (pc := 39) (a := x0) dX8_water_39 rfl ?_
    refine x_ldc (pc := 40) (v := -100001) dX8_water_40 kc_8_67 ?_
    replace hf := bd_s hf; obtain ⟨u42, i42, hf⟩ := hf
    replace hf := bd2_s hf; obtain ⟨v42, h42, e42, hf⟩ := hf
    refine x_cVi (pc := 42) (M' := mX8_finding) (as := [.int ((-100001))]) (st := []) (a := x0) (ci := 8) dX8_water_42 mo_X8_finding lk_8_56 im_X8_finding se_X8_finding rfl ⟨Nat.le_of_ble_eq_true rfl, Nat.le_of_ble_eq_true rfl⟩ rfl (Nat.le_of_ble_eq_true rfl) rfl i42 (tm_X8_finding e42) ?_
    obtain ⟨rfl, rfl⟩ := ret_s hf
    exact x_reti (pc := 45) dX8_water_45 rfl
  · replace hf := it_f hc hf
    refine x_iload_n (pc := 7) (x := x2) dX8_water_7 rfl ?_
    refine x_iconst (pc := 8) (v := 0) dX8_water_8 (by decide) ?_
    refine x_iconst (pc := 9) (v := 3) dX8_water_9 (by decide) ?_
    replace hf := bd2_s hf; obtain ⟨v10, h10, e10, hf⟩ := hf
    refine x_cSi (pc := 10) (M' := mX8_isIn) (as := [.int (x2), .int (0), .int (3)]) (st := []) dX8_water_10 mo_X8_isIn lk_8_48 sm_X8_isIn ⟨Nat.le_of_ble_eq_true rfl, Nat.le_of_ble_eq_true rfl⟩ rfl (Nat.le_of_ble_eq_true rfl) rfl (tm_X8_isIn e10) ?_
    refine x_if_eq (pc := 13) (tgt := 39) (x := v10) dX8_water_13 rfl (fun hc => ?_) (fun hc => ?_)
    · replace hf := it_t hc hf
      refine x_aload_n (pc := 39) (a := x0) dX8_water_39 rfl ?_
      refine x_ldc (pc := 40) (v := -100001) dX8_water_40 kc_8_67 ?_
      replace hf := bd_s hf; obtain ⟨u42, i42, hf⟩ := hf
      replace hf := bd2_s hf; obtain ⟨v42, h42, e42, hf⟩ := hf
      refine x_cVi (pc := 42) (M' := mX8_finding) (as := [.int ((-100001))]) (st := []) (a := x0) (ci := 8) dX8_water_42 mo_X8_finding lk_8_56 im_X8_finding se_X8_finding rfl ⟨Nat.le_of_ble_eq_true rfl, Nat.le_of_ble_eq_true rfl⟩ rfl (Nat.le_of_ble_eq_true rfl) rfl i42 (tm_X8_finding e42) ?_
      obtain ⟨rfl, rfl⟩ := ret_s hf
      exact x_reti (pc := 45) dX8_water_45 rfl
    · replace hf := it_f hc hf
      refine x_iload_n (pc := 16) (x := x3) dX8_water_16 rfl ?_
      replace hf := bd2_s hf; obtain ⟨v17, h17, e17, hf⟩ := hf
      refine x_cSi (pc := 17) (M' := mX8_isWater) (as := [.int (x3)]) (st := []) dX8_water_17 mo_X8_isWater lk_8_69 sm_X8_isWater ⟨Nat.le_of_ble_eq_true rfl, Nat.le_of_ble_eq_true rfl⟩ rfl (Nat.le_of_ble_eq_true rfl) rfl (tm_X8_isWater e17) ?_
      refine x_if_eq (pc := 20) (tgt := 39) (x := v17) dX8_water_20 rfl (fun hc => ?_) (fun hc => ?_)
      · replace hf := it_t hc hf
        refine x_aload_n (pc := 39) (a := x0) dX8_water_39 rfl ?_
        refine x_ldc (pc := 40) (v := -100001) dX8_water_40 kc_8_67 ?_
        replace hf := bd_s hf; obtain ⟨u42, i42, hf⟩ := hf
        replace hf := bd2_s hf; obtain ⟨v42, h42, e42, hf⟩ := hf
        refine x_cVi (pc := 42) (M' := mX8_finding) (as := [.int ((-100001))]) (st := []) (a := x0) (ci := 8) dX8_water_42 mo_X8_finding lk_8_56 im_X8_finding se_X8_finding rfl ⟨Nat.le_of_ble_eq_true rfl, Nat.le_of_ble_eq_true rfl⟩ rfl (Nat.le_of_ble_eq_true rfl) rfl i42 (tm_X8_finding e42) ?_
        obtain ⟨rfl, rfl⟩ := ret_s hf
        exact x_reti (pc := 45) dX8_water_45 rfl
      · replace hf := it_f hc hf
        refine x_aload_n (pc := 23) (a := x0) dX8_water_23 rfl ?_
        refine x_bipush (pc := 24) (v := 74) dX8_water_24 (by decide) ?_
        refine x_iconst (pc := 26) (v := 4) dX8_water_26 (by decide) ?_
        refine x_iload_n (pc := 27) (x := x1) dX8_water_27 rfl ?_
        refine x_imul (pc := 28) dX8_water_28 ?_
        refine x_iadd (pc := 29) dX8_water_29 ?_
        refine x_iload_n (pc := 30) (x := x2) dX8_water_30 rfl ?_
        refine x_iadd (pc := 31) dX8_water_31 ?_
        refine x_iload_n (pc := 32) (x := x3) dX8_water_32 rfl ?_
        replace hf := bd_s hf; obtain ⟨u33, i33, hf⟩ := hf
        replace hf := bd2_s hf; obtain ⟨v33, h33, e33, hf⟩ := hf
        refine x_cVi (pc := 33) (M' := mX8_becomes) (as := [.int ((74 + (4 * x1)) + x2), .int (x3)]) (st := []) (a := x0) (ci := 8) dX8_water_33 mo_X8_becomes lk_8_63 im_X8_becomes se_X8_becomes rfl ⟨Nat.le_of_ble_eq_true rfl, Nat.le_of_ble_eq_true rfl⟩ rfl (Nat.le_of_ble_eq_true rfl) rfl i33 (tm_X8_becomes e33) ?_
        refine x_goto (pc := 36) (tgt := 45) dX8_water_36 rfl ?_
        obtain ⟨rfl, rfl⟩ := ret_s hf
        exact x_reti (pc := 45) dX8_water_45 rfl

def f_X8_waterAt (h : AH) (x0 : Option Nat) (x1 : Int32) (x2 : Int32) (x3 : Int32) : Option (Int32 × AH) :=
  bd2 (f_X8_isIn h x1 0 250) fun v5 h5 =>
  if v5 = 0 then (
    bd (isO h5 x0 8) fun _ =>
    bd2 (f_X8_finding h5 x0 (-100001)) fun v41 h41 =>
    some (v41, h41)
  ) else (
    bd2 (f_X8_isDay h5 x2) fun v12 h12 =>
    if v12 = 0 then (
      bd (isO h12 x0 8) fun _ =>
      bd2 (f_X8_finding h12 x0 (-100001)) fun v41 h41 =>
      some (v41, h41)
    ) else (
      bd2 (f_X8_isIn h12 x3 0 23) fun v22 h22 =>
      if v22 = 0 then (
        bd (isO h22 x0 8) fun _ =>
        bd2 (f_X8_finding h22 x0 (-100001)) fun v41 h41 =>
        some (v41, h41)
      ) else (
        bd (isO h22 x0 8) fun _ =>
        bd2 (f_X8_waterOf h22 x0 x1 x2 x3) fun v32 h32 =>
        some (v32, h32)
      )
    )
  )

set_option maxRecDepth 100000 in
set_option maxHeartbeats 4000000 in
theorem tm_X8_waterAt {g : GT} {h : AH} {x0 : Option Nat} {x1 : Int32} {x2 : Int32} {x3 : Int32} {r : Int32} {h' : AH} (hf : f_X8_waterAt h x0 x1 x2 x3 = some (r, h')) : Xm g mX8_waterAt [va_rf (x0), .int (x1), .int (x2), .int (x3)] h (some (.int r)) h' := by
  refine xm_of mo_X8_waterAt (Nat.le_of_ble_eq_true rfl) (ls := [some (va_rf (x0)), some (.int (x1)), some (.int (x2)), some (.int (x3))]) rfl ?_
  rw [f_X8_waterAt] at hf
  refine x_iload_n (pc := 0) (x := x1) dX8_waterAt_0 rfl ?_
  refine x_iconst (pc := 1) (v := 0) dX8_waterAt_1 (by decide) ?_
  refine x_sipush (pc := 2) (v := 250) dX8_waterAt_2 (by decide) ?_
  replace hf := bd2_s hf; obtain ⟨v5, h5, e5, hf⟩ := hf
  refine x_cSi (pc := 5) (M' := mX8_isIn) (as := [.int (x1), .int (0), .int (250)]) (st := []) dX8_waterAt_5 mo_X8_isIn lk_8_48 sm_X8_isIn ⟨Nat.le_of_ble_eq_true rfl, Nat.le_of_ble_eq_true rfl⟩ rfl (Nat.le_of_ble_eq_true rfl) rfl (tm_X8_isIn e5) ?_
  refine x_if_eq (pc := 8) (tgt := 38) (x := v5) dX8_waterAt_8 rfl (fun hc => ?_) (fun hc => ?_)
  · replace hf := it_t hc hf
    refine x_aload_n (pc := 38) (a := x0) dX8_waterAt_38 rfl ?_
    refine x_ldc (pc := 39) (v := -100001) dX8_waterAt_39 kc_8_67 ?_
    replace hf := bd_s hf; obtain ⟨u41, i41, hf⟩ := hf
    replace hf := bd2_s hf; obtain ⟨v41, h41, e41, hf⟩ := hf
    refine x_cVi (pc := 41) (M' := mX8_finding) (as := [.int ((-100001))]) (st := []) (a := x0) (ci := 8) dX8_waterAt_41 mo_X8_finding lk_8_56 im_X8_finding se_X8_finding rfl ⟨Nat.le_of_ble_eq_true rfl, Nat.le_of_ble_eq_true rfl⟩ rfl (Nat.le_of_ble_eq_true rfl) rfl i41 (tm_X8_finding e41) ?_
    obtain ⟨rfl, rfl⟩ := ret_s hf
    exact x_reti (pc := 44) dX8_waterAt_44 rfl
  · replace hf := it_f hc hf
    refine x_iload_n (pc := 11) (x := x2) dX8_waterAt_11 rfl ?_
    replace hf := bd2_s hf; obtain ⟨v12, h12, e12, hf⟩ := hf
    refine x_cSi (pc := 12) (M' := mX8_isDay) (as := [.int (x2)]) (st := []) dX8_waterAt_12 mo_X8_isDay lk_8_74 sm_X8_isDay ⟨Nat.le_of_ble_eq_true rfl, Nat.le_of_ble_eq_true rfl⟩ rfl (Nat.le_of_ble_eq_true rfl) rfl (tm_X8_isDay e12) ?_
    refine x_if_eq (pc := 15) (tgt := 38) (x := v12) dX8_waterAt_15 rfl (fun hc => ?_) (fun hc => ?_)
    · replace hf := it_t hc hf
      refine x_aload_n (pc := 38) (a := x0) dX8_waterAt_38 rfl ?_
      refine x_ldc (pc := 39) (v := -100001) dX8_waterAt_39 kc_8_67 ?_
      replace hf := bd_s hf; obtain ⟨u41, i41, hf⟩ := hf
      replace hf := bd2_s hf; obtain ⟨v41, h41, e41, hf⟩ := hf
      refine x_cVi (pc := 41) (M' := mX8_finding) (as := [.int ((-100001))]) (st := []) (a := x0) (ci := 8) dX8_waterAt_41 mo_X8_finding lk_8_56 im_X8_finding se_X8_finding rfl ⟨Nat.le_of_ble_eq_true rfl, Nat.le_of_ble_eq_true rfl⟩ rfl (Nat.le_of_ble_eq_true rfl) rfl i41 (tm_X8_finding e41) ?_
      obtain ⟨rfl, rfl⟩ := ret_s hf
      exact x_reti (pc := 44) dX8_waterAt_44 rfl
    · replace hf := it_f hc hf
      refine x_iload_n (pc := 18) (x := x3) dX8_waterAt_18 rfl ?_
      refine x_iconst (pc := 19) (v := 0) dX8_waterAt_19 (by decide) ?_
      refine x_bipush (pc := 20) (v := 23) dX8_waterAt_20 (by decide) ?_
      replace hf := bd2_s hf; obtain ⟨v22, h22, e22, hf⟩ := hf
      refine x_cSi (pc := 22) (M' := mX8_isIn) (as := [.int (x3), .int (0), .int (23)]) (st := []) dX8_waterAt_22 mo_X8_isIn lk_8_48 sm_X8_isIn ⟨Nat.le_of_ble_eq_true rfl, Nat.le_of_ble_eq_true rfl⟩ rfl (Nat.le_of_ble_eq_true rfl) rfl (tm_X8_isIn e22) ?_
      refine x_if_eq (pc := 25) (tgt := 38) (x := v22) dX8_waterAt_25 rfl (fun hc => ?_) (fun hc => ?_)
      · replace hf := it_t hc hf
        refine x_aload_n (pc := 38) (a := x0) dX8_waterAt_38 rfl ?_
        refine x_ldc (pc := 39) (v := -100001) dX8_waterAt_39 kc_8_67 ?_
        replace hf := bd_s hf; obtain ⟨u41, i41, hf⟩ := hf
        replace hf := bd2_s hf; obtain ⟨v41, h41, e41, hf⟩ := hf
        refine x_cVi (pc := 41) (M' := mX8_finding) (as := [.int ((-100001))]) (st := []) (a := x0) (ci := 8) dX8_waterAt_41 mo_X8_finding lk_8_56 im_X8_finding se_X8_finding rfl ⟨Nat.le_of_ble_eq_true rfl, Nat.le_of_ble_eq_true rfl⟩ rfl (Nat.le_of_ble_eq_true rfl) rfl i41 (tm_X8_finding e41) ?_
        obtain ⟨rfl, rfl⟩ := ret_s hf
        exact x_reti (pc := 44) dX8_waterAt_44 rfl
      · replace hf := it_f hc hf
        refine x_aload_n (pc := 28) (a := x0) dX8_waterAt_28 rfl ?_
        refine x_iload_n (pc := 29) (x := x1) dX8_waterAt_29 rfl ?_
        refine x_iload_n (pc := 30) (x := x2) dX8_waterAt_30 rfl ?_
        refine x_iload_n (pc := 31) (x := x3) dX8_waterAt_31 rfl ?_
        replace hf := bd_s hf; obtain ⟨u32, i32, hf⟩ := hf
        replace hf := bd2_s hf; obtain ⟨v32, h32, e32, hf⟩ := hf
        refine x_cVi (pc := 32) (M' := mX8_waterOf) (as := [.int (x1), .int (x2), .int (x3)]) (st := []) (a := x0) (ci := 8) dX8_waterAt_32 mo_X8_waterOf lk_8_77 im_X8_waterOf se_X8_waterOf rfl ⟨Nat.le_of_ble_eq_true rfl, Nat.le_of_ble_eq_true rfl⟩ rfl (Nat.le_of_ble_eq_true rfl) rfl i32 (tm_X8_waterOf e32) ?_
        refine x_goto (pc := 35) (tgt := 44) dX8_waterAt_35 rfl ?_
        obtain ⟨rfl, rfl⟩ := ret_s hf
        exact x_reti (pc := 44) dX8_waterAt_44 rfl

def f_X8_weigh (h : AH) (x0 : Option Nat) (x1 : Int32) (x2 : Int32) : Option (Int32 × AH) :=
  bd (isO h x0 8) fun _ =>
  bd2 (f_X8_isApplicant h x0 x1) fun v2 h2 =>
  if v2 = 0 then (
    bd (isO h2 x0 8) fun _ =>
    bd2 (f_X8_finding h2 x0 (-100001)) fun v34 h34 =>
    some (v34, h34)
  ) else (
    bd2 (f_X8_isIn h2 x2 1 99) fun v12 h12 =>
    if v12 = 0 then (
      bd (isO h12 x0 8) fun _ =>
      bd2 (f_X8_finding h12 x0 (-100001)) fun v34 h34 =>
      some (v34, h34)
    ) else (
      bd (isO h12 x0 8) fun _ =>
      bd2 (f_X8_becomes h12 x0 (544 + x1) x2) fun v25 h25 =>
      some (v25, h25)
    )
  )

set_option maxRecDepth 100000 in
set_option maxHeartbeats 4000000 in
theorem tm_X8_weigh {g : GT} {h : AH} {x0 : Option Nat} {x1 : Int32} {x2 : Int32} {r : Int32} {h' : AH} (hf : f_X8_weigh h x0 x1 x2 = some (r, h')) : Xm g mX8_weigh [va_rf (x0), .int (x1), .int (x2)] h (some (.int r)) h' := by
  refine xm_of mo_X8_weigh (Nat.le_of_ble_eq_true rfl) (ls := [some (va_rf (x0)), some (.int (x1)), some (.int (x2))]) rfl ?_
  rw [f_X8_weigh] at hf
  refine x_aload_n (pc := 0) (a := x0) dX8_weigh_0 rfl ?_
  refine x_iload_n (pc := 1) (x := x1) dX8_weigh_1 rfl ?_
  replace hf := bd_s hf; obtain ⟨u2, i2, hf⟩ := hf
  replace hf := bd2_s hf; obtain ⟨v2, h2, e2, hf⟩ := hf
  refine x_cVi (pc := 2) (M' := mX8_isApplicant) (as := [.int (x1)]) (st := []) (a := x0) (ci := 8) dX8_weigh_2 mo_X8_isApplicant lk_8_145 im_X8_isApplicant se_X8_isApplicant rfl ⟨Nat.le_of_ble_eq_true rfl, Nat.le_of_ble_eq_true rfl⟩ rfl (Nat.le_of_ble_eq_true rfl) rfl i2 (tm_X8_isApplicant e2) ?_
  refine x_if_eq (pc := 5) (tgt := 31) (x := v2) dX8_weigh_5 rfl (fun hc => ?_) (fun hc => ?_)
  · replace hf := it_t hc hf
    refine x_aload_n (pc := 31) (a := x0) dX8_weigh_31 rfl ?_
    refine x_ldc (pc := 32) (v := -100001) dX8_weigh_32 kc_8_67 ?_
    replace hf := bd_s hf; obtain ⟨u34, i34, hf⟩ := hf
    replace hf := bd2_s hf; obtain ⟨v34, h34, e34, hf⟩ := hf
    refine x_cVi (pc := 34) (M' := mX8_finding) (as := [.int ((-100001))]) (st := []) (a := x0) (ci := 8) dX8_weigh_34 mo_X8_finding lk_8_56 im_X8_finding se_X8_finding rfl ⟨Nat.le_of_ble_eq_true rfl, Nat.le_of_ble_eq_true rfl⟩ rfl (Nat.le_of_ble_eq_true rfl) rfl i34 (tm_X8_finding e34) ?_
    obtain ⟨rfl, rfl⟩ := ret_s hf
    exact x_reti (pc := 37) dX8_weigh_37 rfl
  · replace hf := it_f hc hf
    refine x_iload_n (pc := 8) (x := x2) dX8_weigh_8 rfl ?_
    refine x_iconst (pc := 9) (v := 1) dX8_weigh_9 (by decide) ?_
    refine x_bipush (pc := 10) (v := 99) dX8_weigh_10 (by decide) ?_
    replace hf := bd2_s hf; obtain ⟨v12, h12, e12, hf⟩ := hf
    refine x_cSi (pc := 12) (M' := mX8_isIn) (as := [.int (x2), .int (1), .int (99)]) (st := []) dX8_weigh_12 mo_X8_isIn lk_8_48 sm_X8_isIn ⟨Nat.le_of_ble_eq_true rfl, Nat.le_of_ble_eq_true rfl⟩ rfl (Nat.le_of_ble_eq_true rfl) rfl (tm_X8_isIn e12) ?_
    refine x_if_eq (pc := 15) (tgt := 31) (x := v12) dX8_weigh_15 rfl (fun hc => ?_) (fun hc => ?_)
    · replace hf := it_t hc hf
      refine x_aload_n (pc := 31) (a := x0) dX8_weigh_31 rfl ?_
      refine x_ldc (pc := 32) (v := -100001) dX8_weigh_32 kc_8_67 ?_
      replace hf := bd_s hf; obtain ⟨u34, i34, hf⟩ := hf
      replace hf := bd2_s hf; obtain ⟨v34, h34, e34, hf⟩ := hf
      refine x_cVi (pc := 34) (M' := mX8_finding) (as := [.int ((-100001))]) (st := []) (a := x0) (ci := 8) dX8_weigh_34 mo_X8_finding lk_8_56 im_X8_finding se_X8_finding rfl ⟨Nat.le_of_ble_eq_true rfl, Nat.le_of_ble_eq_true rfl⟩ rfl (Nat.le_of_ble_eq_true rfl) rfl i34 (tm_X8_finding e34) ?_
      obtain ⟨rfl, rfl⟩ := ret_s hf
      exact x_reti (pc := 37) dX8_weigh_37 rfl
    · replace hf := it_f hc hf
      refine x_aload_n (pc := 18) (a := x0) dX8_weigh_18 rfl ?_
      refine x_sipush (pc := 19) (v := 544) dX8_weigh_19 (by decide) ?_
      refine x_iload_n (pc := 22) (x := x1) dX8_weigh_22 rfl ?_
      refine x_iadd (pc := 23) dX8_weigh_23 ?_
      refine x_iload_n (pc := 24) (x := x2) dX8_weigh_24 rfl ?_
      replace hf := bd_s hf; obtain ⟨u25, i25, hf⟩ := hf
      replace hf := bd2_s hf; obtain ⟨v25, h25, e25, hf⟩ := hf
      refine x_cVi (pc := 25) (M' := mX8_becomes) (as := [.int (544 + x1), .int (x2)]) (st := []) (a := x0) (ci := 8) dX8_weigh_25 mo_X8_becomes lk_8_63 im_X8_becomes se_X8_becomes rfl ⟨Nat.le_of_ble_eq_true rfl, Nat.le_of_ble_eq_true rfl⟩ rfl (Nat.le_of_ble_eq_true rfl) rfl i25 (tm_X8_becomes e25) ?_
      refine x_goto (pc := 28) (tgt := 37) dX8_weigh_28 rfl ?_
      obtain ⟨rfl, rfl⟩ := ret_s hf
      exact x_reti (pc := 37) dX8_weigh_37 rfl

def f_X8_who (h : AH) (x0 : Option Nat) (x1 : Int32) (x2 : Int32) : Option (Int32 × AH) :=
  bd (isO h x0 8) fun _ =>
  bd2 (f_X8_isCamp h x0 x1) fun v2 h2 =>
  if v2 = 0 then (
    bd (isO h2 x0 8) fun _ =>
    bd2 (f_X8_finding h2 x0 (-100001)) fun v18 h18 =>
    some (v18, h18)
  ) else (
    bd2 (f_X8_isDay h2 x2) fun v9 h9 =>
    if ¬ v9 = 0 then (
      bd (isO h9 x0 8) fun _ =>
      bd2 (f_X8_other h9 x0 x1 x2 (-1)) fun v26 h26 =>
      if 0 ≤ v26 then (
        some (v26, h26)
      ) else (
        bd (isO h26 x0 8) fun _ =>
        bd2 (f_X8_finding h26 x0 (-100006)) fun v37 h37 =>
        some (v37, h37)
      )
    ) else (
      bd (isO h9 x0 8) fun _ =>
      bd2 (f_X8_finding h9 x0 (-100001)) fun v18 h18 =>
      some (v18, h18)
    )
  )

set_option maxRecDepth 100000 in
set_option maxHeartbeats 4000000 in
theorem tm_X8_who {g : GT} {h : AH} {x0 : Option Nat} {x1 : Int32} {x2 : Int32} {r : Int32} {h' : AH} (hf : f_X8_who h x0 x1 x2 = some (r, h')) : Xm g mX8_who [va_rf (x0), .int (x1), .int (x2)] h (some (.int r)) h' := by
  refine xm_of mo_X8_who (Nat.le_of_ble_eq_true rfl) (ls := [some (va_rf (x0)), some (.int (x1)), some (.int (x2)), none]) rfl ?_
  rw [f_X8_who] at hf
  refine x_aload_n (pc := 0) (a := x0) dX8_who_0 rfl ?_
  refine x_iload_n (pc := 1) (x := x1) dX8_who_1 rfl ?_
  replace hf := bd_s hf; obtain ⟨u2, i2, hf⟩ := hf
  replace hf := bd2_s hf; obtain ⟨v2, h2, e2, hf⟩ := hf
  refine x_cVi (pc := 2) (M' := mX8_isCamp) (as := [.int (x1)]) (st := []) (a := x0) (ci := 8) dX8_who_2 mo_X8_isCamp lk_8_98 im_X8_isCamp se_X8_isCamp rfl ⟨Nat.le_of_ble_eq_true rfl, Nat.le_of_ble_eq_true rfl⟩ rfl (Nat.le_of_ble_eq_true rfl) rfl i2 (tm_X8_isCamp e2) ?_
  refine x_if_eq (pc := 5) (tgt := 15) (x := v2) dX8_who_5 rfl (fun hc => ?_) (fun hc => ?_)
  · replace hf := it_t hc hf
    refine x_aload_n (pc := 15) (a := x0) dX8_who_15 rfl ?_
    refine x_ldc (pc := 16) (v := -100001) dX8_who_16 kc_8_67 ?_
    replace hf := bd_s hf; obtain ⟨u18, i18, hf⟩ := hf
    replace hf := bd2_s hf; obtain ⟨v18, h18, e18, hf⟩ := hf
    refine x_cVi (pc := 18) (M' := mX8_finding) (as := [.int ((-100001))]) (st := []) (a := x0) (ci := 8) dX8_who_18 mo_X8_finding lk_8_56 im_X8_finding se_X8_finding rfl ⟨Nat.le_of_ble_eq_true rfl, Nat.le_of_ble_eq_true rfl⟩ rfl (Nat.le_of_ble_eq_true rfl) rfl i18 (tm_X8_finding e18) ?_
    obtain ⟨rfl, rfl⟩ := ret_s hf
    exact x_reti (pc := 21) dX8_who_21 rfl
  · replace hf := it_f hc hf
    refine x_iload_n (pc := 8) (x := x2) dX8_who_8 rfl ?_
    replace hf := bd2_s hf; obtain ⟨v9, h9, e9, hf⟩ := hf
    refine x_cSi (pc := 9) (M' := mX8_isDay) (as := [.int (x2)]) (st := []) dX8_who_9 mo_X8_isDay lk_8_74 sm_X8_isDay ⟨Nat.le_of_ble_eq_true rfl, Nat.le_of_ble_eq_true rfl⟩ rfl (Nat.le_of_ble_eq_true rfl) rfl (tm_X8_isDay e9) ?_
    refine x_if_ne (pc := 12) (tgt := 22) (x := v9) dX8_who_12 rfl (fun hc => ?_) (fun hc => ?_)
    · replace hf := it_t hc hf
      refine x_aload_n (pc := 22) (a := x0) dX8_who_22 rfl ?_
      refine x_iload_n (pc := 23) (x := x1) dX8_who_23 rfl ?_
      refine x_iload_n (pc := 24) (x := x2) dX8_who_24 rfl ?_
      refine x_iconst (pc := 25) (v := -1) dX8_who_25 (by decide) ?_
      replace hf := bd_s hf; obtain ⟨u26, i26, hf⟩ := hf
      replace hf := bd2_s hf; obtain ⟨v26, h26, e26, hf⟩ := hf
      refine x_cVi (pc := 26) (M' := mX8_other) (as := [.int (x1), .int (x2), .int ((-1))]) (st := []) (a := x0) (ci := 8) dX8_who_26 mo_X8_other lk_8_101 im_X8_other se_X8_other rfl ⟨Nat.le_of_ble_eq_true rfl, Nat.le_of_ble_eq_true rfl⟩ rfl (Nat.le_of_ble_eq_true rfl) rfl i26 (tm_X8_other e26) ?_
      refine x_istore_n (pc := 29) (ls' := [some (va_rf (x0)), some (.int (x1)), some (.int (x2)), some (.int (v26))]) dX8_who_29 (by decide) rfl ?_
      refine x_iload_n (pc := 30) (x := v26) dX8_who_30 rfl ?_
      refine x_if_ge (pc := 31) (tgt := 43) (x := v26) dX8_who_31 rfl (fun hc => ?_) (fun hc => ?_)
      · replace hf := it_t hc hf
        refine x_iload_n (pc := 43) (x := v26) dX8_who_43 rfl ?_
        obtain ⟨rfl, rfl⟩ := ret_s hf
        exact x_reti (pc := 44) dX8_who_44 rfl
      · replace hf := it_f hc hf
        refine x_aload_n (pc := 34) (a := x0) dX8_who_34 rfl ?_
        refine x_ldc (pc := 35) (v := -100006) dX8_who_35 kc_8_55 ?_
        replace hf := bd_s hf; obtain ⟨u37, i37, hf⟩ := hf
        replace hf := bd2_s hf; obtain ⟨v37, h37, e37, hf⟩ := hf
        refine x_cVi (pc := 37) (M' := mX8_finding) (as := [.int ((-100006))]) (st := []) (a := x0) (ci := 8) dX8_who_37 mo_X8_finding lk_8_56 im_X8_finding se_X8_finding rfl ⟨Nat.le_of_ble_eq_true rfl, Nat.le_of_ble_eq_true rfl⟩ rfl (Nat.le_of_ble_eq_true rfl) rfl i37 (tm_X8_finding e37) ?_
        refine x_goto (pc := 40) (tgt := 44) dX8_who_40 rfl ?_
        obtain ⟨rfl, rfl⟩ := ret_s hf
        exact x_reti (pc := 44) dX8_who_44 rfl
    · replace hf := it_n hc hf
      refine x_aload_n (pc := 15) (a := x0) dX8_who_15 rfl ?_
      refine x_ldc (pc := 16) (v := -100001) dX8_who_16 kc_8_67 ?_
      replace hf := bd_s hf; obtain ⟨u18, i18, hf⟩ := hf
      replace hf := bd2_s hf; obtain ⟨v18, h18, e18, hf⟩ := hf
      refine x_cVi (pc := 18) (M' := mX8_finding) (as := [.int ((-100001))]) (st := []) (a := x0) (ci := 8) dX8_who_18 mo_X8_finding lk_8_56 im_X8_finding se_X8_finding rfl ⟨Nat.le_of_ble_eq_true rfl, Nat.le_of_ble_eq_true rfl⟩ rfl (Nat.le_of_ble_eq_true rfl) rfl i18 (tm_X8_finding e18) ?_
      obtain ⟨rfl, rfl⟩ := ret_s hf
      exact x_reti (pc := 21) dX8_who_21 rfl
