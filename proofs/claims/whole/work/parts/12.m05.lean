def g_X7_near_48 : Nat → AH → Option Nat → Int32 → Int32 → Int32 → Int32 → Int32 → Option (Int32 × AH)
  | 0, _, _, _, _, _, _, _ => none
  | n + 1, h, x0, x1, x2, x3, x4, x5 =>
    if 30 ≤ x5 then (
      some (x4, h)
    ) else (
      bd (gR h x0 7 1) fun v56 =>
      bd (isO h v56 6) fun _ =>
      bd2 (f_X6_read h v56 x1 (5 + x5)) fun v64 h64 =>
      bd (gR h64 x0 7 1) fun v70 =>
      bd (isO h64 v70 6) fun _ =>
      bd2 (f_X6_read h64 v70 x2 (5 + x5)) fun v78 h78 =>
      bd (isO h78 x0 7) fun _ =>
      bd2 (f_X7_isCamp h78 x0 v64) fun v86 h86 =>
      if v86 = 0 then (
        g_X7_near_48  n h86 x0 x1 x2 x3 x4 (x5 + 1)
      ) else (
        bd (isO h86 x0 7) fun _ =>
        bd2 (f_X7_isCamp h86 x0 v78) fun v95 h95 =>
        if v95 = 0 then (
          g_X7_near_48  n h95 x0 x1 x2 x3 x4 (x5 + 1)
        ) else (
          bd (gR h95 x0 7 0) fun v102 =>
          bd (gR h95 v102 4 3) fun v105 =>
          bd (ldI h95 v105 v64) fun v110 =>
          bd (gR h95 x0 7 0) fun v112 =>
          bd (gR h95 v112 4 3) fun v115 =>
          bd (ldI h95 v115 v78) fun v120 =>
          if x3 < (if 0 ≤ (v110 - v120) then (v110 - v120) else 0 - (v110 - v120)) then (
            g_X7_near_48  n h95 x0 x1 x2 x3 x4 (x5 + 1)
          ) else (
            g_X7_near_48  n h95 x0 x1 x2 x3 (x4 + 1) (x5 + 1)
          )
        )
      )
    )

set_option maxRecDepth 100000 in
set_option maxHeartbeats 4000000 in
theorem tg_X7_near_48 {g : GT} : ∀ (n : Nat) {h : AH} {x0 : Option Nat} {x1 : Int32} {x2 : Int32} {x3 : Int32} {x4 : Int32} {x5 : Int32} {r : Int32} {h' : AH}, g_X7_near_48 n h x0 x1 x2 x3 x4 x5 = some (r, h') → Xj g mX7_near h 48 [some (va_rf (x0)), some (.int (x1)), some (.int (x2)), some (.int (x3)), some (.int (x4)), some (.int (x5)), none, none] [] (some (.int r)) h' := by
  intro n
  induction n with
  | zero =>
    intros
    rename_i z
    cases z
  | succ n ih =>
    intro h x0 x1 x2 x3 x4 x5 r h' hf
    rw [g_X7_near_48] at hf
    refine x_iload (pc := 48) (x := x5) dX7_near_48 rfl ?_
    refine x_bipush (pc := 50) (v := 30) dX7_near_50 (by decide) ?_
    refine x_icmp_ge (pc := 52) (tgt := 138) (x := x5) (y := 30) dX7_near_52 rfl (fun hc => ?_) (fun hc => ?_)
    · replace hf := it_t hc hf
      refine x_iload (pc := 138) (x := x4) dX7_near_138 rfl ?_
      obtain ⟨rfl, rfl⟩ := ret_s hf
      exact x_reti (pc := 140) dX7_near_140 rfl
    · replace hf := it_f hc hf
      refine x_aload_n (pc := 55) (a := x0) dX7_near_55 rfl ?_
      replace hf := bd_s hf; obtain ⟨v56, e56, hf⟩ := hf
      refine x_getR (pc := 56) dX7_near_56 fl_7_19 e56 ?_
      refine x_iload_n (pc := 59) (x := x1) dX7_near_59 rfl ?_
      refine x_iconst (pc := 60) (v := 5) dX7_near_60 (by decide) ?_
      refine x_iload (pc := 61) (x := x5) dX7_near_61 rfl ?_
      refine x_iadd (pc := 63) dX7_near_63 ?_
      replace hf := bd_s hf; obtain ⟨u64, i64, hf⟩ := hf
      replace hf := bd2_s hf; obtain ⟨v64, h64, e64, hf⟩ := hf
      refine x_cVi (pc := 64) (M' := mX6_read) (as := [.int (x1), .int (5 + x5)]) (st := []) (a := v56) (ci := 6) dX7_near_64 mo_X6_read lk_7_137 im_X6_read se_X6_read rfl ⟨Nat.le_of_ble_eq_true rfl, Nat.le_of_ble_eq_true rfl⟩ rfl (Nat.le_of_ble_eq_true rfl) rfl i64 (tm_X6_read e64) ?_
      refine x_istore (pc := 67) (ls' := [some (va_rf (x0)), some (.int (x1)), some (.int (x2)), some (.int (x3)), some (.int (x4)), some (.int (x5)), some (.int (v64)), none]) dX7_near_67 (by decide) rfl ?_
      refine x_aload_n (pc := 69) (a := x0) dX7_near_69 rfl ?_
      replace hf := bd_s hf; obtain ⟨v70, e70, hf⟩ := hf
      refine x_getR (pc := 70) dX7_near_70 fl_7_19 e70 ?_
      refine x_iload_n (pc := 73) (x := x2) dX7_near_73 rfl ?_
      refine x_iconst (pc := 74) (v := 5) dX7_near_74 (by decide) ?_
      refine x_iload (pc := 75) (x := x5) dX7_near_75 rfl ?_
      refine x_iadd (pc := 77) dX7_near_77 ?_
      replace hf := bd_s hf; obtain ⟨u78, i78, hf⟩ := hf
      replace hf := bd2_s hf; obtain ⟨v78, h78, e78, hf⟩ := hf
      refine x_cVi (pc := 78) (M' := mX6_read) (as := [.int (x2), .int (5 + x5)]) (st := []) (a := v70) (ci := 6) dX7_near_78 mo_X6_read lk_7_137 im_X6_read se_X6_read rfl ⟨Nat.le_of_ble_eq_true rfl, Nat.le_of_ble_eq_true rfl⟩ rfl (Nat.le_of_ble_eq_true rfl) rfl i78 (tm_X6_read e78) ?_
      refine x_istore (pc := 81) (ls' := [some (va_rf (x0)), some (.int (x1)), some (.int (x2)), some (.int (x3)), some (.int (x4)), some (.int (x5)), some (.int (v64)), some (.int (v78))]) dX7_near_81 (by decide) rfl ?_
      refine x_aload_n (pc := 83) (a := x0) dX7_near_83 rfl ?_
      refine x_iload (pc := 84) (x := v64) dX7_near_84 rfl ?_
      replace hf := bd_s hf; obtain ⟨u86, i86, hf⟩ := hf
      replace hf := bd2_s hf; obtain ⟨v86, h86, e86, hf⟩ := hf
      refine x_cVi (pc := 86) (M' := mX7_isCamp) (as := [.int (v64)]) (st := []) (a := x0) (ci := 7) dX7_near_86 mo_X7_isCamp lk_7_152 im_X7_isCamp se_X7_isCamp rfl ⟨Nat.le_of_ble_eq_true rfl, Nat.le_of_ble_eq_true rfl⟩ rfl (Nat.le_of_ble_eq_true rfl) rfl i86 (tm_X7_isCamp e86) ?_
      refine x_if_eq (pc := 89) (tgt := 132) (x := v86) dX7_near_89 rfl (fun hc => ?_) (fun hc => ?_)
      · replace hf := it_t hc hf
        refine x_iinc (pc := 132) (x := x5) (v := x5 + 1) (ls' := [some (va_rf (x0)), some (.int (x1)), some (.int (x2)), some (.int (x3)), some (.int (x4)), some (.int (x5 + 1)), some (.int (v64)), some (.int (v78))]) dX7_near_132 rfl rfl (by decide) rfl ?_
        refine x_goto (pc := 135) (tgt := 48) dX7_near_135 rfl ?_
        refine x_mask [true, true, true, true, true, true, false, false] rfl ?_
        exact ih hf
      · replace hf := it_f hc hf
        refine x_aload_n (pc := 92) (a := x0) dX7_near_92 rfl ?_
        refine x_iload (pc := 93) (x := v78) dX7_near_93 rfl ?_
        replace hf := bd_s hf; obtain ⟨u95, i95, hf⟩ := hf
        replace hf := bd2_s hf; obtain ⟨v95, h95, e95, hf⟩ := hf
        refine x_cVi (pc := 95) (M' := mX7_isCamp) (as := [.int (v78)]) (st := []) (a := x0) (ci := 7) dX7_near_95 mo_X7_isCamp lk_7_152 im_X7_isCamp se_X7_isCamp rfl ⟨Nat.le_of_ble_eq_true rfl, Nat.le_of_ble_eq_true rfl⟩ rfl (Nat.le_of_ble_eq_true rfl) rfl i95 (tm_X7_isCamp e95) ?_
        refine x_if_eq (pc := 98) (tgt := 132) (x := v95) dX7_near_98 rfl (fun hc => ?_) (fun hc => ?_)
        · replace hf := it_t hc hf
          refine x_iinc (pc := 132) (x := x5) (v := x5 + 1) (ls' := [some (va_rf (x0)), some (.int (x1)), some (.int (x2)), some (.int (x3)), some (.int (x4)), some (.int (x5 + 1)), some (.int (v64)), some (.int (v78))]) dX7_near_132 rfl rfl (by decide) rfl ?_
          refine x_goto (pc := 135) (tgt := 48) dX7_near_135 rfl ?_
          refine x_mask [true, true, true, true, true, true, false, false] rfl ?_
          exact ih hf
        · replace hf := it_f hc hf
          refine x_aload_n (pc := 101) (a := x0) dX7_near_101 rfl ?_
          replace hf := bd_s hf; obtain ⟨v102, e102, hf⟩ := hf
          refine x_getR (pc := 102) dX7_near_102 fl_7_10 e102 ?_
          replace hf := bd_s hf; obtain ⟨v105, e105, hf⟩ := hf
          refine x_getR (pc := 105) dX7_near_105 fl_7_76 e105 ?_
          refine x_iload (pc := 108) (x := v64) dX7_near_108 rfl ?_
          replace hf := bd_s hf; obtain ⟨v110, e110, hf⟩ := hf
          refine x_ldI (pc := 110) dX7_near_110 e110 ?_
          refine x_aload_n (pc := 111) (a := x0) dX7_near_111 rfl ?_
          replace hf := bd_s hf; obtain ⟨v112, e112, hf⟩ := hf
          refine x_getR (pc := 112) dX7_near_112 fl_7_10 e112 ?_
          replace hf := bd_s hf; obtain ⟨v115, e115, hf⟩ := hf
          refine x_getR (pc := 115) dX7_near_115 fl_7_76 e115 ?_
          refine x_iload (pc := 118) (x := v78) dX7_near_118 rfl ?_
          replace hf := bd_s hf; obtain ⟨v120, e120, hf⟩ := hf
          refine x_ldI (pc := 120) dX7_near_120 e120 ?_
          refine x_isub (pc := 121) dX7_near_121 ?_
          refine x_abs (pc := 122) dX7_near_122 lm_7_193 ma_abs_1 ma_0 ma_abs_2 (Nat.le_of_ble_eq_true rfl) (Nat.le_of_ble_eq_true rfl) ?_
          refine x_iload_n (pc := 125) (x := x3) dX7_near_125 rfl ?_
          refine x_icmp_gt (pc := 126) (tgt := 132) (x := (if 0 ≤ (v110 - v120) then (v110 - v120) else 0 - (v110 - v120))) (y := x3) dX7_near_126 rfl (fun hc => ?_) (fun hc => ?_)
          · replace hf := it_t hc hf
            refine x_iinc (pc := 132) (x := x5) (v := x5 + 1) (ls' := [some (va_rf (x0)), some (.int (x1)), some (.int (x2)), some (.int (x3)), some (.int (x4)), some (.int (x5 + 1)), some (.int (v64)), some (.int (v78))]) dX7_near_132 rfl rfl (by decide) rfl ?_
            refine x_goto (pc := 135) (tgt := 48) dX7_near_135 rfl ?_
            refine x_mask [true, true, true, true, true, true, false, false] rfl ?_
            exact ih hf
          · replace hf := it_f hc hf
            refine x_iinc (pc := 129) (x := x4) (v := x4 + 1) (ls' := [some (va_rf (x0)), some (.int (x1)), some (.int (x2)), some (.int (x3)), some (.int (x4 + 1)), some (.int (x5)), some (.int (v64)), some (.int (v78))]) dX7_near_129 rfl rfl (by decide) rfl ?_
            refine x_iinc (pc := 132) (x := x5) (v := x5 + 1) (ls' := [some (va_rf (x0)), some (.int (x1)), some (.int (x2)), some (.int (x3)), some (.int (x4 + 1)), some (.int (x5 + 1)), some (.int (v64)), some (.int (v78))]) dX7_near_132 rfl rfl (by decide) rfl ?_
            refine x_goto (pc := 135) (tgt := 48) dX7_near_135 rfl ?_
            refine x_mask [true, true, true, true, true, true, false, false] rfl ?_
            exact ih hf

def f_X7_near (h : AH) (x0 : Option Nat) (x1 : Int32) (x2 : Int32) (x3 : Int32) : Option (Int32 × AH) :=
  bd (isO h x0 7) fun _ =>
  bd2 (f_X7_isTrip h x0 x1) fun v2 h2 =>
  if v2 = 0 then (
    bd (isO h2 x0 7) fun _ =>
    bd2 (f_X7_finding h2 x0 (-100001)) fun v26 h26 =>
    some (v26, h26)
  ) else (
    bd (isO h2 x0 7) fun _ =>
    bd2 (f_X7_isTrip h2 x0 x2) fun v10 h10 =>
    if v10 = 0 then (
      bd (isO h10 x0 7) fun _ =>
      bd2 (f_X7_finding h10 x0 (-100001)) fun v26 h26 =>
      some (v26, h26)
    ) else (
      bd2 (f_X7_isMile h10 x3) fun v17 h17 =>
      if ¬ v17 = 0 then (
        if ¬ x1 = x2 then (
          g_X7_near_48  NN h17 x0 x1 x2 x3 0 0
        ) else (
          bd (isO h17 x0 7) fun _ =>
          bd2 (f_X7_finding h17 x0 (-100003)) fun v38 h38 =>
          some (v38, h38)
        )
      ) else (
        bd (isO h17 x0 7) fun _ =>
        bd2 (f_X7_finding h17 x0 (-100001)) fun v26 h26 =>
        some (v26, h26)
      )
    )
  )

set_option maxRecDepth 100000 in
set_option maxHeartbeats 4000000 in
theorem tm_X7_near {g : GT} {h : AH} {x0 : Option Nat} {x1 : Int32} {x2 : Int32} {x3 : Int32} {r : Int32} {h' : AH} (hf : f_X7_near h x0 x1 x2 x3 = some (r, h')) : Xm g mX7_near [va_rf (x0), .int (x1), .int (x2), .int (x3)] h (some (.int r)) h' := by
  refine xm_of mo_X7_near (Nat.le_of_ble_eq_true rfl) (ls := [some (va_rf (x0)), some (.int (x1)), some (.int (x2)), some (.int (x3)), none, none, none, none]) rfl ?_
  rw [f_X7_near] at hf
  refine x_aload_n (pc := 0) (a := x0) dX7_near_0 rfl ?_
  refine x_iload_n (pc := 1) (x := x1) dX7_near_1 rfl ?_
  replace hf := bd_s hf; obtain ⟨u2, i2, hf⟩ := hf
  replace hf := bd2_s hf; obtain ⟨v2, h2, e2, hf⟩ := hf
  refine x_cVi (pc := 2) (M' := mX7_isTrip) (as := [.int (x1)]) (st := []) (a := x0) (ci := 7) dX7_near_2 mo_X7_isTrip lk_7_134 im_X7_isTrip se_X7_isTrip rfl ⟨Nat.le_of_ble_eq_true rfl, Nat.le_of_ble_eq_true rfl⟩ rfl (Nat.le_of_ble_eq_true rfl) rfl i2 (tm_X7_isTrip e2) ?_
  refine x_if_eq (pc := 5) (tgt := 23) (x := v2) dX7_near_5 rfl (fun hc => ?_) (fun hc => ?_)
  · replace hf := it_t hc hf
    refine x_aload_n (pc := 23) (a := x0) dX7_near_23 rfl ?_
    refine x_ldc (pc := 24) (v := -100001) dX7_near_24 kc_7_59 ?_
    replace hf := bd_s hf; obtain ⟨u26, i26, hf⟩ := hf
    replace hf := bd2_s hf; obtain ⟨v26, h26, e26, hf⟩ := hf
    refine x_cVi (pc := 26) (M' := mX7_finding) (as := [.int ((-100001))]) (st := []) (a := x0) (ci := 7) dX7_near_26 mo_X7_finding lk_7_60 im_X7_finding se_X7_finding rfl ⟨Nat.le_of_ble_eq_true rfl, Nat.le_of_ble_eq_true rfl⟩ rfl (Nat.le_of_ble_eq_true rfl) rfl i26 (tm_X7_finding e26) ?_
    obtain ⟨rfl, rfl⟩ := ret_s hf
    exact x_reti (pc := 29) dX7_near_29 rfl
  · replace hf := it_f hc hf
    refine x_aload_n (pc := 8) (a := x0) dX7_near_8 rfl ?_
    refine x_iload_n (pc := 9) (x := x2) dX7_near_9 rfl ?_
    replace hf := bd_s hf; obtain ⟨u10, i10, hf⟩ := hf
    replace hf := bd2_s hf; obtain ⟨v10, h10, e10, hf⟩ := hf
    refine x_cVi (pc := 10) (M' := mX7_isTrip) (as := [.int (x2)]) (st := []) (a := x0) (ci := 7) dX7_near_10 mo_X7_isTrip lk_7_134 im_X7_isTrip se_X7_isTrip rfl ⟨Nat.le_of_ble_eq_true rfl, Nat.le_of_ble_eq_true rfl⟩ rfl (Nat.le_of_ble_eq_true rfl) rfl i10 (tm_X7_isTrip e10) ?_
    refine x_if_eq (pc := 13) (tgt := 23) (x := v10) dX7_near_13 rfl (fun hc => ?_) (fun hc => ?_)
    · replace hf := it_t hc hf
      refine x_aload_n (pc := 23) (a := x0) dX7_near_23 rfl ?_
      refine x_ldc (pc := 24) (v := -100001) dX7_near_24 kc_7_59 ?_
      replace hf := bd_s hf; obtain ⟨u26, i26, hf⟩ := hf
      replace hf := bd2_s hf; obtain ⟨v26, h26, e26, hf⟩ := hf
      refine x_cVi (pc := 26) (M' := mX7_finding) (as := [.int ((-100001))]) (st := []) (a := x0) (ci := 7) dX7_near_26 mo_X7_finding lk_7_60 im_X7_finding se_X7_finding rfl ⟨Nat.le_of_ble_eq_true rfl, Nat.le_of_ble_eq_true rfl⟩ rfl (Nat.le_of_ble_eq_true rfl) rfl i26 (tm_X7_finding e26) ?_
      obtain ⟨rfl, rfl⟩ := ret_s hf
      exact x_reti (pc := 29) dX7_near_29 rfl
    · replace hf := it_f hc hf
      refine x_iload_n (pc := 16) (x := x3) dX7_near_16 rfl ?_
      replace hf := bd2_s hf; obtain ⟨v17, h17, e17, hf⟩ := hf
      refine x_cSi (pc := 17) (M' := mX7_isMile) (as := [.int (x3)]) (st := []) dX7_near_17 mo_X7_isMile lk_7_97 sm_X7_isMile ⟨Nat.le_of_ble_eq_true rfl, Nat.le_of_ble_eq_true rfl⟩ rfl (Nat.le_of_ble_eq_true rfl) rfl (tm_X7_isMile e17) ?_
      refine x_if_ne (pc := 20) (tgt := 30) (x := v17) dX7_near_20 rfl (fun hc => ?_) (fun hc => ?_)
      · replace hf := it_t hc hf
        refine x_iload_n (pc := 30) (x := x1) dX7_near_30 rfl ?_
        refine x_iload_n (pc := 31) (x := x2) dX7_near_31 rfl ?_
        refine x_icmp_ne (pc := 32) (tgt := 42) (x := x1) (y := x2) dX7_near_32 rfl (fun hc => ?_) (fun hc => ?_)
        · replace hf := it_t hc hf
          refine x_iconst (pc := 42) (v := 0) dX7_near_42 (by decide) ?_
          refine x_istore (pc := 43) (ls' := [some (va_rf (x0)), some (.int (x1)), some (.int (x2)), some (.int (x3)), some (.int (0)), none, none, none]) dX7_near_43 (by decide) rfl ?_
          refine x_iconst (pc := 45) (v := 0) dX7_near_45 (by decide) ?_
          refine x_istore (pc := 46) (ls' := [some (va_rf (x0)), some (.int (x1)), some (.int (x2)), some (.int (x3)), some (.int (0)), some (.int (0)), none, none]) dX7_near_46 (by decide) rfl ?_
          exact tg_X7_near_48  NN hf
        · replace hf := it_n hc hf
          refine x_aload_n (pc := 35) (a := x0) dX7_near_35 rfl ?_
          refine x_ldc (pc := 36) (v := -100003) dX7_near_36 kc_7_87 ?_
          replace hf := bd_s hf; obtain ⟨u38, i38, hf⟩ := hf
          replace hf := bd2_s hf; obtain ⟨v38, h38, e38, hf⟩ := hf
          refine x_cVi (pc := 38) (M' := mX7_finding) (as := [.int ((-100003))]) (st := []) (a := x0) (ci := 7) dX7_near_38 mo_X7_finding lk_7_60 im_X7_finding se_X7_finding rfl ⟨Nat.le_of_ble_eq_true rfl, Nat.le_of_ble_eq_true rfl⟩ rfl (Nat.le_of_ble_eq_true rfl) rfl i38 (tm_X7_finding e38) ?_
          obtain ⟨rfl, rfl⟩ := ret_s hf
          exact x_reti (pc := 41) dX7_near_41 rfl
      · replace hf := it_n hc hf
        refine x_aload_n (pc := 23) (a := x0) dX7_near_23 rfl ?_
        refine x_ldc (pc := 24) (v := -100001) dX7_near_24 kc_7_59 ?_
        replace hf := bd_s hf; obtain ⟨u26, i26, hf⟩ := hf
        replace hf := bd2_s hf; obtain ⟨v26, h26, e26, hf⟩ := hf
        refine x_cVi (pc := 26) (M' := mX7_finding) (as := [.int ((-100001))]) (st := []) (a := x0) (ci := 7) dX7_near_26 mo_X7_finding lk_7_60 im_X7_finding se_X7_finding rfl ⟨Nat.le_of_ble_eq_true rfl, Nat.le_of_ble_eq_true rfl⟩ rfl (Nat.le_of_ble_eq_true rfl) rfl i26 (tm_X7_finding e26) ?_
        obtain ⟨rfl, rfl⟩ := ret_s hf
        exact x_reti (pc := 29) dX7_near_29 rfl

def j_X7_night_102 (h : AH) (x0 : Option Nat) (x1 : Int32) (x2 : Int32) (x3 : Int32) : Option (Int32 × AH) :=
  bd (gR h x0 7 1) fun v104 =>
  bd (gR h v104 6 1) fun v107 =>
  bd (gR h x0 7 1) fun v111 =>
  bd (isO h v111 6) fun _ =>
  bd2 (f_X6_index h v111 x1 (5 + x2)) fun v118 h118 =>
  bd (isO h118 x0 7) fun _ =>
  bd2 (f_X7_change h118 x0 v107 v118 x3) fun v122 h122 =>
  some (v122, h122)

set_option maxRecDepth 100000 in
set_option maxHeartbeats 4000000 in
theorem tj_X7_night_102 {g : GT} {h : AH} {x0 : Option Nat} {x1 : Int32} {x2 : Int32} {x3 : Int32} {r : Int32} {h' : AH} (hf : j_X7_night_102 h x0 x1 x2 x3 = some (r, h')) : Xj g mX7_night h 102 [some (va_rf (x0)), some (.int (x1)), some (.int (x2)), some (.int (x3)), none] [] (some (.int r)) h' := by
  rw [j_X7_night_102] at hf
  refine x_aload_n (pc := 102) (a := x0) dX7_night_102 rfl ?_
  refine x_aload_n (pc := 103) (a := x0) dX7_night_103 rfl ?_
  replace hf := bd_s hf; obtain ⟨v104, e104, hf⟩ := hf
  refine x_getR (pc := 104) dX7_night_104 fl_7_19 e104 ?_
  replace hf := bd_s hf; obtain ⟨v107, e107, hf⟩ := hf
  refine x_getR (pc := 107) dX7_night_107 fl_7_159 e107 ?_
  refine x_aload_n (pc := 110) (a := x0) dX7_night_110 rfl ?_
  replace hf := bd_s hf; obtain ⟨v111, e111, hf⟩ := hf
  refine x_getR (pc := 111) dX7_night_111 fl_7_19 e111 ?_
  refine x_iload_n (pc := 114) (x := x1) dX7_night_114 rfl ?_
  refine x_iconst (pc := 115) (v := 5) dX7_night_115 (by decide) ?_
  refine x_iload_n (pc := 116) (x := x2) dX7_night_116 rfl ?_
  refine x_iadd (pc := 117) dX7_night_117 ?_
  replace hf := bd_s hf; obtain ⟨u118, i118, hf⟩ := hf
  replace hf := bd2_s hf; obtain ⟨v118, h118, e118, hf⟩ := hf
  refine x_cVi (pc := 118) (M' := mX6_index) (as := [.int (x1), .int (5 + x2)]) (st := [va_rf (v107), va_rf (x0)]) (a := v111) (ci := 6) dX7_night_118 mo_X6_index lk_7_162 im_X6_index se_X6_index rfl ⟨Nat.le_of_ble_eq_true rfl, Nat.le_of_ble_eq_true rfl⟩ rfl (Nat.le_of_ble_eq_true rfl) rfl i118 (tm_X6_index e118) ?_
  refine x_iload_n (pc := 121) (x := x3) dX7_night_121 rfl ?_
  replace hf := bd_s hf; obtain ⟨u122, i122, hf⟩ := hf
  replace hf := bd2_s hf; obtain ⟨v122, h122, e122, hf⟩ := hf
  refine x_cVi (pc := 122) (M' := mX7_change) (as := [va_rf (v107), .int (v118), .int (x3)]) (st := []) (a := x0) (ci := 7) dX7_night_122 mo_X7_change lk_7_68 im_X7_change se_X7_change rfl ⟨Nat.le_of_ble_eq_true rfl, Nat.le_of_ble_eq_true rfl⟩ rfl (Nat.le_of_ble_eq_true rfl) rfl i122 (tm_X7_change e122) ?_
  obtain ⟨rfl, rfl⟩ := ret_s hf
  exact x_reti (pc := 125) dX7_night_125 rfl

def j_X7_night_70 (h : AH) (x0 : Option Nat) (x1 : Int32) (x2 : Int32) (x3 : Int32) : Option (Int32 × AH) :=
  bd (gR h x0 7 0) fun v71 =>
  bd (gR h v71 4 4) fun v74 =>
  bd (ldZ h v74 x3) fun v78 =>
  if v78 = 0 then (
    j_X7_night_102  h x0 x1 x2 x3
  ) else (
    bd (gR h x0 7 1) fun v83 =>
    bd (isO h v83 6) fun _ =>
    bd2 (f_X6_read h v83 x1 0) fun v88 h88 =>
    if ¬ v88 = 2 then (
      j_X7_night_102  h88 x0 x1 x2 x3
    ) else (
      bd (isO h88 x0 7) fun _ =>
      bd2 (f_X7_finding h88 x0 (-100004)) fun v98 h98 =>
      some (v98, h98)
    )
  )

set_option maxRecDepth 100000 in
set_option maxHeartbeats 4000000 in
theorem tj_X7_night_70 {g : GT} {h : AH} {x0 : Option Nat} {x1 : Int32} {x2 : Int32} {x3 : Int32} {r : Int32} {h' : AH} (hf : j_X7_night_70 h x0 x1 x2 x3 = some (r, h')) : Xj g mX7_night h 70 [some (va_rf (x0)), some (.int (x1)), some (.int (x2)), some (.int (x3)), none] [] (some (.int r)) h' := by
  rw [j_X7_night_70] at hf
  refine x_aload_n (pc := 70) (a := x0) dX7_night_70 rfl ?_
  replace hf := bd_s hf; obtain ⟨v71, e71, hf⟩ := hf
  refine x_getR (pc := 71) dX7_night_71 fl_7_10 e71 ?_
  replace hf := bd_s hf; obtain ⟨v74, e74, hf⟩ := hf
  refine x_getR (pc := 74) dX7_night_74 fl_7_79 e74 ?_
  refine x_iload_n (pc := 77) (x := x3) dX7_night_77 rfl ?_
  replace hf := bd_s hf; obtain ⟨v78, e78, hf⟩ := hf
  refine x_ldZ (pc := 78) dX7_night_78 e78 ?_
  refine x_if_eq (pc := 79) (tgt := 102) (x := v78) dX7_night_79 rfl (fun hc => ?_) (fun hc => ?_)
  · replace hf := it_t hc hf
    exact tj_X7_night_102  hf
  · replace hf := it_f hc hf
    refine x_aload_n (pc := 82) (a := x0) dX7_night_82 rfl ?_
    replace hf := bd_s hf; obtain ⟨v83, e83, hf⟩ := hf
    refine x_getR (pc := 83) dX7_night_83 fl_7_19 e83 ?_
    refine x_iload_n (pc := 86) (x := x1) dX7_night_86 rfl ?_
    refine x_iconst (pc := 87) (v := 0) dX7_night_87 (by decide) ?_
    replace hf := bd_s hf; obtain ⟨u88, i88, hf⟩ := hf
    replace hf := bd2_s hf; obtain ⟨v88, h88, e88, hf⟩ := hf
    refine x_cVi (pc := 88) (M' := mX6_read) (as := [.int (x1), .int (0)]) (st := []) (a := v83) (ci := 6) dX7_night_88 mo_X6_read lk_7_137 im_X6_read se_X6_read rfl ⟨Nat.le_of_ble_eq_true rfl, Nat.le_of_ble_eq_true rfl⟩ rfl (Nat.le_of_ble_eq_true rfl) rfl i88 (tm_X6_read e88) ?_
    refine x_iconst (pc := 91) (v := 2) dX7_night_91 (by decide) ?_
    refine x_icmp_ne (pc := 92) (tgt := 102) (x := v88) (y := 2) dX7_night_92 rfl (fun hc => ?_) (fun hc => ?_)
    · replace hf := it_t hc hf
      exact tj_X7_night_102  hf
    · replace hf := it_n hc hf
      refine x_aload_n (pc := 95) (a := x0) dX7_night_95 rfl ?_
      refine x_ldc (pc := 96) (v := -100004) dX7_night_96 kc_7_144 ?_
      replace hf := bd_s hf; obtain ⟨u98, i98, hf⟩ := hf
      replace hf := bd2_s hf; obtain ⟨v98, h98, e98, hf⟩ := hf
      refine x_cVi (pc := 98) (M' := mX7_finding) (as := [.int ((-100004))]) (st := []) (a := x0) (ci := 7) dX7_night_98 mo_X7_finding lk_7_60 im_X7_finding se_X7_finding rfl ⟨Nat.le_of_ble_eq_true rfl, Nat.le_of_ble_eq_true rfl⟩ rfl (Nat.le_of_ble_eq_true rfl) rfl i98 (tm_X7_finding e98) ?_
      obtain ⟨rfl, rfl⟩ := ret_s hf
      exact x_reti (pc := 101) dX7_night_101 rfl

def j_X7_night_35 (h : AH) (x0 : Option Nat) (x1 : Int32) (x2 : Int32) (x3 : Int32) : Option (Int32 × AH) :=
  if x3 = (-1) then (
    j_X7_night_102  h x0 x1 x2 x3
  ) else (
    bd (gR h x0 7 1) fun v41 =>
    bd (isO h v41 6) fun _ =>
    bd2 (f_X6_guest h v41 x3 x2) fun v46 h46 =>
    if v46 = (-1) then (
      j_X7_night_70  h46 x0 x1 x2 x3
    ) else (
      if v46 = x1 then (
        j_X7_night_70  h46 x0 x1 x2 x3
      ) else (
        bd (isO h46 x0 7) fun _ =>
        bd2 (f_X7_finding h46 x0 (-100007)) fun v66 h66 =>
        some (v66, h66)
      )
    )
  )

set_option maxRecDepth 100000 in
set_option maxHeartbeats 4000000 in
theorem tj_X7_night_35 {g : GT} {h : AH} {x0 : Option Nat} {x1 : Int32} {x2 : Int32} {x3 : Int32} {r : Int32} {h' : AH} (hf : j_X7_night_35 h x0 x1 x2 x3 = some (r, h')) : Xj g mX7_night h 35 [some (va_rf (x0)), some (.int (x1)), some (.int (x2)), some (.int (x3)), none] [] (some (.int r)) h' := by
  rw [j_X7_night_35] at hf
  refine x_iload_n (pc := 35) (x := x3) dX7_night_35 rfl ?_
  refine x_iconst (pc := 36) (v := -1) dX7_night_36 (by decide) ?_
  refine x_icmp_eq (pc := 37) (tgt := 102) (x := x3) (y := (-1)) dX7_night_37 rfl (fun hc => ?_) (fun hc => ?_)
  · replace hf := it_t hc hf
    exact tj_X7_night_102  hf
  · replace hf := it_f hc hf
    refine x_aload_n (pc := 40) (a := x0) dX7_night_40 rfl ?_
    replace hf := bd_s hf; obtain ⟨v41, e41, hf⟩ := hf
    refine x_getR (pc := 41) dX7_night_41 fl_7_19 e41 ?_
    refine x_iload_n (pc := 44) (x := x3) dX7_night_44 rfl ?_
    refine x_iload_n (pc := 45) (x := x2) dX7_night_45 rfl ?_
    replace hf := bd_s hf; obtain ⟨u46, i46, hf⟩ := hf
    replace hf := bd2_s hf; obtain ⟨v46, h46, e46, hf⟩ := hf
    refine x_cVi (pc := 46) (M' := mX6_guest) (as := [.int (x3), .int (x2)]) (st := []) (a := v41) (ci := 6) dX7_night_46 mo_X6_guest lk_7_155 im_X6_guest se_X6_guest rfl ⟨Nat.le_of_ble_eq_true rfl, Nat.le_of_ble_eq_true rfl⟩ rfl (Nat.le_of_ble_eq_true rfl) rfl i46 (tm_X6_guest e46) ?_
    refine x_istore (pc := 49) (ls' := [some (va_rf (x0)), some (.int (x1)), some (.int (x2)), some (.int (x3)), some (.int (v46))]) dX7_night_49 (by decide) rfl ?_
    refine x_iload (pc := 51) (x := v46) dX7_night_51 rfl ?_
    refine x_iconst (pc := 53) (v := -1) dX7_night_53 (by decide) ?_
    refine x_icmp_eq (pc := 54) (tgt := 70) (x := v46) (y := (-1)) dX7_night_54 rfl (fun hc => ?_) (fun hc => ?_)
    · replace hf := it_t hc hf
      refine x_mask [true, true, true, true, false] rfl ?_
      exact tj_X7_night_70  hf
    · replace hf := it_f hc hf
      refine x_iload (pc := 57) (x := v46) dX7_night_57 rfl ?_
      refine x_iload_n (pc := 59) (x := x1) dX7_night_59 rfl ?_
      refine x_icmp_eq (pc := 60) (tgt := 70) (x := v46) (y := x1) dX7_night_60 rfl (fun hc => ?_) (fun hc => ?_)
      · replace hf := it_t hc hf
        refine x_mask [true, true, true, true, false] rfl ?_
        exact tj_X7_night_70  hf
      · replace hf := it_f hc hf
        refine x_aload_n (pc := 63) (a := x0) dX7_night_63 rfl ?_
        refine x_ldc (pc := 64) (v := -100007) dX7_night_64 kc_7_158 ?_
        replace hf := bd_s hf; obtain ⟨u66, i66, hf⟩ := hf
        replace hf := bd2_s hf; obtain ⟨v66, h66, e66, hf⟩ := hf
        refine x_cVi (pc := 66) (M' := mX7_finding) (as := [.int ((-100007))]) (st := []) (a := x0) (ci := 7) dX7_night_66 mo_X7_finding lk_7_60 im_X7_finding se_X7_finding rfl ⟨Nat.le_of_ble_eq_true rfl, Nat.le_of_ble_eq_true rfl⟩ rfl (Nat.le_of_ble_eq_true rfl) rfl i66 (tm_X7_finding e66) ?_
        obtain ⟨rfl, rfl⟩ := ret_s hf
        exact x_reti (pc := 69) dX7_night_69 rfl

def f_X7_night (h : AH) (x0 : Option Nat) (x1 : Int32) (x2 : Int32) (x3 : Int32) : Option (Int32 × AH) :=
  bd (isO h x0 7) fun _ =>
  bd2 (f_X7_isTrip h x0 x1) fun v2 h2 =>
  if v2 = 0 then (
    bd (isO h2 x0 7) fun _ =>
    bd2 (f_X7_finding h2 x0 (-100001)) fun v31 h31 =>
    some (v31, h31)
  ) else (
    bd2 (f_X7_isDay h2 x2) fun v9 h9 =>
    if v9 = 0 then (
      bd (isO h9 x0 7) fun _ =>
      bd2 (f_X7_finding h9 x0 (-100001)) fun v31 h31 =>
      some (v31, h31)
    ) else (
      if x3 = (-1) then (
        j_X7_night_35  h9 x0 x1 x2 x3
      ) else (
        bd (isO h9 x0 7) fun _ =>
        bd2 (f_X7_isCamp h9 x0 x3) fun v22 h22 =>
        if ¬ v22 = 0 then (
          j_X7_night_35  h22 x0 x1 x2 x3
        ) else (
          bd (isO h22 x0 7) fun _ =>
          bd2 (f_X7_finding h22 x0 (-100001)) fun v31 h31 =>
          some (v31, h31)
        )
      )
    )
  )

set_option maxRecDepth 100000 in
set_option maxHeartbeats 4000000 in
theorem tm_X7_night {g : GT} {h : AH} {x0 : Option Nat} {x1 : Int32} {x2 : Int32} {x3 : Int32} {r : Int32} {h' : AH} (hf : f_X7_night h x0 x1 x2 x3 = some (r, h')) : Xm g mX7_night [va_rf (x0), .int (x1), .int (x2), .int (x3)] h (some (.int r)) h' := by
  refine xm_of mo_X7_night (Nat.le_of_ble_eq_true rfl) (ls := [some (va_rf (x0)), some (.int (x1)), some (.int (x2)), some (.int (x3)), none]) rfl ?_
  rw [f_X7_night] at hf
  refine x_aload_n (pc := 0) (a := x0) dX7_night_0 rfl ?_
  refine x_iload_n (pc := 1) (x := x1) dX7_night_1 rfl ?_
  replace hf := bd_s hf; obtain ⟨u2, i2, hf⟩ := hf
  replace hf := bd2_s hf; obtain ⟨v2, h2, e2, hf⟩ := hf
  refine x_cVi (pc := 2) (M' := mX7_isTrip) (as := [.int (x1)]) (st := []) (a := x0) (ci := 7) dX7_night_2 mo_X7_isTrip lk_7_134 im_X7_isTrip se_X7_isTrip rfl ⟨Nat.le_of_ble_eq_true rfl, Nat.le_of_ble_eq_true rfl⟩ rfl (Nat.le_of_ble_eq_true rfl) rfl i2 (tm_X7_isTrip e2) ?_
  refine x_if_eq (pc := 5) (tgt := 28) (x := v2) dX7_night_5 rfl (fun hc => ?_) (fun hc => ?_)
  · replace hf := it_t hc hf
    refine x_aload_n (pc := 28) (a := x0) dX7_night_28 rfl ?_
    refine x_ldc (pc := 29) (v := -100001) dX7_night_29 kc_7_59 ?_
    replace hf := bd_s hf; obtain ⟨u31, i31, hf⟩ := hf
    replace hf := bd2_s hf; obtain ⟨v31, h31, e31, hf⟩ := hf
    refine x_cVi (pc := 31) (M' := mX7_finding) (as := [.int ((-100001))]) (st := []) (a := x0) (ci := 7) dX7_night_31 mo_X7_finding lk_7_60 im_X7_finding se_X7_finding rfl ⟨Nat.le_of_ble_eq_true rfl, Nat.le_of_ble_eq_true rfl⟩ rfl (Nat.le_of_ble_eq_true rfl) rfl i31 (tm_X7_finding e31) ?_
    obtain ⟨rfl, rfl⟩ := ret_s hf
    exact x_reti (pc := 34) dX7_night_34 rfl
  · replace hf := it_f hc hf
    refine x_iload_n (pc := 8) (x := x2) dX7_night_8 rfl ?_
    replace hf := bd2_s hf; obtain ⟨v9, h9, e9, hf⟩ := hf
    refine x_cSi (pc := 9) (M' := mX7_isDay) (as := [.int (x2)]) (st := []) dX7_night_9 mo_X7_isDay lk_7_103 sm_X7_isDay ⟨Nat.le_of_ble_eq_true rfl, Nat.le_of_ble_eq_true rfl⟩ rfl (Nat.le_of_ble_eq_true rfl) rfl (tm_X7_isDay e9) ?_
    refine x_if_eq (pc := 12) (tgt := 28) (x := v9) dX7_night_12 rfl (fun hc => ?_) (fun hc => ?_)
    · replace hf := it_t hc hf
      refine x_aload_n (pc := 28) (a := x0) dX7_night_28 rfl ?_
      refine x_ldc (pc := 29) (v := -100001) dX7_night_29 kc_7_59 ?_
      replace hf := bd_s hf; obtain ⟨u31, i31, hf⟩ := hf
      replace hf := bd2_s hf; obtain ⟨v31, h31, e31, hf⟩ := hf
      refine x_cVi (pc := 31) (M' := mX7_finding) (as := [.int ((-100001))]) (st := []) (a := x0) (ci := 7) dX7_night_31 mo_X7_finding lk_7_60 im_X7_finding se_X7_finding rfl ⟨Nat.le_of_ble_eq_true rfl, Nat.le_of_ble_eq_true rfl⟩ rfl (Nat.le_of_ble_eq_true rfl) rfl i31 (tm_X7_finding e31) ?_
      obtain ⟨rfl, rfl⟩ := ret_s hf
      exact x_reti (pc := 34) dX7_night_34 rfl
    · replace hf := it_f hc hf
      refine x_iload_n (pc := 15) (x := x3) dX7_night_15 rfl ?_
      refine x_iconst (pc := 16) (v := -1) dX7_night_16 (by decide) ?_
      refine x_icmp_eq (pc := 17) (tgt := 35) (x := x3) (y := (-1)) dX7_night_17 rfl (fun hc => ?_) (fun hc => ?_)
      · replace hf := it_t hc hf
        exact tj_X7_night_35  hf
      · replace hf := it_f hc hf
        refine x_aload_n (pc := 20) (a := x0) dX7_night_20 rfl ?_
        refine x_iload_n (pc := 21) (x := x3) dX7_night_21 rfl ?_
        replace hf := bd_s hf; obtain ⟨u22, i22, hf⟩ := hf
        replace hf := bd2_s hf; obtain ⟨v22, h22, e22, hf⟩ := hf
        refine x_cVi (pc := 22) (M' := mX7_isCamp) (as := [.int (x3)]) (st := []) (a := x0) (ci := 7) dX7_night_22 mo_X7_isCamp lk_7_152 im_X7_isCamp se_X7_isCamp rfl ⟨Nat.le_of_ble_eq_true rfl, Nat.le_of_ble_eq_true rfl⟩ rfl (Nat.le_of_ble_eq_true rfl) rfl i22 (tm_X7_isCamp e22) ?_
        refine x_if_ne (pc := 25) (tgt := 35) (x := v22) dX7_night_25 rfl (fun hc => ?_) (fun hc => ?_)
        · replace hf := it_t hc hf
          exact tj_X7_night_35  hf
        · replace hf := it_n hc hf
          refine x_aload_n (pc := 28) (a := x0) dX7_night_28 rfl ?_
          refine x_ldc (pc := 29) (v := -100001) dX7_night_29 kc_7_59 ?_
          replace hf := bd_s hf; obtain ⟨u31, i31, hf⟩ := hf
          replace hf := bd2_s hf; obtain ⟨v31, h31, e31, hf⟩ := hf
          refine x_cVi (pc := 31) (M' := mX7_finding) (as := [.int ((-100001))]) (st := []) (a := x0) (ci := 7) dX7_night_31 mo_X7_finding lk_7_60 im_X7_finding se_X7_finding rfl ⟨Nat.le_of_ble_eq_true rfl, Nat.le_of_ble_eq_true rfl⟩ rfl (Nat.le_of_ble_eq_true rfl) rfl i31 (tm_X7_finding e31) ?_
          obtain ⟨rfl, rfl⟩ := ret_s hf
          exact x_reti (pc := 34) dX7_night_34 rfl

def f_X7_of (h : AH) (x0 : Option Nat) (x1 : Int32) (x2 : Int32) : Option (Int32 × AH) :=
  bd (isO h x0 7) fun _ =>
  bd2 (f_X7_isTrip h x0 x1) fun v2 h2 =>
  if v2 = 0 then (
    bd (isO h2 x0 7) fun _ =>
    bd2 (f_X7_finding h2 x0 (-100001)) fun v20 h20 =>
    some (v20, h20)
  ) else (
    bd2 (f_X7_within h2 x2 0 5) fun v11 h11 =>
    if ¬ v11 = 0 then (
      if 5 ≤ x2 then (
        bd (gR h11 x0 7 1) fun v42 =>
        bd (isO h11 v42 6) fun _ =>
        bd2 (f_X6_nightsOf h11 v42 x1) fun v46 h46 =>
        some (v46, h46)
      ) else (
        bd (gR h11 x0 7 1) fun v30 =>
        bd (isO h11 v30 6) fun _ =>
        bd2 (f_X6_read h11 v30 x1 x2) fun v35 h35 =>
        some (v35, h35)
      )
    ) else (
      bd (isO h11 x0 7) fun _ =>
      bd2 (f_X7_finding h11 x0 (-100001)) fun v20 h20 =>
      some (v20, h20)
    )
  )

set_option maxRecDepth 100000 in
set_option maxHeartbeats 4000000 in
theorem tm_X7_of {g : GT} {h : AH} {x0 : Option Nat} {x1 : Int32} {x2 : Int32} {r : Int32} {h' : AH} (hf : f_X7_of h x0 x1 x2 = some (r, h')) : Xm g mX7_of [va_rf (x0), .int (x1), .int (x2)] h (some (.int r)) h' := by
  refine xm_of mo_X7_of (Nat.le_of_ble_eq_true rfl) (ls := [some (va_rf (x0)), some (.int (x1)), some (.int (x2))]) rfl ?_
  rw [f_X7_of] at hf
  refine x_aload_n (pc := 0) (a := x0) dX7_of_0 rfl ?_
  refine x_iload_n (pc := 1) (x := x1) dX7_of_1 rfl ?_
  replace hf := bd_s hf; obtain ⟨u2, i2, hf⟩ := hf
  replace hf := bd2_s hf; obtain ⟨v2, h2, e2, hf⟩ := hf
  refine x_cVi (pc := 2) (M' := mX7_isTrip) (as := [.int (x1)]) (st := []) (a := x0) (ci := 7) dX7_of_2 mo_X7_isTrip lk_7_134 im_X7_isTrip se_X7_isTrip rfl ⟨Nat.le_of_ble_eq_true rfl, Nat.le_of_ble_eq_true rfl⟩ rfl (Nat.le_of_ble_eq_true rfl) rfl i2 (tm_X7_isTrip e2) ?_
  refine x_if_eq (pc := 5) (tgt := 17) (x := v2) dX7_of_5 rfl (fun hc => ?_) (fun hc => ?_)
  · replace hf := it_t hc hf
    refine x_aload_n (pc := 17) (a := x0) dX7_of_17 rfl ?_
    refine x_ldc (pc := 18) (v := -100001) dX7_of_18 kc_7_59 ?_
    replace hf := bd_s hf; obtain ⟨u20, i20, hf⟩ := hf
    replace hf := bd2_s hf; obtain ⟨v20, h20, e20, hf⟩ := hf
    refine x_cVi (pc := 20) (M' := mX7_finding) (as := [.int ((-100001))]) (st := []) (a := x0) (ci := 7) dX7_of_20 mo_X7_finding lk_7_60 im_X7_finding se_X7_finding rfl ⟨Nat.le_of_ble_eq_true rfl, Nat.le_of_ble_eq_true rfl⟩ rfl (Nat.le_of_ble_eq_true rfl) rfl i20 (tm_X7_finding e20) ?_
    obtain ⟨rfl, rfl⟩ := ret_s hf
    exact x_reti (pc := 23) dX7_of_23 rfl
  · replace hf := it_f hc hf
    refine x_iload_n (pc := 8) (x := x2) dX7_of_8 rfl ?_
    refine x_iconst (pc := 9) (v := 0) dX7_of_9 (by decide) ?_
    refine x_iconst (pc := 10) (v := 5) dX7_of_10 (by decide) ?_
    replace hf := bd2_s hf; obtain ⟨v11, h11, e11, hf⟩ := hf
    refine x_cSi (pc := 11) (M' := mX7_within) (as := [.int (x2), .int (0), .int (5)]) (st := []) dX7_of_11 mo_X7_within lk_7_55 sm_X7_within ⟨Nat.le_of_ble_eq_true rfl, Nat.le_of_ble_eq_true rfl⟩ rfl (Nat.le_of_ble_eq_true rfl) rfl (tm_X7_within e11) ?_
    refine x_if_ne (pc := 14) (tgt := 24) (x := v11) dX7_of_14 rfl (fun hc => ?_) (fun hc => ?_)
    · replace hf := it_t hc hf
      refine x_iload_n (pc := 24) (x := x2) dX7_of_24 rfl ?_
      refine x_iconst (pc := 25) (v := 5) dX7_of_25 (by decide) ?_
      refine x_icmp_ge (pc := 26) (tgt := 41) (x := x2) (y := 5) dX7_of_26 rfl (fun hc => ?_) (fun hc => ?_)
      · replace hf := it_t hc hf
        refine x_aload_n (pc := 41) (a := x0) dX7_of_41 rfl ?_
        replace hf := bd_s hf; obtain ⟨v42, e42, hf⟩ := hf
        refine x_getR (pc := 42) dX7_of_42 fl_7_19 e42 ?_
        refine x_iload_n (pc := 45) (x := x1) dX7_of_45 rfl ?_
        replace hf := bd_s hf; obtain ⟨u46, i46, hf⟩ := hf
        replace hf := bd2_s hf; obtain ⟨v46, h46, e46, hf⟩ := hf
        refine x_cVi (pc := 46) (M' := mX6_nightsOf) (as := [.int (x1)]) (st := []) (a := v42) (ci := 6) dX7_of_46 mo_X6_nightsOf lk_7_145 im_X6_nightsOf se_X6_nightsOf rfl ⟨Nat.le_of_ble_eq_true rfl, Nat.le_of_ble_eq_true rfl⟩ rfl (Nat.le_of_ble_eq_true rfl) rfl i46 (tm_X6_nightsOf e46) ?_
        obtain ⟨rfl, rfl⟩ := ret_s hf
        exact x_reti (pc := 49) dX7_of_49 rfl
      · replace hf := it_f hc hf
        refine x_aload_n (pc := 29) (a := x0) dX7_of_29 rfl ?_
        replace hf := bd_s hf; obtain ⟨v30, e30, hf⟩ := hf
        refine x_getR (pc := 30) dX7_of_30 fl_7_19 e30 ?_
        refine x_iload_n (pc := 33) (x := x1) dX7_of_33 rfl ?_
        refine x_iload_n (pc := 34) (x := x2) dX7_of_34 rfl ?_
        replace hf := bd_s hf; obtain ⟨u35, i35, hf⟩ := hf
        replace hf := bd2_s hf; obtain ⟨v35, h35, e35, hf⟩ := hf
        refine x_cVi (pc := 35) (M' := mX6_read) (as := [.int (x1), .int (x2)]) (st := []) (a := v30) (ci := 6) dX7_of_35 mo_X6_read lk_7_137 im_X6_read se_X6_read rfl ⟨Nat.le_of_ble_eq_true rfl, Nat.le_of_ble_eq_true rfl⟩ rfl (Nat.le_of_ble_eq_true rfl) rfl i35 (tm_X6_read e35) ?_
        refine x_goto (pc := 38) (tgt := 49) dX7_of_38 rfl ?_
        obtain ⟨rfl, rfl⟩ := ret_s hf
        exact x_reti (pc := 49) dX7_of_49 rfl
    · replace hf := it_n hc hf
      refine x_aload_n (pc := 17) (a := x0) dX7_of_17 rfl ?_
      refine x_ldc (pc := 18) (v := -100001) dX7_of_18 kc_7_59 ?_
      replace hf := bd_s hf; obtain ⟨u20, i20, hf⟩ := hf
      replace hf := bd2_s hf; obtain ⟨v20, h20, e20, hf⟩ := hf
      refine x_cVi (pc := 20) (M' := mX7_finding) (as := [.int ((-100001))]) (st := []) (a := x0) (ci := 7) dX7_of_20 mo_X7_finding lk_7_60 im_X7_finding se_X7_finding rfl ⟨Nat.le_of_ble_eq_true rfl, Nat.le_of_ble_eq_true rfl⟩ rfl (Nat.le_of_ble_eq_true rfl) rfl i20 (tm_X7_finding e20) ?_
      obtain ⟨rfl, rfl⟩ := ret_s hf
      exact x_reti (pc := 23) dX7_of_23 rfl

def f_X7_plan (h : AH) (x0 : Option Nat) (x1 : Int32) : Option (Int32 × AH) :=
  bd (isO h x0 7) fun _ =>
  bd2 (f_X7_isTrip h x0 x1) fun v2 h2 =>
  if ¬ v2 = 0 then (
    bd (gR h2 x0 7 2) fun v16 =>
    bd (gR h2 x0 7 0) fun v20 =>
    bd (gR h2 x0 7 1) fun v24 =>
    bd (isO h2 v16 3) fun _ =>
    bd2 (f_X3_search h2 v16 v20 v24 x1) fun v28 h28 =>
    if v28 = 0 then (
      bd (isO h28 x0 7) fun _ =>
      bd2 (f_X7_finding h28 x0 (-100006)) fun v47 h47 =>
      some (v47, h47)
    ) else (
      bd (gR h28 x0 7 2) fun v35 =>
      bd (gI h28 v35 3 0) fun v38 =>
      some (v38, h28)
    )
  ) else (
    bd (isO h2 x0 7) fun _ =>
    bd2 (f_X7_finding h2 x0 (-100001)) fun v11 h11 =>
    some (v11, h11)
  )

set_option maxRecDepth 100000 in
set_option maxHeartbeats 4000000 in
theorem tm_X7_plan {g : GT} {h : AH} {x0 : Option Nat} {x1 : Int32} {r : Int32} {h' : AH} (hf : f_X7_plan h x0 x1 = some (r, h')) : Xm g mX7_plan [va_rf (x0), .int (x1)] h (some (.int r)) h' := by
  refine xm_of mo_X7_plan (Nat.le_of_ble_eq_true rfl) (ls := [some (va_rf (x0)), some (.int (x1))]) rfl ?_
  rw [f_X7_plan] at hf
  refine x_aload_n (pc := 0) (a := x0) dX7_plan_0 rfl ?_
  refine x_iload_n (pc := 1) (x := x1) dX7_plan_1 rfl ?_
  replace hf := bd_s hf; obtain ⟨u2, i2, hf⟩ := hf
  replace hf := bd2_s hf; obtain ⟨v2, h2, e2, hf⟩ := hf
  refine x_cVi (pc := 2) (M' := mX7_isTrip) (as := [.int (x1)]) (st := []) (a := x0) (ci := 7) dX7_plan_2 mo_X7_isTrip lk_7_134 im_X7_isTrip se_X7_isTrip rfl ⟨Nat.le_of_ble_eq_true rfl, Nat.le_of_ble_eq_true rfl⟩ rfl (Nat.le_of_ble_eq_true rfl) rfl i2 (tm_X7_isTrip e2) ?_
  refine x_if_ne (pc := 5) (tgt := 15) (x := v2) dX7_plan_5 rfl (fun hc => ?_) (fun hc => ?_)
  · replace hf := it_t hc hf
    refine x_aload_n (pc := 15) (a := x0) dX7_plan_15 rfl ?_
    replace hf := bd_s hf; obtain ⟨v16, e16, hf⟩ := hf
    refine x_getR (pc := 16) dX7_plan_16 fl_7_26 e16 ?_
    refine x_aload_n (pc := 19) (a := x0) dX7_plan_19 rfl ?_
    replace hf := bd_s hf; obtain ⟨v20, e20, hf⟩ := hf
    refine x_getR (pc := 20) dX7_plan_20 fl_7_10 e20 ?_
    refine x_aload_n (pc := 23) (a := x0) dX7_plan_23 rfl ?_
    replace hf := bd_s hf; obtain ⟨v24, e24, hf⟩ := hf
    refine x_getR (pc := 24) dX7_plan_24 fl_7_19 e24 ?_
    refine x_iload_n (pc := 27) (x := x1) dX7_plan_27 rfl ?_
    replace hf := bd_s hf; obtain ⟨u28, i28, hf⟩ := hf
    replace hf := bd2_s hf; obtain ⟨v28, h28, e28, hf⟩ := hf
    refine x_cVi (pc := 28) (M' := mX3_search) (as := [va_rf (v20), va_rf (v24), .int (x1)]) (st := []) (a := v16) (ci := 3) dX7_plan_28 mo_X3_search lk_7_166 im_X3_search se_X3_search rfl ⟨Nat.le_of_ble_eq_true rfl, Nat.le_of_ble_eq_true rfl⟩ rfl (Nat.le_of_ble_eq_true rfl) rfl i28 (tm_X3_search e28) ?_
    refine x_if_eq (pc := 31) (tgt := 44) (x := v28) dX7_plan_31 rfl (fun hc => ?_) (fun hc => ?_)
    · replace hf := it_t hc hf
      refine x_aload_n (pc := 44) (a := x0) dX7_plan_44 rfl ?_
      refine x_ldc (pc := 45) (v := -100006) dX7_plan_45 kc_7_165 ?_
      replace hf := bd_s hf; obtain ⟨u47, i47, hf⟩ := hf
      replace hf := bd2_s hf; obtain ⟨v47, h47, e47, hf⟩ := hf
      refine x_cVi (pc := 47) (M' := mX7_finding) (as := [.int ((-100006))]) (st := []) (a := x0) (ci := 7) dX7_plan_47 mo_X7_finding lk_7_60 im_X7_finding se_X7_finding rfl ⟨Nat.le_of_ble_eq_true rfl, Nat.le_of_ble_eq_true rfl⟩ rfl (Nat.le_of_ble_eq_true rfl) rfl i47 (tm_X7_finding e47) ?_
      obtain ⟨rfl, rfl⟩ := ret_s hf
      exact x_reti (pc := 50) dX7_plan_50 rfl
    · replace hf := it_f hc hf
      refine x_aload_n (pc := 34) (a := x0) dX7_plan_34 rfl ?_
      replace hf := bd_s hf; obtain ⟨v35, e35, hf⟩ := hf
      refine x_getR (pc := 35) dX7_plan_35 fl_7_26 e35 ?_
      replace hf := bd_s hf; obtain ⟨v38, e38, hf⟩ := hf
      refine x_getI (pc := 38) dX7_plan_38 fl_7_170 e38 ?_
      refine x_goto (pc := 41) (tgt := 50) dX7_plan_41 rfl ?_
      obtain ⟨rfl, rfl⟩ := ret_s hf
      exact x_reti (pc := 50) dX7_plan_50 rfl
  · replace hf := it_n hc hf
    refine x_aload_n (pc := 8) (a := x0) dX7_plan_8 rfl ?_
    refine x_ldc (pc := 9) (v := -100001) dX7_plan_9 kc_7_59 ?_
    replace hf := bd_s hf; obtain ⟨u11, i11, hf⟩ := hf
    replace hf := bd2_s hf; obtain ⟨v11, h11, e11, hf⟩ := hf
    refine x_cVi (pc := 11) (M' := mX7_finding) (as := [.int ((-100001))]) (st := []) (a := x0) (ci := 7) dX7_plan_11 mo_X7_finding lk_7_60 im_X7_finding se_X7_finding rfl ⟨Nat.le_of_ble_eq_true rfl, Nat.le_of_ble_eq_true rfl⟩ rfl (Nat.le_of_ble_eq_true rfl) rfl i11 (tm_X7_finding e11) ?_
    obtain ⟨rfl, rfl⟩ := ret_s hf
    exact x_reti (pc := 14) dX7_plan_14 rfl

def f_X7_planned (h : AH) (x0 : Option Nat) (x1 : Int32) (x2 : Int32) : Option (Int32 × AH) :=
  bd (isO h x0 7) fun _ =>
  bd2 (f_X7_isTrip h x0 x1) fun v2 h2 =>
  if ¬ v2 = 0 then (
    bd (gR h2 x0 7 2) fun v16 =>
    bd (gR h2 x0 7 0) fun v20 =>
    bd (gR h2 x0 7 1) fun v24 =>
    bd (isO h2 v16 3) fun _ =>
    bd2 (f_X3_search h2 v16 v20 v24 x1) fun v28 h28 =>
    if ¬ v28 = 0 then (
      bd (gR h28 x0 7 2) fun v44 =>
      bd (gI h28 v44 3 0) fun v47 =>
      bd2 (f_X7_within h28 x2 0 (v47 - 1)) fun v52 h52 =>
      if ¬ v52 = 0 then (
        bd (gR h52 x0 7 2) fun v67 =>
        bd (gI h52 v67 3 0) fun v70 =>
        if ¬ x2 = (v70 - 1) then (
          bd (gR h52 x0 7 2) fun v83 =>
          bd (gR h52 v83 3 1) fun v86 =>
          bd (ldI h52 v86 x2) fun v90 =>
          some (v90, h52)
        ) else (
          some ((-1), h52)
        )
      ) else (
        bd (isO h52 x0 7) fun _ =>
        bd2 (f_X7_finding h52 x0 (-100001)) fun v61 h61 =>
        some (v61, h61)
      )
    ) else (
      bd (isO h28 x0 7) fun _ =>
      bd2 (f_X7_finding h28 x0 (-100006)) fun v37 h37 =>
      some (v37, h37)
    )
  ) else (
    bd (isO h2 x0 7) fun _ =>
    bd2 (f_X7_finding h2 x0 (-100001)) fun v11 h11 =>
    some (v11, h11)
  )

set_option maxRecDepth 100000 in
set_option maxHeartbeats 4000000 in
theorem tm_X7_planned {g : GT} {h : AH} {x0 : Option Nat} {x1 : Int32} {x2 : Int32} {r : Int32} {h' : AH} (hf : f_X7_planned h x0 x1 x2 = some (r, h')) : Xm g mX7_planned [va_rf (x0), .int (x1), .int (x2)] h (some (.int r)) h' := by
  refine xm_of mo_X7_planned (Nat.le_of_ble_eq_true rfl) (ls := [some (va_rf (x0)), some (.int (x1)), some (.int (x2))]) rfl ?_
  rw [f_X7_planned] at hf
  refine x_aload_n (pc := 0) (a := x0) dX7_planned_0 rfl ?_
  refine x_iload_n (pc := 1) (x := x1) dX7_planned_1 rfl ?_
  replace hf := bd_s hf; obtain ⟨u2, i2, hf⟩ := hf
  replace hf := bd2_s hf; obtain ⟨v2, h2, e2, hf⟩ := hf
  refine x_cVi (pc := 2) (M' := mX7_isTrip) (as := [.int (x1)]) (st := []) (a := x0) (ci := 7) dX7_planned_2 mo_X7_isTrip lk_7_134 im_X7_isTrip se_X7_isTrip rfl ⟨Nat.le_of_ble_eq_true rfl, Nat.le_of_ble_eq_true rfl⟩ rfl (Nat.le_of_ble_eq_true rfl) rfl i2 (tm_X7_isTrip e2) ?_
  refine x_if_ne (pc := 5) (tgt := 15) (x := v2) dX7_planned_5 rfl (fun hc => ?_) (fun hc => ?_)
  · replace hf := it_t hc hf
    refine x_aload_n (pc := 15) (a := x0) dX7_planned_15 rfl ?_
    replace hf := bd_s hf; obtain ⟨v16, e16, hf⟩ := hf
    refine x_getR (pc := 16) dX7_planned_16 fl_7_26 e16 ?_
    refine x_aload_n (pc := 19) (a := x0) dX7_planned_19 rfl ?_
    replace hf := bd_s hf; obtain ⟨v20, e20, hf⟩ := hf
    refine x_getR (pc := 20) dX7_planned_20 fl_7_10 e20 ?_
    refine x_aload_n (pc := 23) (a := x0) dX7_planned_23 rfl ?_
    replace hf := bd_s hf; obtain ⟨v24, e24, hf⟩ := hf
    refine x_getR (pc := 24) dX7_planned_24 fl_7_19 e24 ?_
    refine x_iload_n (pc := 27) (x := x1) dX7_planned_27 rfl ?_
    replace hf := bd_s hf; obtain ⟨u28, i28, hf⟩ := hf
    replace hf := bd2_s hf; obtain ⟨v28, h28, e28, hf⟩ := hf
    refine x_cVi (pc := 28) (M' := mX3_search) (as := [va_rf (v20), va_rf (v24), .int (x1)]) (st := []) (a := v16) (ci := 3) dX7_planned_28 mo_X3_search lk_7_166 im_X3_search se_X3_search rfl ⟨Nat.le_of_ble_eq_true rfl, Nat.le_of_ble_eq_true rfl⟩ rfl (Nat.le_of_ble_eq_true rfl) rfl i28 (tm_X3_search e28) ?_
    refine x_if_ne (pc := 31) (tgt := 41) (x := v28) dX7_planned_31 rfl (fun hc => ?_) (fun hc => ?_)
    · replace hf := it_t hc hf
      refine x_iload_n (pc := 41) (x := x2) dX7_planned_41 rfl ?_
      refine x_iconst (pc := 42) (v := 0) dX7_planned_42 (by decide) ?_
      refine x_aload_n (pc := 43) (a := x0) dX7_planned_43 rfl ?_
      replace hf := bd_s hf; obtain ⟨v44, e44, hf⟩ := hf
      refine x_getR (pc := 44) dX7_planned_44 fl_7_26 e44 ?_
      replace hf := bd_s hf; obtain ⟨v47, e47, hf⟩ := hf
      refine x_getI (pc := 47) dX7_planned_47 fl_7_170 e47 ?_
      refine x_iconst (pc := 50) (v := 1) dX7_planned_50 (by decide) ?_
      refine x_isub (pc := 51) dX7_planned_51 ?_
      replace hf := bd2_s hf; obtain ⟨v52, h52, e52, hf⟩ := hf
      refine x_cSi (pc := 52) (M' := mX7_within) (as := [.int (x2), .int (0), .int (v47 - 1)]) (st := []) dX7_planned_52 mo_X7_within lk_7_55 sm_X7_within ⟨Nat.le_of_ble_eq_true rfl, Nat.le_of_ble_eq_true rfl⟩ rfl (Nat.le_of_ble_eq_true rfl) rfl (tm_X7_within e52) ?_
      refine x_if_ne (pc := 55) (tgt := 65) (x := v52) dX7_planned_55 rfl (fun hc => ?_) (fun hc => ?_)
      · replace hf := it_t hc hf
        refine x_iload_n (pc := 65) (x := x2) dX7_planned_65 rfl ?_
        refine x_aload_n (pc := 66) (a := x0) dX7_planned_66 rfl ?_
        replace hf := bd_s hf; obtain ⟨v67, e67, hf⟩ := hf
        refine x_getR (pc := 67) dX7_planned_67 fl_7_26 e67 ?_
        replace hf := bd_s hf; obtain ⟨v70, e70, hf⟩ := hf
        refine x_getI (pc := 70) dX7_planned_70 fl_7_170 e70 ?_
        refine x_iconst (pc := 73) (v := 1) dX7_planned_73 (by decide) ?_
        refine x_isub (pc := 74) dX7_planned_74 ?_
        refine x_icmp_ne (pc := 75) (tgt := 82) (x := x2) (y := (v70 - 1)) dX7_planned_75 rfl (fun hc => ?_) (fun hc => ?_)
        · replace hf := it_t hc hf
          refine x_aload_n (pc := 82) (a := x0) dX7_planned_82 rfl ?_
          replace hf := bd_s hf; obtain ⟨v83, e83, hf⟩ := hf
          refine x_getR (pc := 83) dX7_planned_83 fl_7_26 e83 ?_
          replace hf := bd_s hf; obtain ⟨v86, e86, hf⟩ := hf
          refine x_getR (pc := 86) dX7_planned_86 fl_7_173 e86 ?_
          refine x_iload_n (pc := 89) (x := x2) dX7_planned_89 rfl ?_
          replace hf := bd_s hf; obtain ⟨v90, e90, hf⟩ := hf
          refine x_ldI (pc := 90) dX7_planned_90 e90 ?_
          obtain ⟨rfl, rfl⟩ := ret_s hf
          exact x_reti (pc := 91) dX7_planned_91 rfl
        · replace hf := it_n hc hf
          refine x_iconst (pc := 78) (v := -1) dX7_planned_78 (by decide) ?_
          refine x_goto (pc := 79) (tgt := 91) dX7_planned_79 rfl ?_
          obtain ⟨rfl, rfl⟩ := ret_s hf
          exact x_reti (pc := 91) dX7_planned_91 rfl
      · replace hf := it_n hc hf
        refine x_aload_n (pc := 58) (a := x0) dX7_planned_58 rfl ?_
        refine x_ldc (pc := 59) (v := -100001) dX7_planned_59 kc_7_59 ?_
        replace hf := bd_s hf; obtain ⟨u61, i61, hf⟩ := hf
        replace hf := bd2_s hf; obtain ⟨v61, h61, e61, hf⟩ := hf
        refine x_cVi (pc := 61) (M' := mX7_finding) (as := [.int ((-100001))]) (st := []) (a := x0) (ci := 7) dX7_planned_61 mo_X7_finding lk_7_60 im_X7_finding se_X7_finding rfl ⟨Nat.le_of_ble_eq_true rfl, Nat.le_of_ble_eq_true rfl⟩ rfl (Nat.le_of_ble_eq_true rfl) rfl i61 (tm_X7_finding e61) ?_
        obtain ⟨rfl, rfl⟩ := ret_s hf
        exact x_reti (pc := 64) dX7_planned_64 rfl
    · replace hf := it_n hc hf
      refine x_aload_n (pc := 34) (a := x0) dX7_planned_34 rfl ?_
      refine x_ldc (pc := 35) (v := -100006) dX7_planned_35 kc_7_165 ?_
      replace hf := bd_s hf; obtain ⟨u37, i37, hf⟩ := hf
      replace hf := bd2_s hf; obtain ⟨v37, h37, e37, hf⟩ := hf
      refine x_cVi (pc := 37) (M' := mX7_finding) (as := [.int ((-100006))]) (st := []) (a := x0) (ci := 7) dX7_planned_37 mo_X7_finding lk_7_60 im_X7_finding se_X7_finding rfl ⟨Nat.le_of_ble_eq_true rfl, Nat.le_of_ble_eq_true rfl⟩ rfl (Nat.le_of_ble_eq_true rfl) rfl i37 (tm_X7_finding e37) ?_
      obtain ⟨rfl, rfl⟩ := ret_s hf
      exact x_reti (pc := 40) dX7_planned_40 rfl
  · replace hf := it_n hc hf
    refine x_aload_n (pc := 8) (a := x0) dX7_planned_8 rfl ?_
    refine x_ldc (pc := 9) (v := -100001) dX7_planned_9 kc_7_59 ?_
    replace hf := bd_s hf; obtain ⟨u11, i11, hf⟩ := hf
    replace hf := bd2_s hf; obtain ⟨v11, h11, e11, hf⟩ := hf
    refine x_cVi (pc := 11) (M' := mX7_finding) (as := [.int ((-100001))]) (st := []) (a := x0) (ci := 7) dX7_planned_11 mo_X7_finding lk_7_60 im_X7_finding se_X7_finding rfl ⟨Nat.le_of_ble_eq_true rfl, Nat.le_of_ble_eq_true rfl⟩ rfl (Nat.le_of_ble_eq_true rfl) rfl i11 (tm_X7_finding e11) ?_
    obtain ⟨rfl, rfl⟩ := ret_s hf
    exact x_reti (pc := 14) dX7_planned_14 rfl

def f_X7_put (h : AH) (x0 : Option Nat) (x1 : Int32) (x2 : Int32) (x3 : Int32) : Option (Int32 × AH) :=
  bd2 (f_X7_isSheet h x1) fun v1 h1 =>
  if ¬ v1 = 0 then (
    bd (gR h1 x0 7 5) fun v15 =>
    bd (ldR h1 v15 2 x1) fun v19 =>
    bd (isO h1 v19 5) fun _ =>
    bd2 (f_X5_isMissing h1 v19) fun v24 h24 =>
    if v24 = 0 then (
      bd (gI h24 v19 5 1) fun v41 =>
      bd2 (f_X7_within h24 x2 0 (v41 - 1)) fun v46 h46 =>
      if ¬ v46 = 0 then (
        bd (gR h46 v19 5 2) fun v61 =>
        bd (isO h46 v19 5) fun _ =>
        bd2 (f_X5_lowest h46 v19 x3) fun v68 h68 =>
        bd (stI h68 v61 x2 v68) fun h71 =>
        some (0, h71)
      ) else (
        bd (isO h46 x0 7) fun _ =>
        bd2 (f_X7_finding h46 x0 (-100001)) fun v55 h55 =>
        some (v55, h55)
      )
    ) else (
      bd (isO h24 x0 7) fun _ =>
      bd2 (f_X7_finding h24 x0 (-100002)) fun v33 h33 =>
      some (v33, h33)
    )
  ) else (
    bd (isO h1 x0 7) fun _ =>
    bd2 (f_X7_finding h1 x0 (-100001)) fun v10 h10 =>
    some (v10, h10)
  )

set_option maxRecDepth 100000 in
set_option maxHeartbeats 4000000 in
theorem tm_X7_put {g : GT} {h : AH} {x0 : Option Nat} {x1 : Int32} {x2 : Int32} {x3 : Int32} {r : Int32} {h' : AH} (hf : f_X7_put h x0 x1 x2 x3 = some (r, h')) : Xm g mX7_put [va_rf (x0), .int (x1), .int (x2), .int (x3)] h (some (.int r)) h' := by
  refine xm_of mo_X7_put (Nat.le_of_ble_eq_true rfl) (ls := [some (va_rf (x0)), some (.int (x1)), some (.int (x2)), some (.int (x3)), none]) rfl ?_
  rw [f_X7_put] at hf
  refine x_iload_n (pc := 0) (x := x1) dX7_put_0 rfl ?_
  replace hf := bd2_s hf; obtain ⟨v1, h1, e1, hf⟩ := hf
  refine x_cSi (pc := 1) (M' := mX7_isSheet) (as := [.int (x1)]) (st := []) dX7_put_1 mo_X7_isSheet lk_7_228 sm_X7_isSheet ⟨Nat.le_of_ble_eq_true rfl, Nat.le_of_ble_eq_true rfl⟩ rfl (Nat.le_of_ble_eq_true rfl) rfl (tm_X7_isSheet e1) ?_
  refine x_if_ne (pc := 4) (tgt := 14) (x := v1) dX7_put_4 rfl (fun hc => ?_) (fun hc => ?_)
  · replace hf := it_t hc hf
    refine x_aload_n (pc := 14) (a := x0) dX7_put_14 rfl ?_
    replace hf := bd_s hf; obtain ⟨v15, e15, hf⟩ := hf
    refine x_getR (pc := 15) dX7_put_15 fl_7_46 e15 ?_
    refine x_iload_n (pc := 18) (x := x1) dX7_put_18 rfl ?_
    replace hf := bd_s hf; obtain ⟨v19, e19, hf⟩ := hf
    refine x_ldR (pc := 19) (by decide) dX7_put_19 e19 ?_
    refine x_astore (pc := 20) (ls' := [some (va_rf (x0)), some (.int (x1)), some (.int (x2)), some (.int (x3)), some (va_rf (v19))]) dX7_put_20 (by decide) rfl ?_
    refine x_aload (pc := 22) (a := v19) dX7_put_22 rfl ?_
    replace hf := bd_s hf; obtain ⟨u24, i24, hf⟩ := hf
    replace hf := bd2_s hf; obtain ⟨v24, h24, e24, hf⟩ := hf
    refine x_cVi (pc := 24) (M' := mX5_isMissing) (as := []) (st := []) (a := v19) (ci := 5) dX7_put_24 mo_X5_isMissing lk_7_234 im_X5_isMissing se_X5_isMissing rfl ⟨Nat.le_of_ble_eq_true rfl, Nat.le_of_ble_eq_true rfl⟩ rfl (Nat.le_of_ble_eq_true rfl) rfl i24 (tm_X5_isMissing e24) ?_
    refine x_if_eq (pc := 27) (tgt := 37) (x := v24) dX7_put_27 rfl (fun hc => ?_) (fun hc => ?_)
    · replace hf := it_t hc hf
      refine x_iload_n (pc := 37) (x := x2) dX7_put_37 rfl ?_
      refine x_iconst (pc := 38) (v := 0) dX7_put_38 (by decide) ?_
      refine x_aload (pc := 39) (a := v19) dX7_put_39 rfl ?_
      replace hf := bd_s hf; obtain ⟨v41, e41, hf⟩ := hf
      refine x_getI (pc := 41) dX7_put_41 fl_7_239 e41 ?_
      refine x_iconst (pc := 44) (v := 1) dX7_put_44 (by decide) ?_
      refine x_isub (pc := 45) dX7_put_45 ?_
      replace hf := bd2_s hf; obtain ⟨v46, h46, e46, hf⟩ := hf
      refine x_cSi (pc := 46) (M' := mX7_within) (as := [.int (x2), .int (0), .int (v41 - 1)]) (st := []) dX7_put_46 mo_X7_within lk_7_55 sm_X7_within ⟨Nat.le_of_ble_eq_true rfl, Nat.le_of_ble_eq_true rfl⟩ rfl (Nat.le_of_ble_eq_true rfl) rfl (tm_X7_within e46) ?_
      refine x_if_ne (pc := 49) (tgt := 59) (x := v46) dX7_put_49 rfl (fun hc => ?_) (fun hc => ?_)
      · replace hf := it_t hc hf
        refine x_aload (pc := 59) (a := v19) dX7_put_59 rfl ?_
        replace hf := bd_s hf; obtain ⟨v61, e61, hf⟩ := hf
        refine x_getR (pc := 61) dX7_put_61 fl_7_241 e61 ?_
        refine x_iload_n (pc := 64) (x := x2) dX7_put_64 rfl ?_
        refine x_aload (pc := 65) (a := v19) dX7_put_65 rfl ?_
        refine x_iload_n (pc := 67) (x := x3) dX7_put_67 rfl ?_
        replace hf := bd_s hf; obtain ⟨u68, i68, hf⟩ := hf
        replace hf := bd2_s hf; obtain ⟨v68, h68, e68, hf⟩ := hf
        refine x_cVi (pc := 68) (M' := mX5_lowest) (as := [.int (x3)]) (st := [.int (x2), va_rf (v61)]) (a := v19) (ci := 5) dX7_put_68 mo_X5_lowest lk_7_244 im_X5_lowest se_X5_lowest rfl ⟨Nat.le_of_ble_eq_true rfl, Nat.le_of_ble_eq_true rfl⟩ rfl (Nat.le_of_ble_eq_true rfl) rfl i68 (tm_X5_lowest e68) ?_
        replace hf := bd_s hf; obtain ⟨h71, e71, hf⟩ := hf
        refine x_stI (pc := 71) dX7_put_71 e71 ?_
        refine x_iconst (pc := 72) (v := 0) dX7_put_72 (by decide) ?_
        obtain ⟨rfl, rfl⟩ := ret_s hf
        exact x_reti (pc := 73) dX7_put_73 rfl
      · replace hf := it_n hc hf
        refine x_aload_n (pc := 52) (a := x0) dX7_put_52 rfl ?_
        refine x_ldc (pc := 53) (v := -100001) dX7_put_53 kc_7_59 ?_
        replace hf := bd_s hf; obtain ⟨u55, i55, hf⟩ := hf
        replace hf := bd2_s hf; obtain ⟨v55, h55, e55, hf⟩ := hf
        refine x_cVi (pc := 55) (M' := mX7_finding) (as := [.int ((-100001))]) (st := []) (a := x0) (ci := 7) dX7_put_55 mo_X7_finding lk_7_60 im_X7_finding se_X7_finding rfl ⟨Nat.le_of_ble_eq_true rfl, Nat.le_of_ble_eq_true rfl⟩ rfl (Nat.le_of_ble_eq_true rfl) rfl i55 (tm_X7_finding e55) ?_
        obtain ⟨rfl, rfl⟩ := ret_s hf
        exact x_reti (pc := 58) dX7_put_58 rfl
    · replace hf := it_f hc hf
      refine x_aload_n (pc := 30) (a := x0) dX7_put_30 rfl ?_
      refine x_ldc (pc := 31) (v := -100002) dX7_put_31 kc_7_238 ?_
      replace hf := bd_s hf; obtain ⟨u33, i33, hf⟩ := hf
      replace hf := bd2_s hf; obtain ⟨v33, h33, e33, hf⟩ := hf
      refine x_cVi (pc := 33) (M' := mX7_finding) (as := [.int ((-100002))]) (st := []) (a := x0) (ci := 7) dX7_put_33 mo_X7_finding lk_7_60 im_X7_finding se_X7_finding rfl ⟨Nat.le_of_ble_eq_true rfl, Nat.le_of_ble_eq_true rfl⟩ rfl (Nat.le_of_ble_eq_true rfl) rfl i33 (tm_X7_finding e33) ?_
      obtain ⟨rfl, rfl⟩ := ret_s hf
      exact x_reti (pc := 36) dX7_put_36 rfl
  · replace hf := it_n hc hf
    refine x_aload_n (pc := 7) (a := x0) dX7_put_7 rfl ?_
    refine x_ldc (pc := 8) (v := -100001) dX7_put_8 kc_7_59 ?_
    replace hf := bd_s hf; obtain ⟨u10, i10, hf⟩ := hf
    replace hf := bd2_s hf; obtain ⟨v10, h10, e10, hf⟩ := hf
    refine x_cVi (pc := 10) (M' := mX7_finding) (as := [.int ((-100001))]) (st := []) (a := x0) (ci := 7) dX7_put_10 mo_X7_finding lk_7_60 im_X7_finding se_X7_finding rfl ⟨Nat.le_of_ble_eq_true rfl, Nat.le_of_ble_eq_true rfl⟩ rfl (Nat.le_of_ble_eq_true rfl) rfl i10 (tm_X7_finding e10) ?_
    obtain ⟨rfl, rfl⟩ := ret_s hf
    exact x_reti (pc := 13) dX7_put_13 rfl

def f_X7_rapid (h : AH) (x0 : Option Nat) (x1 : Int32) (x2 : Int32) (x3 : Int32) : Option (Int32 × AH) :=
  bd2 (f_X7_within h x1 1 249) fun v5 h5 =>
  if v5 = 0 then (
    bd (isO h5 x0 7) fun _ =>
    bd2 (f_X7_finding h5 x0 (-100001)) fun v28 h28 =>
    some (v28, h28)
  ) else (
    bd2 (f_X7_isWater h5 x2) fun v12 h12 =>
    if v12 = 0 then (
      bd (isO h12 x0 7) fun _ =>
      bd2 (f_X7_finding h12 x0 (-100001)) fun v28 h28 =>
      some (v28, h28)
    ) else (
      bd2 (f_X7_isWater h12 x3) fun v19 h19 =>
      if ¬ v19 = 0 then (
        if x2 ≤ x3 then (
          bd (gR h19 x0 7 0) fun v45 =>
          bd (gR h19 v45 4 1) fun v48 =>
          bd (ldI h19 v48 1) fun v52 =>
          if v52 < 10 then (
            bd (gR h19 x0 7 0) fun v70 =>
            bd (gR h19 v70 4 5) fun v73 =>
            bd (stI h19 v73 v52 x1) fun h79 =>
            bd (gR h79 x0 7 0) fun v81 =>
            bd (gR h79 v81 4 6) fun v84 =>
            bd (stI h79 v84 v52 x2) fun h90 =>
            bd (gR h90 x0 7 0) fun v92 =>
            bd (gR h90 v92 4 7) fun v95 =>
            bd (stI h90 v95 v52 x3) fun h101 =>
            bd (gR h101 x0 7 0) fun v104 =>
            bd (gR h101 v104 4 1) fun v107 =>
            bd (isO h101 x0 7) fun _ =>
            bd2 (f_X7_change h101 x0 v107 1 (v52 + 1)) fun v115 h115 =>
            some (v115, h115)
          ) else (
            bd (isO h19 x0 7) fun _ =>
            bd2 (f_X7_finding h19 x0 (-100005)) fun v65 h65 =>
            some (v65, h65)
          )
        ) else (
          bd (isO h19 x0 7) fun _ =>
          bd2 (f_X7_finding h19 x0 (-100003)) fun v40 h40 =>
          some (v40, h40)
        )
      ) else (
        bd (isO h19 x0 7) fun _ =>
        bd2 (f_X7_finding h19 x0 (-100001)) fun v28 h28 =>
        some (v28, h28)
      )
    )
  )

set_option maxRecDepth 100000 in
set_option maxHeartbeats 4000000 in
theorem tm_X7_rapid {g : GT} {h : AH} {x0 : Option Nat} {x1 : Int32} {x2 : Int32} {x3 : Int32} {r : Int32} {h' : AH} (hf : f_X7_rapid h x0 x1 x2 x3 = some (r, h')) : Xm g mX7_rapid [va_rf (x0), .int (x1), .int (x2), .int (x3)] h (some (.int r)) h' := by
  refine xm_of mo_X7_rapid (Nat.le_of_ble_eq_true rfl) (ls := [some (va_rf (x0)), some (.int (x1)), some (.int (x2)), some (.int (x3)), none]) rfl ?_
  rw [f_X7_rapid] at hf
  refine x_iload_n (pc := 0) (x := x1) dX7_rapid_0 rfl ?_
  refine x_iconst (pc := 1) (v := 1) dX7_rapid_1 (by decide) ?_
  refine x_sipush (pc := 2) (v := 249) dX7_rapid_2 (by decide) ?_
  replace hf := bd2_s hf; obtain ⟨v5, h5, e5, hf⟩ := hf
  refine x_cSi (pc := 5) (M' := mX7_within) (as := [.int (x1), .int (1), .int (249)]) (st := []) dX7_rapid_5 mo_X7_within lk_7_55 sm_X7_within ⟨Nat.le_of_ble_eq_true rfl, Nat.le_of_ble_eq_true rfl⟩ rfl (Nat.le_of_ble_eq_true rfl) rfl (tm_X7_within e5) ?_
  refine x_if_eq (pc := 8) (tgt := 25) (x := v5) dX7_rapid_8 rfl (fun hc => ?_) (fun hc => ?_)
  · replace hf := it_t hc hf
    refine x_aload_n (pc := 25) (a := x0) dX7_rapid_25 rfl ?_
    refine x_ldc (pc := 26) (v := -100001) dX7_rapid_26 kc_7_59 ?_
    replace hf := bd_s hf; obtain ⟨u28, i28, hf⟩ := hf
    replace hf := bd2_s hf; obtain ⟨v28, h28, e28, hf⟩ := hf
    refine x_cVi (pc := 28) (M' := mX7_finding) (as := [.int ((-100001))]) (st := []) (a := x0) (ci := 7) dX7_rapid_28 mo_X7_finding lk_7_60 im_X7_finding se_X7_finding rfl ⟨Nat.le_of_ble_eq_true rfl, Nat.le_of_ble_eq_true rfl⟩ rfl (Nat.le_of_ble_eq_true rfl) rfl i28 (tm_X7_finding e28) ?_
    obtain ⟨rfl, rfl⟩ := ret_s hf
    exact x_reti (pc := 31) dX7_rapid_31 rfl
  · replace hf := it_f hc hf
    refine x_iload_n (pc := 11) (x := x2) dX7_rapid_11 rfl ?_
    replace hf := bd2_s hf; obtain ⟨v12, h12, e12, hf⟩ := hf
    refine x_cSi (pc := 12) (M' := mX7_isWater) (as := [.int (x2)]) (st := []) dX7_rapid_12 mo_X7_isWater lk_7_83 sm_X7_isWater ⟨Nat.le_of_ble_eq_true rfl, Nat.le_of_ble_eq_true rfl⟩ rfl (Nat.le_of_ble_eq_true rfl) rfl (tm_X7_isWater e12) ?_
    refine x_if_eq (pc := 15) (tgt := 25) (x := v12) dX7_rapid_15 rfl (fun hc => ?_) (fun hc => ?_)
    · replace hf := it_t hc hf
      refine x_aload_n (pc := 25) (a := x0) dX7_rapid_25 rfl ?_
      refine x_ldc (pc := 26) (v := -100001) dX7_rapid_26 kc_7_59 ?_
      replace hf := bd_s hf; obtain ⟨u28, i28, hf⟩ := hf
      replace hf := bd2_s hf; obtain ⟨v28, h28, e28, hf⟩ := hf
      refine x_cVi (pc := 28) (M' := mX7_finding) (as := [.int ((-100001))]) (st := []) (a := x0) (ci := 7) dX7_rapid_28 mo_X7_finding lk_7_60 im_X7_finding se_X7_finding rfl ⟨Nat.le_of_ble_eq_true rfl, Nat.le_of_ble_eq_true rfl⟩ rfl (Nat.le_of_ble_eq_true rfl) rfl i28 (tm_X7_finding e28) ?_
      obtain ⟨rfl, rfl⟩ := ret_s hf
      exact x_reti (pc := 31) dX7_rapid_31 rfl
    · replace hf := it_f hc hf
      refine x_iload_n (pc := 18) (x := x3) dX7_rapid_18 rfl ?_
      replace hf := bd2_s hf; obtain ⟨v19, h19, e19, hf⟩ := hf
      refine x_cSi (pc := 19) (M' := mX7_isWater) (as := [.int (x3)]) (st := []) dX7_rapid_19 mo_X7_isWater lk_7_83 sm_X7_isWater ⟨Nat.le_of_ble_eq_true rfl, Nat.le_of_ble_eq_true rfl⟩ rfl (Nat.le_of_ble_eq_true rfl) rfl (tm_X7_isWater e19) ?_
      refine x_if_ne (pc := 22) (tgt := 32) (x := v19) dX7_rapid_22 rfl (fun hc => ?_) (fun hc => ?_)
      · replace hf := it_t hc hf
        refine x_iload_n (pc := 32) (x := x2) dX7_rapid_32 rfl ?_
        refine x_iload_n (pc := 33) (x := x3) dX7_rapid_33 rfl ?_
        refine x_icmp_le (pc := 34) (tgt := 44) (x := x2) (y := x3) dX7_rapid_34 rfl (fun hc => ?_) (fun hc => ?_)
        · replace hf := it_t hc hf
          refine x_aload_n (pc := 44) (a := x0) dX7_rapid_44 rfl ?_
          replace hf := bd_s hf; obtain ⟨v45, e45, hf⟩ := hf
          refine x_getR (pc := 45) dX7_rapid_45 fl_7_10 e45 ?_
          replace hf := bd_s hf; obtain ⟨v48, e48, hf⟩ := hf
          refine x_getR (pc := 48) dX7_rapid_48 fl_7_72 e48 ?_
          refine x_iconst (pc := 51) (v := 1) dX7_rapid_51 (by decide) ?_
          replace hf := bd_s hf; obtain ⟨v52, e52, hf⟩ := hf
          refine x_ldI (pc := 52) dX7_rapid_52 e52 ?_
          refine x_istore (pc := 53) (ls' := [some (va_rf (x0)), some (.int (x1)), some (.int (x2)), some (.int (x3)), some (.int (v52))]) dX7_rapid_53 (by decide) rfl ?_
          refine x_iload (pc := 55) (x := v52) dX7_rapid_55 rfl ?_
          refine x_bipush (pc := 57) (v := 10) dX7_rapid_57 (by decide) ?_
          refine x_icmp_lt (pc := 59) (tgt := 69) (x := v52) (y := 10) dX7_rapid_59 rfl (fun hc => ?_) (fun hc => ?_)
          · replace hf := it_t hc hf
            refine x_aload_n (pc := 69) (a := x0) dX7_rapid_69 rfl ?_
            replace hf := bd_s hf; obtain ⟨v70, e70, hf⟩ := hf
            refine x_getR (pc := 70) dX7_rapid_70 fl_7_10 e70 ?_
            replace hf := bd_s hf; obtain ⟨v73, e73, hf⟩ := hf
            refine x_getR (pc := 73) dX7_rapid_73 fl_7_88 e73 ?_
            refine x_iload (pc := 76) (x := v52) dX7_rapid_76 rfl ?_
            refine x_iload_n (pc := 78) (x := x1) dX7_rapid_78 rfl ?_
            replace hf := bd_s hf; obtain ⟨h79, e79, hf⟩ := hf
            refine x_stI (pc := 79) dX7_rapid_79 e79 ?_
            refine x_aload_n (pc := 80) (a := x0) dX7_rapid_80 rfl ?_
            replace hf := bd_s hf; obtain ⟨v81, e81, hf⟩ := hf
            refine x_getR (pc := 81) dX7_rapid_81 fl_7_10 e81 ?_
            replace hf := bd_s hf; obtain ⟨v84, e84, hf⟩ := hf
            refine x_getR (pc := 84) dX7_rapid_84 fl_7_91 e84 ?_
            refine x_iload (pc := 87) (x := v52) dX7_rapid_87 rfl ?_
            refine x_iload_n (pc := 89) (x := x2) dX7_rapid_89 rfl ?_
            replace hf := bd_s hf; obtain ⟨h90, e90, hf⟩ := hf
            refine x_stI (pc := 90) dX7_rapid_90 e90 ?_
            refine x_aload_n (pc := 91) (a := x0) dX7_rapid_91 rfl ?_
            replace hf := bd_s hf; obtain ⟨v92, e92, hf⟩ := hf
            refine x_getR (pc := 92) dX7_rapid_92 fl_7_10 e92 ?_
            replace hf := bd_s hf; obtain ⟨v95, e95, hf⟩ := hf
            refine x_getR (pc := 95) dX7_rapid_95 fl_7_94 e95 ?_
            refine x_iload (pc := 98) (x := v52) dX7_rapid_98 rfl ?_
            refine x_iload_n (pc := 100) (x := x3) dX7_rapid_100 rfl ?_
            replace hf := bd_s hf; obtain ⟨h101, e101, hf⟩ := hf
            refine x_stI (pc := 101) dX7_rapid_101 e101 ?_
            refine x_aload_n (pc := 102) (a := x0) dX7_rapid_102 rfl ?_
            refine x_aload_n (pc := 103) (a := x0) dX7_rapid_103 rfl ?_
            replace hf := bd_s hf; obtain ⟨v104, e104, hf⟩ := hf
            refine x_getR (pc := 104) dX7_rapid_104 fl_7_10 e104 ?_
            replace hf := bd_s hf; obtain ⟨v107, e107, hf⟩ := hf
            refine x_getR (pc := 107) dX7_rapid_107 fl_7_72 e107 ?_
            refine x_iconst (pc := 110) (v := 1) dX7_rapid_110 (by decide) ?_
            refine x_iload (pc := 111) (x := v52) dX7_rapid_111 rfl ?_
            refine x_iconst (pc := 113) (v := 1) dX7_rapid_113 (by decide) ?_
            refine x_iadd (pc := 114) dX7_rapid_114 ?_
            replace hf := bd_s hf; obtain ⟨u115, i115, hf⟩ := hf
            replace hf := bd2_s hf; obtain ⟨v115, h115, e115, hf⟩ := hf
            refine x_cVi (pc := 115) (M' := mX7_change) (as := [va_rf (v107), .int (1), .int (v52 + 1)]) (st := []) (a := x0) (ci := 7) dX7_rapid_115 mo_X7_change lk_7_68 im_X7_change se_X7_change rfl ⟨Nat.le_of_ble_eq_true rfl, Nat.le_of_ble_eq_true rfl⟩ rfl (Nat.le_of_ble_eq_true rfl) rfl i115 (tm_X7_change e115) ?_
            obtain ⟨rfl, rfl⟩ := ret_s hf
            exact x_reti (pc := 118) dX7_rapid_118 rfl
          · replace hf := it_f hc hf
            refine x_aload_n (pc := 62) (a := x0) dX7_rapid_62 rfl ?_
            refine x_ldc (pc := 63) (v := -100005) dX7_rapid_63 kc_7_75 ?_
            replace hf := bd_s hf; obtain ⟨u65, i65, hf⟩ := hf
            replace hf := bd2_s hf; obtain ⟨v65, h65, e65, hf⟩ := hf
            refine x_cVi (pc := 65) (M' := mX7_finding) (as := [.int ((-100005))]) (st := []) (a := x0) (ci := 7) dX7_rapid_65 mo_X7_finding lk_7_60 im_X7_finding se_X7_finding rfl ⟨Nat.le_of_ble_eq_true rfl, Nat.le_of_ble_eq_true rfl⟩ rfl (Nat.le_of_ble_eq_true rfl) rfl i65 (tm_X7_finding e65) ?_
            obtain ⟨rfl, rfl⟩ := ret_s hf
            exact x_reti (pc := 68) dX7_rapid_68 rfl
        · replace hf := it_f hc hf
          refine x_aload_n (pc := 37) (a := x0) dX7_rapid_37 rfl ?_
          refine x_ldc (pc := 38) (v := -100003) dX7_rapid_38 kc_7_87 ?_
          replace hf := bd_s hf; obtain ⟨u40, i40, hf⟩ := hf
          replace hf := bd2_s hf; obtain ⟨v40, h40, e40, hf⟩ := hf
          refine x_cVi (pc := 40) (M' := mX7_finding) (as := [.int ((-100003))]) (st := []) (a := x0) (ci := 7) dX7_rapid_40 mo_X7_finding lk_7_60 im_X7_finding se_X7_finding rfl ⟨Nat.le_of_ble_eq_true rfl, Nat.le_of_ble_eq_true rfl⟩ rfl (Nat.le_of_ble_eq_true rfl) rfl i40 (tm_X7_finding e40) ?_
          obtain ⟨rfl, rfl⟩ := ret_s hf
          exact x_reti (pc := 43) dX7_rapid_43 rfl
      · replace hf := it_n hc hf
        refine x_aload_n (pc := 25) (a := x0) dX7_rapid_25 rfl ?_
        refine x_ldc (pc := 26) (v := -100001) dX7_rapid_26 kc_7_59 ?_
        replace hf := bd_s hf; obtain ⟨u28, i28, hf⟩ := hf
        replace hf := bd2_s hf; obtain ⟨v28, h28, e28, hf⟩ := hf
        refine x_cVi (pc := 28) (M' := mX7_finding) (as := [.int ((-100001))]) (st := []) (a := x0) (ci := 7) dX7_rapid_28 mo_X7_finding lk_7_60 im_X7_finding se_X7_finding rfl ⟨Nat.le_of_ble_eq_true rfl, Nat.le_of_ble_eq_true rfl⟩ rfl (Nat.le_of_ble_eq_true rfl) rfl i28 (tm_X7_finding e28) ?_
        obtain ⟨rfl, rfl⟩ := ret_s hf
        exact x_reti (pc := 31) dX7_rapid_31 rfl

def f_X7_runs (h : AH) (x0 : Option Nat) (x1 : Int32) (x2 : Int32) (x3 : Int32) : Option (Int32 × AH) :=
  bd (gR h x0 7 0) fun v3 =>
  bd (gR h v3 4 1) fun v6 =>
  bd (ldI h v6 1) fun v10 =>
  bd2 (f_X7_within h x1 0 (v10 - 1)) fun v13 h13 =>
  if v13 = 0 then (
    bd (isO h13 x0 7) fun _ =>
    bd2 (f_X7_finding h13 x0 (-100001)) fun v36 h36 =>
    some (v36, h36)
  ) else (
    bd2 (f_X7_isDay h13 x2) fun v20 h20 =>
    if v20 = 0 then (
      bd (isO h20 x0 7) fun _ =>
      bd2 (f_X7_finding h20 x0 (-100001)) fun v36 h36 =>
      some (v36, h36)
    ) else (
      bd2 (f_X7_isKind h20 x3) fun v27 h27 =>
      if ¬ v27 = 0 then (
        bd (gR h27 x0 7 0) fun v41 =>
        bd (isO h27 v41 4) fun _ =>
        bd2 (f_X4_firstHour h27 v41 x1 x2 x3) fun v47 h47 =>
        some (v47, h47)
      ) else (
        bd (isO h27 x0 7) fun _ =>
        bd2 (f_X7_finding h27 x0 (-100001)) fun v36 h36 =>
        some (v36, h36)
      )
    )
  )

set_option maxRecDepth 100000 in
set_option maxHeartbeats 4000000 in
theorem tm_X7_runs {g : GT} {h : AH} {x0 : Option Nat} {x1 : Int32} {x2 : Int32} {x3 : Int32} {r : Int32} {h' : AH} (hf : f_X7_runs h x0 x1 x2 x3 = some (r, h')) : Xm g mX7_runs [va_rf (x0), .int (x1), .int (x2), .int (x3)] h (some (.int r)) h' := by
  refine xm_of mo_X7_runs (Nat.le_of_ble_eq_true rfl) (ls := [some (va_rf (x0)), some (.int (x1)), some (.int (x2)), some (.int (x3))]) rfl ?_
  rw [f_X7_runs] at hf
  refine x_iload_n (pc := 0) (x := x1) dX7_runs_0 rfl ?_
  refine x_iconst (pc := 1) (v := 0) dX7_runs_1 (by decide) ?_
  refine x_aload_n (pc := 2) (a := x0) dX7_runs_2 rfl ?_
  replace hf := bd_s hf; obtain ⟨v3, e3, hf⟩ := hf
  refine x_getR (pc := 3) dX7_runs_3 fl_7_10 e3 ?_
  replace hf := bd_s hf; obtain ⟨v6, e6, hf⟩ := hf
  refine x_getR (pc := 6) dX7_runs_6 fl_7_72 e6 ?_
  refine x_iconst (pc := 9) (v := 1) dX7_runs_9 (by decide) ?_
  replace hf := bd_s hf; obtain ⟨v10, e10, hf⟩ := hf
  refine x_ldI (pc := 10) dX7_runs_10 e10 ?_
  refine x_iconst (pc := 11) (v := 1) dX7_runs_11 (by decide) ?_
  refine x_isub (pc := 12) dX7_runs_12 ?_
  replace hf := bd2_s hf; obtain ⟨v13, h13, e13, hf⟩ := hf
  refine x_cSi (pc := 13) (M' := mX7_within) (as := [.int (x1), .int (0), .int (v10 - 1)]) (st := []) dX7_runs_13 mo_X7_within lk_7_55 sm_X7_within ⟨Nat.le_of_ble_eq_true rfl, Nat.le_of_ble_eq_true rfl⟩ rfl (Nat.le_of_ble_eq_true rfl) rfl (tm_X7_within e13) ?_
  refine x_if_eq (pc := 16) (tgt := 33) (x := v13) dX7_runs_16 rfl (fun hc => ?_) (fun hc => ?_)
  · replace hf := it_t hc hf
    refine x_aload_n (pc := 33) (a := x0) dX7_runs_33 rfl ?_
    refine x_ldc (pc := 34) (v := -100001) dX7_runs_34 kc_7_59 ?_
    replace hf := bd_s hf; obtain ⟨u36, i36, hf⟩ := hf
    replace hf := bd2_s hf; obtain ⟨v36, h36, e36, hf⟩ := hf
    refine x_cVi (pc := 36) (M' := mX7_finding) (as := [.int ((-100001))]) (st := []) (a := x0) (ci := 7) dX7_runs_36 mo_X7_finding lk_7_60 im_X7_finding se_X7_finding rfl ⟨Nat.le_of_ble_eq_true rfl, Nat.le_of_ble_eq_true rfl⟩ rfl (Nat.le_of_ble_eq_true rfl) rfl i36 (tm_X7_finding e36) ?_
    obtain ⟨rfl, rfl⟩ := ret_s hf
    exact x_reti (pc := 39) dX7_runs_39 rfl
  · replace hf := it_f hc hf
    refine x_iload_n (pc := 19) (x := x2) dX7_runs_19 rfl ?_
    replace hf := bd2_s hf; obtain ⟨v20, h20, e20, hf⟩ := hf
    refine x_cSi (pc := 20) (M' := mX7_isDay) (as := [.int (x2)]) (st := []) dX7_runs_20 mo_X7_isDay lk_7_103 sm_X7_isDay ⟨Nat.le_of_ble_eq_true rfl, Nat.le_of_ble_eq_true rfl⟩ rfl (Nat.le_of_ble_eq_true rfl) rfl (tm_X7_isDay e20) ?_
    refine x_if_eq (pc := 23) (tgt := 33) (x := v20) dX7_runs_23 rfl (fun hc => ?_) (fun hc => ?_)
    · replace hf := it_t hc hf
      refine x_aload_n (pc := 33) (a := x0) dX7_runs_33 rfl ?_
      refine x_ldc (pc := 34) (v := -100001) dX7_runs_34 kc_7_59 ?_
      replace hf := bd_s hf; obtain ⟨u36, i36, hf⟩ := hf
      replace hf := bd2_s hf; obtain ⟨v36, h36, e36, hf⟩ := hf
      refine x_cVi (pc := 36) (M' := mX7_finding) (as := [.int ((-100001))]) (st := []) (a := x0) (ci := 7) dX7_runs_36 mo_X7_finding lk_7_60 im_X7_finding se_X7_finding rfl ⟨Nat.le_of_ble_eq_true rfl, Nat.le_of_ble_eq_true rfl⟩ rfl (Nat.le_of_ble_eq_true rfl) rfl i36 (tm_X7_finding e36) ?_
      obtain ⟨rfl, rfl⟩ := ret_s hf
      exact x_reti (pc := 39) dX7_runs_39 rfl
    · replace hf := it_f hc hf
      refine x_iload_n (pc := 26) (x := x3) dX7_runs_26 rfl ?_
      replace hf := bd2_s hf; obtain ⟨v27, h27, e27, hf⟩ := hf
      refine x_cSi (pc := 27) (M' := mX7_isKind) (as := [.int (x3)]) (st := []) dX7_runs_27 mo_X7_isKind lk_7_113 sm_X7_isKind ⟨Nat.le_of_ble_eq_true rfl, Nat.le_of_ble_eq_true rfl⟩ rfl (Nat.le_of_ble_eq_true rfl) rfl (tm_X7_isKind e27) ?_
      refine x_if_ne (pc := 30) (tgt := 40) (x := v27) dX7_runs_30 rfl (fun hc => ?_) (fun hc => ?_)
      · replace hf := it_t hc hf
        refine x_aload_n (pc := 40) (a := x0) dX7_runs_40 rfl ?_
        replace hf := bd_s hf; obtain ⟨v41, e41, hf⟩ := hf
        refine x_getR (pc := 41) dX7_runs_41 fl_7_10 e41 ?_
        refine x_iload_n (pc := 44) (x := x1) dX7_runs_44 rfl ?_
        refine x_iload_n (pc := 45) (x := x2) dX7_runs_45 rfl ?_
        refine x_iload_n (pc := 46) (x := x3) dX7_runs_46 rfl ?_
        replace hf := bd_s hf; obtain ⟨u47, i47, hf⟩ := hf
        replace hf := bd2_s hf; obtain ⟨v47, h47, e47, hf⟩ := hf
        refine x_cVi (pc := 47) (M' := mX4_firstHour) (as := [.int (x1), .int (x2), .int (x3)]) (st := []) (a := v41) (ci := 4) dX7_runs_47 mo_X4_firstHour lk_7_116 im_X4_firstHour se_X4_firstHour rfl ⟨Nat.le_of_ble_eq_true rfl, Nat.le_of_ble_eq_true rfl⟩ rfl (Nat.le_of_ble_eq_true rfl) rfl i47 (tm_X4_firstHour e47) ?_
        obtain ⟨rfl, rfl⟩ := ret_s hf
        exact x_reti (pc := 50) dX7_runs_50 rfl
      · replace hf := it_n hc hf
        refine x_aload_n (pc := 33) (a := x0) dX7_runs_33 rfl ?_
        refine x_ldc (pc := 34) (v := -100001) dX7_runs_34 kc_7_59 ?_
        replace hf := bd_s hf; obtain ⟨u36, i36, hf⟩ := hf
        replace hf := bd2_s hf; obtain ⟨v36, h36, e36, hf⟩ := hf
        refine x_cVi (pc := 36) (M' := mX7_finding) (as := [.int ((-100001))]) (st := []) (a := x0) (ci := 7) dX7_runs_36 mo_X7_finding lk_7_60 im_X7_finding se_X7_finding rfl ⟨Nat.le_of_ble_eq_true rfl, Nat.le_of_ble_eq_true rfl⟩ rfl (Nat.le_of_ble_eq_true rfl) rfl i36 (tm_X7_finding e36) ?_
        obtain ⟨rfl, rfl⟩ := ret_s hf
        exact x_reti (pc := 39) dX7_runs_39 rfl

def j_X7_sheet_36 (h : AH) (x0 : Option Nat) (x1 : Int32) (x2 : Int32) (x3 : Int32) : Option (Int32 × AH) :=
  if 0 ≤ x3 then (
    if x3 ≤ 40 then (
      bd (gR h x0 7 5) fun v61 =>
      bd (ldR h v61 2 x1) fun v65 =>
      bd (isO h v65 5) fun _ =>
      bd2 (f_X5_renew h v65 x2 x3) fun v68 h68 =>
      some (v68, h68)
    ) else (
      bd (isO h x0 7) fun _ =>
      bd2 (f_X7_finding h x0 (-100001)) fun v56 h56 =>
      some (v56, h56)
    )
  ) else (
    bd (isO h x0 7) fun _ =>
    bd2 (f_X7_finding h x0 (-100003)) fun v43 h43 =>
    some (v43, h43)
  )

set_option maxRecDepth 100000 in
set_option maxHeartbeats 4000000 in
theorem tj_X7_sheet_36 {g : GT} {h : AH} {x0 : Option Nat} {x1 : Int32} {x2 : Int32} {x3 : Int32} {r : Int32} {h' : AH} (hf : j_X7_sheet_36 h x0 x1 x2 x3 = some (r, h')) : Xj g mX7_sheet h 36 [some (va_rf (x0)), some (.int (x1)), some (.int (x2)), some (.int (x3))] [] (some (.int r)) h' := by
  rw [j_X7_sheet_36] at hf
  refine x_iload_n (pc := 36) (x := x3) dX7_sheet_36 rfl ?_
  refine x_if_ge (pc := 37) (tgt := 47) (x := x3) dX7_sheet_37 rfl (fun hc => ?_) (fun hc => ?_)
  · replace hf := it_t hc hf
    refine x_iload_n (pc := 47) (x := x3) dX7_sheet_47 rfl ?_
    refine x_bipush (pc := 48) (v := 40) dX7_sheet_48 (by decide) ?_
    refine x_icmp_le (pc := 50) (tgt := 60) (x := x3) (y := 40) dX7_sheet_50 rfl (fun hc => ?_) (fun hc => ?_)
    · replace hf := it_t hc hf
      refine x_aload_n (pc := 60) (a := x0) dX7_sheet_60 rfl ?_
      replace hf := bd_s hf; obtain ⟨v61, e61, hf⟩ := hf
      refine x_getR (pc := 61) dX7_sheet_61 fl_7_46 e61 ?_
      refine x_iload_n (pc := 64) (x := x1) dX7_sheet_64 rfl ?_
      replace hf := bd_s hf; obtain ⟨v65, e65, hf⟩ := hf
      refine x_ldR (pc := 65) (by decide) dX7_sheet_65 e65 ?_
      refine x_iload_n (pc := 66) (x := x2) dX7_sheet_66 rfl ?_
      refine x_iload_n (pc := 67) (x := x3) dX7_sheet_67 rfl ?_
      replace hf := bd_s hf; obtain ⟨u68, i68, hf⟩ := hf
      replace hf := bd2_s hf; obtain ⟨v68, h68, e68, hf⟩ := hf
      refine x_cVi (pc := 68) (M' := mX5_renew) (as := [.int (x2), .int (x3)]) (st := []) (a := v65) (ci := 5) dX7_sheet_68 mo_X5_renew lk_7_231 im_X5_renew se_X5_renew rfl ⟨Nat.le_of_ble_eq_true rfl, Nat.le_of_ble_eq_true rfl⟩ rfl (Nat.le_of_ble_eq_true rfl) rfl i68 (tm_X5_renew e68) ?_
      obtain ⟨rfl, rfl⟩ := ret_s hf
      exact x_reti (pc := 71) dX7_sheet_71 rfl
    · replace hf := it_f hc hf
      refine x_aload_n (pc := 53) (a := x0) dX7_sheet_53 rfl ?_
      refine x_ldc (pc := 54) (v := -100001) dX7_sheet_54 kc_7_59 ?_
      replace hf := bd_s hf; obtain ⟨u56, i56, hf⟩ := hf
      replace hf := bd2_s hf; obtain ⟨v56, h56, e56, hf⟩ := hf
      refine x_cVi (pc := 56) (M' := mX7_finding) (as := [.int ((-100001))]) (st := []) (a := x0) (ci := 7) dX7_sheet_56 mo_X7_finding lk_7_60 im_X7_finding se_X7_finding rfl ⟨Nat.le_of_ble_eq_true rfl, Nat.le_of_ble_eq_true rfl⟩ rfl (Nat.le_of_ble_eq_true rfl) rfl i56 (tm_X7_finding e56) ?_
      obtain ⟨rfl, rfl⟩ := ret_s hf
      exact x_reti (pc := 59) dX7_sheet_59 rfl
  · replace hf := it_f hc hf
    refine x_aload_n (pc := 40) (a := x0) dX7_sheet_40 rfl ?_
    refine x_ldc (pc := 41) (v := -100003) dX7_sheet_41 kc_7_87 ?_
    replace hf := bd_s hf; obtain ⟨u43, i43, hf⟩ := hf
    replace hf := bd2_s hf; obtain ⟨v43, h43, e43, hf⟩ := hf
    refine x_cVi (pc := 43) (M' := mX7_finding) (as := [.int ((-100003))]) (st := []) (a := x0) (ci := 7) dX7_sheet_43 mo_X7_finding lk_7_60 im_X7_finding se_X7_finding rfl ⟨Nat.le_of_ble_eq_true rfl, Nat.le_of_ble_eq_true rfl⟩ rfl (Nat.le_of_ble_eq_true rfl) rfl i43 (tm_X7_finding e43) ?_
    obtain ⟨rfl, rfl⟩ := ret_s hf
    exact x_reti (pc := 46) dX7_sheet_46 rfl

def f_X7_sheet (h : AH) (x0 : Option Nat) (x1 : Int32) (x2 : Int32) (x3 : Int32) : Option (Int32 × AH) :=
  bd2 (f_X7_isSheet h x1) fun v1 h1 =>
  if v1 = 0 then (
    bd (isO h1 x0 7) fun _ =>
    bd2 (f_X7_finding h1 x0 (-100001)) fun v32 h32 =>
    some (v32, h32)
  ) else (
    if x2 = 0 then (
      j_X7_sheet_36  h1 x0 x1 x2 x3
    ) else (
      if x2 = 8 then (
        j_X7_sheet_36  h1 x0 x1 x2 x3
      ) else (
        if x2 = 16 then (
          j_X7_sheet_36  h1 x0 x1 x2 x3
        ) else (
          if x2 = 32 then (
            j_X7_sheet_36  h1 x0 x1 x2 x3
          ) else (
            bd (isO h1 x0 7) fun _ =>
            bd2 (f_X7_finding h1 x0 (-100001)) fun v32 h32 =>
            some (v32, h32)
          )
        )
      )
    )
  )

set_option maxRecDepth 100000 in
set_option maxHeartbeats 4000000 in
theorem tm_X7_sheet {g : GT} {h : AH} {x0 : Option Nat} {x1 : Int32} {x2 : Int32} {x3 : Int32} {r : Int32} {h' : AH} (hf : f_X7_sheet h x0 x1 x2 x3 = some (r, h')) : Xm g mX7_sheet [va_rf (x0), .int (x1), .int (x2), .int (x3)] h (some (.int r)) h' := by
  refine xm_of mo_X7_sheet (Nat.le_of_ble_eq_true rfl) (ls := [some (va_rf (x0)), some (.int (x1)), some (.int (x2)), some (.int (x3))]) rfl ?_
  rw [f_X7_sheet] at hf
  refine x_iload_n (pc := 0) (x := x1) dX7_sheet_0 rfl ?_
  replace hf := bd2_s hf; obtain ⟨v1, h1, e1, hf⟩ := hf
  refine x_cSi (pc := 1) (M' := mX7_isSheet) (as := [.int (x1)]) (st := []) dX7_sheet_1 mo_X7_isSheet lk_7_228 sm_X7_isSheet ⟨Nat.le_of_ble_eq_true rfl, Nat.le_of_ble_eq_true rfl⟩ rfl (Nat.le_of_ble_eq_true rfl) rfl (tm_X7_isSheet e1) ?_
  refine x_if_eq (pc := 4) (tgt := 29) (x := v1) dX7_sheet_4 rfl (fun hc => ?_) (fun hc => ?_)
  · replace hf := it_t hc hf
    refine x_aload_n (pc := 29) (a := x0) dX7_sheet_29 rfl ?_
    refine x_ldc (pc := 30) (v := -100001) dX7_sheet_30 kc_7_59 ?_
    replace hf := bd_s hf; obtain ⟨u32, i32, hf⟩ := hf
    replace hf := bd2_s hf; obtain ⟨v32, h32, e32, hf⟩ := hf
    refine x_cVi (pc := 32) (M' := mX7_finding) (as := [.int ((-100001))]) (st := []) (a := x0) (ci := 7) dX7_sheet_32 mo_X7_finding lk_7_60 im_X7_finding se_X7_finding rfl ⟨Nat.le_of_ble_eq_true rfl, Nat.le_of_ble_eq_true rfl⟩ rfl (Nat.le_of_ble_eq_true rfl) rfl i32 (tm_X7_finding e32) ?_
    obtain ⟨rfl, rfl⟩ := ret_s hf
    exact x_reti (pc := 35) dX7_sheet_35 rfl
  · replace hf := it_f hc hf
    refine x_iload_n (pc := 7) (x := x2) dX7_sheet_7 rfl ?_
    refine x_if_eq (pc := 8) (tgt := 36) (x := x2) dX7_sheet_8 rfl (fun hc => ?_) (fun hc => ?_)
    · replace hf := it_t hc hf
      exact tj_X7_sheet_36  hf
    · replace hf := it_f hc hf
      refine x_iload_n (pc := 11) (x := x2) dX7_sheet_11 rfl ?_
      refine x_bipush (pc := 12) (v := 8) dX7_sheet_12 (by decide) ?_
      refine x_icmp_eq (pc := 14) (tgt := 36) (x := x2) (y := 8) dX7_sheet_14 rfl (fun hc => ?_) (fun hc => ?_)
      · replace hf := it_t hc hf
        exact tj_X7_sheet_36  hf
      · replace hf := it_f hc hf
        refine x_iload_n (pc := 17) (x := x2) dX7_sheet_17 rfl ?_
        refine x_bipush (pc := 18) (v := 16) dX7_sheet_18 (by decide) ?_
        refine x_icmp_eq (pc := 20) (tgt := 36) (x := x2) (y := 16) dX7_sheet_20 rfl (fun hc => ?_) (fun hc => ?_)
        · replace hf := it_t hc hf
          exact tj_X7_sheet_36  hf
        · replace hf := it_f hc hf
          refine x_iload_n (pc := 23) (x := x2) dX7_sheet_23 rfl ?_
          refine x_bipush (pc := 24) (v := 32) dX7_sheet_24 (by decide) ?_
          refine x_icmp_eq (pc := 26) (tgt := 36) (x := x2) (y := 32) dX7_sheet_26 rfl (fun hc => ?_) (fun hc => ?_)
          · replace hf := it_t hc hf
            exact tj_X7_sheet_36  hf
          · replace hf := it_f hc hf
            refine x_aload_n (pc := 29) (a := x0) dX7_sheet_29 rfl ?_
            refine x_ldc (pc := 30) (v := -100001) dX7_sheet_30 kc_7_59 ?_
            replace hf := bd_s hf; obtain ⟨u32, i32, hf⟩ := hf
            replace hf := bd2_s hf; obtain ⟨v32, h32, e32, hf⟩ := hf
            refine x_cVi (pc := 32) (M' := mX7_finding) (as := [.int ((-100001))]) (st := []) (a := x0) (ci := 7) dX7_sheet_32 mo_X7_finding lk_7_60 im_X7_finding se_X7_finding rfl ⟨Nat.le_of_ble_eq_true rfl, Nat.le_of_ble_eq_true rfl⟩ rfl (Nat.le_of_ble_eq_true rfl) rfl i32 (tm_X7_finding e32) ?_
            obtain ⟨rfl, rfl⟩ := ret_s hf
            exact x_reti (pc := 35) dX7_sheet_35 rfl

def f_X7_speed (h : AH) (x0 : Option Nat) (x1 : Int32) : Option (Int32 × AH) :=
  bd2 (f_X7_within h x1 1 9) fun v4 h4 =>
  if ¬ v4 = 0 then (
    bd (gR h4 x0 7 0) fun v19 =>
    bd (gR h4 v19 4 0) fun v22 =>
    bd (isO h4 x0 7) fun _ =>
    bd2 (f_X7_change h4 x0 v22 1 x1) fun v27 h27 =>
    some (v27, h27)
  ) else (
    bd (isO h4 x0 7) fun _ =>
    bd2 (f_X7_finding h4 x0 (-100001)) fun v13 h13 =>
    some (v13, h13)
  )

set_option maxRecDepth 100000 in
set_option maxHeartbeats 4000000 in
theorem tm_X7_speed {g : GT} {h : AH} {x0 : Option Nat} {x1 : Int32} {r : Int32} {h' : AH} (hf : f_X7_speed h x0 x1 = some (r, h')) : Xm g mX7_speed [va_rf (x0), .int (x1)] h (some (.int r)) h' := by
  refine xm_of mo_X7_speed (Nat.le_of_ble_eq_true rfl) (ls := [some (va_rf (x0)), some (.int (x1))]) rfl ?_
  rw [f_X7_speed] at hf
  refine x_iload_n (pc := 0) (x := x1) dX7_speed_0 rfl ?_
  refine x_iconst (pc := 1) (v := 1) dX7_speed_1 (by decide) ?_
  refine x_bipush (pc := 2) (v := 9) dX7_speed_2 (by decide) ?_
  replace hf := bd2_s hf; obtain ⟨v4, h4, e4, hf⟩ := hf
  refine x_cSi (pc := 4) (M' := mX7_within) (as := [.int (x1), .int (1), .int (9)]) (st := []) dX7_speed_4 mo_X7_within lk_7_55 sm_X7_within ⟨Nat.le_of_ble_eq_true rfl, Nat.le_of_ble_eq_true rfl⟩ rfl (Nat.le_of_ble_eq_true rfl) rfl (tm_X7_within e4) ?_
  refine x_if_ne (pc := 7) (tgt := 17) (x := v4) dX7_speed_7 rfl (fun hc => ?_) (fun hc => ?_)
  · replace hf := it_t hc hf
    refine x_aload_n (pc := 17) (a := x0) dX7_speed_17 rfl ?_
    refine x_aload_n (pc := 18) (a := x0) dX7_speed_18 rfl ?_
    replace hf := bd_s hf; obtain ⟨v19, e19, hf⟩ := hf
    refine x_getR (pc := 19) dX7_speed_19 fl_7_10 e19 ?_
    replace hf := bd_s hf; obtain ⟨v22, e22, hf⟩ := hf
    refine x_getR (pc := 22) dX7_speed_22 fl_7_64 e22 ?_
    refine x_iconst (pc := 25) (v := 1) dX7_speed_25 (by decide) ?_
    refine x_iload_n (pc := 26) (x := x1) dX7_speed_26 rfl ?_
    replace hf := bd_s hf; obtain ⟨u27, i27, hf⟩ := hf
    replace hf := bd2_s hf; obtain ⟨v27, h27, e27, hf⟩ := hf
    refine x_cVi (pc := 27) (M' := mX7_change) (as := [va_rf (v22), .int (1), .int (x1)]) (st := []) (a := x0) (ci := 7) dX7_speed_27 mo_X7_change lk_7_68 im_X7_change se_X7_change rfl ⟨Nat.le_of_ble_eq_true rfl, Nat.le_of_ble_eq_true rfl⟩ rfl (Nat.le_of_ble_eq_true rfl) rfl i27 (tm_X7_change e27) ?_
    obtain ⟨rfl, rfl⟩ := ret_s hf
    exact x_reti (pc := 30) dX7_speed_30 rfl
  · replace hf := it_n hc hf
    refine x_aload_n (pc := 10) (a := x0) dX7_speed_10 rfl ?_
    refine x_ldc (pc := 11) (v := -100001) dX7_speed_11 kc_7_59 ?_
    replace hf := bd_s hf; obtain ⟨u13, i13, hf⟩ := hf
    replace hf := bd2_s hf; obtain ⟨v13, h13, e13, hf⟩ := hf
    refine x_cVi (pc := 13) (M' := mX7_finding) (as := [.int ((-100001))]) (st := []) (a := x0) (ci := 7) dX7_speed_13 mo_X7_finding lk_7_60 im_X7_finding se_X7_finding rfl ⟨Nat.le_of_ble_eq_true rfl, Nat.le_of_ble_eq_true rfl⟩ rfl (Nat.le_of_ble_eq_true rfl) rfl i13 (tm_X7_finding e13) ?_
    obtain ⟨rfl, rfl⟩ := ret_s hf
    exact x_reti (pc := 16) dX7_speed_16 rfl
