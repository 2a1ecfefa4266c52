def j_X8_night_76 (h : AH) (x0 : Option Nat) (x1 : Int32) (x2 : Int32) (x3 : Int32) : Option (Int32 × AH) :=
  bd (isO h x0 8) fun _ =>
  bd2 (f_X8_becomes h x0 ((244 + (30 * x1)) + x2) x3) fun v88 h88 =>
  some (v88, h88)

set_option maxRecDepth 100000 in
set_option maxHeartbeats 4000000 in
theorem tj_X8_night_76 {g : GT} {h : AH} {x0 : Option Nat} {x1 : Int32} {x2 : Int32} {x3 : Int32} {r : Int32} {h' : AH} (hf : j_X8_night_76 h x0 x1 x2 x3 = some (r, h')) : Xj g mX8_night h 76 [some (va_rf (x0)), some (.int (x1)), some (.int (x2)), some (.int (x3))] [] (some (.int r)) h' := by
  rw [j_X8_night_76] at hf
  refine x_aload_n (pc := 76) (a := x0) dX8_night_76 rfl ?_
  refine x_sipush (pc := 77) (v := 244) dX8_night_77 (by decide) ?_
  refine x_bipush (pc := 80) (v := 30) dX8_night_80 (by decide) ?_
  refine x_iload_n (pc := 82) (x := x1) dX8_night_82 rfl ?_
  refine x_imul (pc := 83) dX8_night_83 ?_
  refine x_iadd (pc := 84) dX8_night_84 ?_
  refine x_iload_n (pc := 85) (x := x2) dX8_night_85 rfl ?_
  refine x_iadd (pc := 86) dX8_night_86 ?_
  refine x_iload_n (pc := 87) (x := x3) dX8_night_87 rfl ?_
  replace hf := bd_s hf; obtain ⟨u88, i88, hf⟩ := hf
  replace hf := bd2_s hf; obtain ⟨v88, h88, e88, hf⟩ := hf
  refine x_cVi (pc := 88) (M' := mX8_becomes) (as := [.int ((244 + (30 * x1)) + x2), .int (x3)]) (st := []) (a := x0) (ci := 8) dX8_night_88 mo_X8_becomes lk_8_63 im_X8_becomes se_X8_becomes rfl ⟨Nat.le_of_ble_eq_true rfl, Nat.le_of_ble_eq_true rfl⟩ rfl (Nat.le_of_ble_eq_true rfl) rfl i88 (tm_X8_becomes e88) ?_
  obtain ⟨rfl, rfl⟩ := ret_s hf
  exact x_reti (pc := 91) dX8_night_91 rfl

def j_X8_night_56 (h : AH) (x0 : Option Nat) (x1 : Int32) (x2 : Int32) (x3 : Int32) : Option (Int32 × AH) :=
  if x3 < 0 then (
    j_X8_night_76  h x0 x1 x2 x3
  ) else (
    bd (isO h x0 8) fun _ =>
    bd2 (f_X8_mayCamp h x0 x1 x3) fun v63 h63 =>
    if ¬ v63 = 0 then (
      j_X8_night_76  h63 x0 x1 x2 x3
    ) else (
      bd (isO h63 x0 8) fun _ =>
      bd2 (f_X8_finding h63 x0 (-100004)) fun v72 h72 =>
      some (v72, h72)
    )
  )

set_option maxRecDepth 100000 in
set_option maxHeartbeats 4000000 in
theorem tj_X8_night_56 {g : GT} {h : AH} {x0 : Option Nat} {x1 : Int32} {x2 : Int32} {x3 : Int32} {r : Int32} {h' : AH} (hf : j_X8_night_56 h x0 x1 x2 x3 = some (r, h')) : Xj g mX8_night h 56 [some (va_rf (x0)), some (.int (x1)), some (.int (x2)), some (.int (x3))] [] (some (.int r)) h' := by
  rw [j_X8_night_56] at hf
  refine x_iload_n (pc := 56) (x := x3) dX8_night_56 rfl ?_
  refine x_if_lt (pc := 57) (tgt := 76) (x := x3) dX8_night_57 rfl (fun hc => ?_) (fun hc => ?_)
  · replace hf := it_t hc hf
    exact tj_X8_night_76  hf
  · replace hf := it_f hc hf
    refine x_aload_n (pc := 60) (a := x0) dX8_night_60 rfl ?_
    refine x_iload_n (pc := 61) (x := x1) dX8_night_61 rfl ?_
    refine x_iload_n (pc := 62) (x := x3) dX8_night_62 rfl ?_
    replace hf := bd_s hf; obtain ⟨u63, i63, hf⟩ := hf
    replace hf := bd2_s hf; obtain ⟨v63, h63, e63, hf⟩ := hf
    refine x_cVi (pc := 63) (M' := mX8_mayCamp) (as := [.int (x1), .int (x3)]) (st := []) (a := x0) (ci := 8) dX8_night_63 mo_X8_mayCamp lk_8_105 im_X8_mayCamp se_X8_mayCamp rfl ⟨Nat.le_of_ble_eq_true rfl, Nat.le_of_ble_eq_true rfl⟩ rfl (Nat.le_of_ble_eq_true rfl) rfl i63 (tm_X8_mayCamp e63) ?_
    refine x_if_ne (pc := 66) (tgt := 76) (x := v63) dX8_night_66 rfl (fun hc => ?_) (fun hc => ?_)
    · replace hf := it_t hc hf
      exact tj_X8_night_76  hf
    · replace hf := it_n hc hf
      refine x_aload_n (pc := 69) (a := x0) dX8_night_69 rfl ?_
      refine x_ldc (pc := 70) (v := -100004) dX8_night_70 kc_8_97 ?_
      replace hf := bd_s hf; obtain ⟨u72, i72, hf⟩ := hf
      replace hf := bd2_s hf; obtain ⟨v72, h72, e72, hf⟩ := hf
      refine x_cVi (pc := 72) (M' := mX8_finding) (as := [.int ((-100004))]) (st := []) (a := x0) (ci := 8) dX8_night_72 mo_X8_finding lk_8_56 im_X8_finding se_X8_finding rfl ⟨Nat.le_of_ble_eq_true rfl, Nat.le_of_ble_eq_true rfl⟩ rfl (Nat.le_of_ble_eq_true rfl) rfl i72 (tm_X8_finding e72) ?_
      obtain ⟨rfl, rfl⟩ := ret_s hf
      exact x_reti (pc := 75) dX8_night_75 rfl

def j_X8_night_35 (h : AH) (x0 : Option Nat) (x1 : Int32) (x2 : Int32) (x3 : Int32) : Option (Int32 × AH) :=
  if x3 < 0 then (
    j_X8_night_56  h x0 x1 x2 x3
  ) else (
    bd (isO h x0 8) fun _ =>
    bd2 (f_X8_other h x0 x3 x2 x1) fun v43 h43 =>
    if v43 < 0 then (
      j_X8_night_56  h43 x0 x1 x2 x3
    ) else (
      bd (isO h43 x0 8) fun _ =>
      bd2 (f_X8_finding h43 x0 (-100007)) fun v52 h52 =>
      some (v52, h52)
    )
  )

set_option maxRecDepth 100000 in
set_option maxHeartbeats 4000000 in
theorem tj_X8_night_35 {g : GT} {h : AH} {x0 : Option Nat} {x1 : Int32} {x2 : Int32} {x3 : Int32} {r : Int32} {h' : AH} (hf : j_X8_night_35 h x0 x1 x2 x3 = some (r, h')) : Xj g mX8_night h 35 [some (va_rf (x0)), some (.int (x1)), some (.int (x2)), some (.int (x3))] [] (some (.int r)) h' := by
  rw [j_X8_night_35] at hf
  refine x_iload_n (pc := 35) (x := x3) dX8_night_35 rfl ?_
  refine x_if_lt (pc := 36) (tgt := 56) (x := x3) dX8_night_36 rfl (fun hc => ?_) (fun hc => ?_)
  · replace hf := it_t hc hf
    exact tj_X8_night_56  hf
  · replace hf := it_f hc hf
    refine x_aload_n (pc := 39) (a := x0) dX8_night_39 rfl ?_
    refine x_iload_n (pc := 40) (x := x3) dX8_night_40 rfl ?_
    refine x_iload_n (pc := 41) (x := x2) dX8_night_41 rfl ?_
    refine x_iload_n (pc := 42) (x := x1) dX8_night_42 rfl ?_
    replace hf := bd_s hf; obtain ⟨u43, i43, hf⟩ := hf
    replace hf := bd2_s hf; obtain ⟨v43, h43, e43, hf⟩ := hf
    refine x_cVi (pc := 43) (M' := mX8_other) (as := [.int (x3), .int (x2), .int (x1)]) (st := []) (a := x0) (ci := 8) dX8_night_43 mo_X8_other lk_8_101 im_X8_other se_X8_other rfl ⟨Nat.le_of_ble_eq_true rfl, Nat.le_of_ble_eq_true rfl⟩ rfl (Nat.le_of_ble_eq_true rfl) rfl i43 (tm_X8_other e43) ?_
    refine x_if_lt (pc := 46) (tgt := 56) (x := v43) dX8_night_46 rfl (fun hc => ?_) (fun hc => ?_)
    · replace hf := it_t hc hf
      exact tj_X8_night_56  hf
    · replace hf := it_f hc hf
      refine x_aload_n (pc := 49) (a := x0) dX8_night_49 rfl ?_
      refine x_ldc (pc := 50) (v := -100007) dX8_night_50 kc_8_104 ?_
      replace hf := bd_s hf; obtain ⟨u52, i52, hf⟩ := hf
      replace hf := bd2_s hf; obtain ⟨v52, h52, e52, hf⟩ := hf
      refine x_cVi (pc := 52) (M' := mX8_finding) (as := [.int ((-100007))]) (st := []) (a := x0) (ci := 8) dX8_night_52 mo_X8_finding lk_8_56 im_X8_finding se_X8_finding rfl ⟨Nat.le_of_ble_eq_true rfl, Nat.le_of_ble_eq_true rfl⟩ rfl (Nat.le_of_ble_eq_true rfl) rfl i52 (tm_X8_finding e52) ?_
      obtain ⟨rfl, rfl⟩ := ret_s hf
      exact x_reti (pc := 55) dX8_night_55 rfl

def f_X8_night (h : AH) (x0 : Option Nat) (x1 : Int32) (x2 : Int32) (x3 : Int32) : Option (Int32 × AH) :=
  bd (isO h x0 8) fun _ =>
  bd2 (f_X8_isTrip h x0 x1) fun v2 h2 =>
  if v2 = 0 then (
    bd (isO h2 x0 8) fun _ =>
    bd2 (f_X8_finding h2 x0 (-100001)) fun v31 h31 =>
    some (v31, h31)
  ) else (
    bd2 (f_X8_isDay h2 x2) fun v9 h9 =>
    if v9 = 0 then (
      bd (isO h9 x0 8) fun _ =>
      bd2 (f_X8_finding h9 x0 (-100001)) fun v31 h31 =>
      some (v31, h31)
    ) else (
      if x3 = (-1) then (
        j_X8_night_35  h9 x0 x1 x2 x3
      ) else (
        bd (isO h9 x0 8) fun _ =>
        bd2 (f_X8_isCamp h9 x0 x3) fun v22 h22 =>
        if ¬ v22 = 0 then (
          j_X8_night_35  h22 x0 x1 x2 x3
        ) else (
          bd (isO h22 x0 8) fun _ =>
          bd2 (f_X8_finding h22 x0 (-100001)) fun v31 h31 =>
          some (v31, h31)
        )
      )
    )
  )

set_option maxRecDepth 100000 in
set_option maxHeartbeats 4000000 in
theorem tm_X8_night {g : GT} {h : AH} {x0 : Option Nat} {x1 : Int32} {x2 : Int32} {x3 : Int32} {r : Int32} {h' : AH} (hf : f_X8_night h x0 x1 x2 x3 = some (r, h')) : Xm g mX8_night [va_rf (x0), .int (x1), .int (x2), .int (x3)] h (some (.int r)) h' := by
  refine xm_of mo_X8_night (Nat.le_of_ble_eq_true rfl) (ls := [some (va_rf (x0)), some (.int (x1)), some (.int (x2)), some (.int (x3))]) rfl ?_
  rw [f_X8_night] at hf
  refine x_aload_n (pc := 0) (a := x0) dX8_night_0 rfl ?_
  refine x_iload_n (pc := 1) (x := x1) dX8_night_1 rfl ?_
  replace hf := bd_s hf; obtain ⟨u2, i2, hf⟩ := hf
  replace hf := bd2_s hf; obtain ⟨v2, h2, e2, hf⟩ := hf
  refine x_cVi (pc := 2) (M' := mX8_isTrip) (as := [.int (x1)]) (st := []) (a := x0) (ci := 8) dX8_night_2 mo_X8_isTrip lk_8_91 im_X8_isTrip se_X8_isTrip rfl ⟨Nat.le_of_ble_eq_true rfl, Nat.le_of_ble_eq_true rfl⟩ rfl (Nat.le_of_ble_eq_true rfl) rfl i2 (tm_X8_isTrip e2) ?_
  refine x_if_eq (pc := 5) (tgt := 28) (x := v2) dX8_night_5 rfl (fun hc => ?_) (fun hc => ?_)
  · replace hf := it_t hc hf
    refine x_aload_n (pc := 28) (a := x0) dX8_night_28 rfl ?_
    refine x_ldc (pc := 29) (v := -100001) dX8_night_29 kc_8_67 ?_
    replace hf := bd_s hf; obtain ⟨u31, i31, hf⟩ := hf
    replace hf := bd2_s hf; obtain ⟨v31, h31, e31, hf⟩ := hf
    refine x_cVi (pc := 31) (M' := mX8_finding) (as := [.int ((-100001))]) (st := []) (a := x0) (ci := 8) dX8_night_31 mo_X8_finding lk_8_56 im_X8_finding se_X8_finding rfl ⟨Nat.le_of_ble_eq_true rfl, Nat.le_of_ble_eq_true rfl⟩ rfl (Nat.le_of_ble_eq_true rfl) rfl i31 (tm_X8_finding e31) ?_
    obtain ⟨rfl, rfl⟩ := ret_s hf
    exact x_reti (pc := 34) dX8_night_34 rfl
  · replace hf := it_f hc hf
    refine x_iload_n (pc := 8) (x := x2) dX8_night_8 rfl ?_
    replace hf := bd2_s hf; obtain ⟨v9, h9, e9, hf⟩ := hf
    refine x_cSi (pc := 9) (M' := mX8_isDay) (as := [.int (x2)]) (st := []) dX8_night_9 mo_X8_isDay lk_8_74 sm_X8_isDay ⟨Nat.le_of_ble_eq_true rfl, Nat.le_of_ble_eq_true rfl⟩ rfl (Nat.le_of_ble_eq_true rfl) rfl (tm_X8_isDay e9) ?_
    refine x_if_eq (pc := 12) (tgt := 28) (x := v9) dX8_night_12 rfl (fun hc => ?_) (fun hc => ?_)
    · replace hf := it_t hc hf
      refine x_aload_n (pc := 28) (a := x0) dX8_night_28 rfl ?_
      refine x_ldc (pc := 29) (v := -100001) dX8_night_29 kc_8_67 ?_
      replace hf := bd_s hf; obtain ⟨u31, i31, hf⟩ := hf
      replace hf := bd2_s hf; obtain ⟨v31, h31, e31, hf⟩ := hf
      refine x_cVi (pc := 31) (M' := mX8_finding) (as := [.int ((-100001))]) (st := []) (a := x0) (ci := 8) dX8_night_31 mo_X8_finding lk_8_56 im_X8_finding se_X8_finding rfl ⟨Nat.le_of_ble_eq_true rfl, Nat.le_of_ble_eq_true rfl⟩ rfl (Nat.le_of_ble_eq_true rfl) rfl i31 (tm_X8_finding e31) ?_
      obtain ⟨rfl, rfl⟩ := ret_s hf
      exact x_reti (pc := 34) dX8_night_34 rfl
    · replace hf := it_f hc hf
      refine x_iload_n (pc := 15) (x := x3) dX8_night_15 rfl ?_
      refine x_iconst (pc := 16) (v := -1) dX8_night_16 (by decide) ?_
      refine x_icmp_eq (pc := 17) (tgt := 35) (x := x3) (y := (-1)) dX8_night_17 rfl (fun hc => ?_) (fun hc => ?_)
      · replace hf := it_t hc hf
        exact tj_X8_night_35  hf
      · replace hf := it_f hc hf
        refine x_aload_n (pc := 20) (a := x0) dX8_night_20 rfl ?_
        refine x_iload_n (pc := 21) (x := x3) dX8_night_21 rfl ?_
        replace hf := bd_s hf; obtain ⟨u22, i22, hf⟩ := hf
        replace hf := bd2_s hf; obtain ⟨v22, h22, e22, hf⟩ := hf
        refine x_cVi (pc := 22) (M' := mX8_isCamp) (as := [.int (x3)]) (st := []) (a := x0) (ci := 8) dX8_night_22 mo_X8_isCamp lk_8_98 im_X8_isCamp se_X8_isCamp rfl ⟨Nat.le_of_ble_eq_true rfl, Nat.le_of_ble_eq_true rfl⟩ rfl (Nat.le_of_ble_eq_true rfl) rfl i22 (tm_X8_isCamp e22) ?_
        refine x_if_ne (pc := 25) (tgt := 35) (x := v22) dX8_night_25 rfl (fun hc => ?_) (fun hc => ?_)
        · replace hf := it_t hc hf
          exact tj_X8_night_35  hf
        · replace hf := it_n hc hf
          refine x_aload_n (pc := 28) (a := x0) dX8_night_28 rfl ?_
          refine x_ldc (pc := 29) (v := -100001) dX8_night_29 kc_8_67 ?_
          replace hf := bd_s hf; obtain ⟨u31, i31, hf⟩ := hf
          replace hf := bd2_s hf; obtain ⟨v31, h31, e31, hf⟩ := hf
          refine x_cVi (pc := 31) (M' := mX8_finding) (as := [.int ((-100001))]) (st := []) (a := x0) (ci := 8) dX8_night_31 mo_X8_finding lk_8_56 im_X8_finding se_X8_finding rfl ⟨Nat.le_of_ble_eq_true rfl, Nat.le_of_ble_eq_true rfl⟩ rfl (Nat.le_of_ble_eq_true rfl) rfl i31 (tm_X8_finding e31) ?_
          obtain ⟨rfl, rfl⟩ := ret_s hf
          exact x_reti (pc := 34) dX8_night_34 rfl

def j_X8_of_73 (k41 : AH → Option Nat → Int32 → Int32 → Int32 → Option (Int32 × AH)) (h : AH) (x0 : Option Nat) (x1 : Int32) (x4 : Int32) (y0 : Int32) (y1 : Int32) : Option (Int32 × AH) :=
  k41 h x0 x1 (y0 + y1) (x4 + 1)

set_option maxRecDepth 100000 in
set_option maxHeartbeats 4000000 in
theorem tj_X8_of_73 {g : GT} {k41 : AH → Option Nat → Int32 → Int32 → Int32 → Option (Int32 × AH)} (hk41 : ∀ (h : AH) (x0 : Option Nat) (x1 : Int32) (x3 : Int32) (x4 : Int32) (r : Int32) (h' : AH), k41 h x0 x1 x3 x4 = some (r, h') → Xj g mX8_of h 41 [some (va_rf (x0)), some (.int (x1)), none, some (.int (x3)), some (.int (x4))] [] (some (.int r)) h') {h : AH} {x0 : Option Nat} {x1 : Int32} {x4 : Int32} {y0 : Int32} {y1 : Int32} {r : Int32} {h' : AH} (hf : j_X8_of_73 k41 h x0 x1 x4 y0 y1 = some (r, h')) : Xj g mX8_of h 73 [some (va_rf (x0)), some (.int (x1)), none, none, some (.int (x4))] [.int (y1), .int (y0)] (some (.int r)) h' := by
  rw [j_X8_of_73] at hf
  refine x_iadd (pc := 73) dX8_of_73 ?_
  refine x_istore_n (pc := 74) (ls' := [some (va_rf (x0)), some (.int (x1)), none, some (.int (y0 + y1)), some (.int (x4))]) dX8_of_74 (by decide) rfl ?_
  refine x_iinc (pc := 75) (x := x4) (v := x4 + 1) (ls' := [some (va_rf (x0)), some (.int (x1)), none, some (.int (y0 + y1)), some (.int (x4 + 1))]) dX8_of_75 rfl rfl (by decide) rfl ?_
  refine x_goto (pc := 78) (tgt := 41) dX8_of_78 rfl ?_
  exact hk41 _ _ _ _ _ _ _ hf

def g_X8_of_41 : Nat → AH → Option Nat → Int32 → Int32 → Int32 → Option (Int32 × AH)
  | 0, _, _, _, _, _ => none
  | n + 1, h, x0, x1, x3, x4 =>
    if 30 ≤ x4 then (
      some (x3, h)
    ) else (
      bd (gR h x0 8 0) fun v50 =>
      bd (ldI h v50 ((244 + (30 * x1)) + x4)) fun v64 =>
      if v64 < 0 then (
        j_X8_of_73 (fun h x0 x1 x3 x4 => g_X8_of_41  n h x0 x1 x3 x4) h x0 x1 x4 x3 0
      ) else (
        j_X8_of_73 (fun h x0 x1 x3 x4 => g_X8_of_41  n h x0 x1 x3 x4) h x0 x1 x4 x3 1
      )
    )

set_option maxRecDepth 100000 in
set_option maxHeartbeats 4000000 in
theorem tg_X8_of_41 {g : GT} : ∀ (n : Nat) {h : AH} {x0 : Option Nat} {x1 : Int32} {x3 : Int32} {x4 : Int32} {r : Int32} {h' : AH}, g_X8_of_41 n h x0 x1 x3 x4 = some (r, h') → Xj g mX8_of h 41 [some (va_rf (x0)), some (.int (x1)), none, some (.int (x3)), some (.int (x4))] [] (some (.int r)) h' := by
  intro n
  induction n with
  | zero =>
    intros
    rename_i z
    cases z
  | succ n ih =>
    intro h x0 x1 x3 x4 r h' hf
    rw [g_X8_of_41] at hf
    refine x_iload (pc := 41) (x := x4) dX8_of_41 rfl ?_
    refine x_bipush (pc := 43) (v := 30) dX8_of_43 (by decide) ?_
    refine x_icmp_ge (pc := 45) (tgt := 81) (x := x4) (y := 30) dX8_of_45 rfl (fun hc => ?_) (fun hc => ?_)
    · replace hf := it_t hc hf
      refine x_iload_n (pc := 81) (x := x3) dX8_of_81 rfl ?_
      obtain ⟨rfl, rfl⟩ := ret_s hf
      exact x_reti (pc := 82) dX8_of_82 rfl
    · replace hf := it_f hc hf
      refine x_iload_n (pc := 48) (x := x3) dX8_of_48 rfl ?_
      refine x_aload_n (pc := 49) (a := x0) dX8_of_49 rfl ?_
      replace hf := bd_s hf; obtain ⟨v50, e50, hf⟩ := hf
      refine x_getR (pc := 50) dX8_of_50 fl_8_7 e50 ?_
      refine x_sipush (pc := 53) (v := 244) dX8_of_53 (by decide) ?_
      refine x_bipush (pc := 56) (v := 30) dX8_of_56 (by decide) ?_
      refine x_iload_n (pc := 58) (x := x1) dX8_of_58 rfl ?_
      refine x_imul (pc := 59) dX8_of_59 ?_
      refine x_iadd (pc := 60) dX8_of_60 ?_
      refine x_iload (pc := 61) (x := x4) dX8_of_61 rfl ?_
      refine x_iadd (pc := 63) dX8_of_63 ?_
      replace hf := bd_s hf; obtain ⟨v64, e64, hf⟩ := hf
      refine x_ldI (pc := 64) dX8_of_64 e64 ?_
      refine x_if_lt (pc := 65) (tgt := 72) (x := v64) dX8_of_65 rfl (fun hc => ?_) (fun hc => ?_)
      · replace hf := it_t hc hf
        refine x_iconst (pc := 72) (v := 0) dX8_of_72 (by decide) ?_
        refine x_mask [true, true, false, false, true] rfl ?_
        exact tj_X8_of_73 (fun _ _ _ _ _ _ _ z => ih z) hf
      · replace hf := it_f hc hf
        refine x_iconst (pc := 68) (v := 1) dX8_of_68 (by decide) ?_
        refine x_goto (pc := 69) (tgt := 73) dX8_of_69 rfl ?_
        refine x_mask [true, true, false, false, true] rfl ?_
        exact tj_X8_of_73 (fun _ _ _ _ _ _ _ z => ih z) hf

def f_X8_of (h : AH) (x0 : Option Nat) (x1 : Int32) (x2 : Int32) : Option (Int32 × AH) :=
  bd (isO h x0 8) fun _ =>
  bd2 (f_X8_isTrip h x0 x1) fun v2 h2 =>
  if v2 = 0 then (
    bd (isO h2 x0 8) fun _ =>
    bd2 (f_X8_finding h2 x0 (-100001)) fun v20 h20 =>
    some (v20, h20)
  ) else (
    bd2 (f_X8_isIn h2 x2 0 5) fun v11 h11 =>
    if ¬ v11 = 0 then (
      if 5 ≤ x2 then (
        g_X8_of_41  NN h11 x0 x1 0 0
      ) else (
        bd (isO h11 x0 8) fun _ =>
        bd2 (f_X8_told h11 x0 x1 x2) fun v32 h32 =>
        some (v32, h32)
      )
    ) else (
      bd (isO h11 x0 8) fun _ =>
      bd2 (f_X8_finding h11 x0 (-100001)) fun v20 h20 =>
      some (v20, h20)
    )
  )

set_option maxRecDepth 100000 in
set_option maxHeartbeats 4000000 in
theorem tm_X8_of {g : GT} {h : AH} {x0 : Option Nat} {x1 : Int32} {x2 : Int32} {r : Int32} {h' : AH} (hf : f_X8_of h x0 x1 x2 = some (r, h')) : Xm g mX8_of [va_rf (x0), .int (x1), .int (x2)] h (some (.int r)) h' := by
  refine xm_of mo_X8_of (Nat.le_of_ble_eq_true rfl) (ls := [some (va_rf (x0)), some (.int (x1)), some (.int (x2)), none, none]) rfl ?_
  rw [f_X8_of] at hf
  refine x_aload_n (pc := 0) (a := x0) dX8_of_0 rfl ?_
  refine x_iload_n (pc := 1) (x := x1) dX8_of_1 rfl ?_
  replace hf := bd_s hf; obtain ⟨u2, i2, hf⟩ := hf
  replace hf := bd2_s hf; obtain ⟨v2, h2, e2, hf⟩ := hf
  refine x_cVi (pc := 2) (M' := mX8_isTrip) (as := [.int (x1)]) (st := []) (a := x0) (ci := 8) dX8_of_2 mo_X8_isTrip lk_8_91 im_X8_isTrip se_X8_isTrip rfl ⟨Nat.le_of_ble_eq_true rfl, Nat.le_of_ble_eq_true rfl⟩ rfl (Nat.le_of_ble_eq_true rfl) rfl i2 (tm_X8_isTrip e2) ?_
  refine x_if_eq (pc := 5) (tgt := 17) (x := v2) dX8_of_5 rfl (fun hc => ?_) (fun hc => ?_)
  · replace hf := it_t hc hf
    refine x_aload_n (pc := 17) (a := x0) dX8_of_17 rfl ?_
    refine x_ldc (pc := 18) (v := -100001) dX8_of_18 kc_8_67 ?_
    replace hf := bd_s hf; obtain ⟨u20, i20, hf⟩ := hf
    replace hf := bd2_s hf; obtain ⟨v20, h20, e20, hf⟩ := hf
    refine x_cVi (pc := 20) (M' := mX8_finding) (as := [.int ((-100001))]) (st := []) (a := x0) (ci := 8) dX8_of_20 mo_X8_finding lk_8_56 im_X8_finding se_X8_finding rfl ⟨Nat.le_of_ble_eq_true rfl, Nat.le_of_ble_eq_true rfl⟩ rfl (Nat.le_of_ble_eq_true rfl) rfl i20 (tm_X8_finding e20) ?_
    obtain ⟨rfl, rfl⟩ := ret_s hf
    exact x_reti (pc := 23) dX8_of_23 rfl
  · replace hf := it_f hc hf
    refine x_iload_n (pc := 8) (x := x2) dX8_of_8 rfl ?_
    refine x_iconst (pc := 9) (v := 0) dX8_of_9 (by decide) ?_
    refine x_iconst (pc := 10) (v := 5) dX8_of_10 (by decide) ?_
    replace hf := bd2_s hf; obtain ⟨v11, h11, e11, hf⟩ := hf
    refine x_cSi (pc := 11) (M' := mX8_isIn) (as := [.int (x2), .int (0), .int (5)]) (st := []) dX8_of_11 mo_X8_isIn lk_8_48 sm_X8_isIn ⟨Nat.le_of_ble_eq_true rfl, Nat.le_of_ble_eq_true rfl⟩ rfl (Nat.le_of_ble_eq_true rfl) rfl (tm_X8_isIn e11) ?_
    refine x_if_ne (pc := 14) (tgt := 24) (x := v11) dX8_of_14 rfl (fun hc => ?_) (fun hc => ?_)
    · replace hf := it_t hc hf
      refine x_iload_n (pc := 24) (x := x2) dX8_of_24 rfl ?_
      refine x_iconst (pc := 25) (v := 5) dX8_of_25 (by decide) ?_
      refine x_icmp_ge (pc := 26) (tgt := 36) (x := x2) (y := 5) dX8_of_26 rfl (fun hc => ?_) (fun hc => ?_)
      · replace hf := it_t hc hf
        refine x_iconst (pc := 36) (v := 0) dX8_of_36 (by decide) ?_
        refine x_istore_n (pc := 37) (ls' := [some (va_rf (x0)), some (.int (x1)), some (.int (x2)), some (.int (0)), none]) dX8_of_37 (by decide) rfl ?_
        refine x_iconst (pc := 38) (v := 0) dX8_of_38 (by decide) ?_
        refine x_istore (pc := 39) (ls' := [some (va_rf (x0)), some (.int (x1)), some (.int (x2)), some (.int (0)), some (.int (0))]) dX8_of_39 (by decide) rfl ?_
        refine x_mask [true, true, false, true, true] rfl ?_
        exact tg_X8_of_41  NN hf
      · replace hf := it_f hc hf
        refine x_aload_n (pc := 29) (a := x0) dX8_of_29 rfl ?_
        refine x_iload_n (pc := 30) (x := x1) dX8_of_30 rfl ?_
        refine x_iload_n (pc := 31) (x := x2) dX8_of_31 rfl ?_
        replace hf := bd_s hf; obtain ⟨u32, i32, hf⟩ := hf
        replace hf := bd2_s hf; obtain ⟨v32, h32, e32, hf⟩ := hf
        refine x_cVi (pc := 32) (M' := mX8_told) (as := [.int (x1), .int (x2)]) (st := []) (a := x0) (ci := 8) dX8_of_32 mo_X8_told lk_8_94 im_X8_told se_X8_told rfl ⟨Nat.le_of_ble_eq_true rfl, Nat.le_of_ble_eq_true rfl⟩ rfl (Nat.le_of_ble_eq_true rfl) rfl i32 (tm_X8_told e32) ?_
        obtain ⟨rfl, rfl⟩ := ret_s hf
        exact x_reti (pc := 35) dX8_of_35 rfl
    · replace hf := it_n hc hf
      refine x_aload_n (pc := 17) (a := x0) dX8_of_17 rfl ?_
      refine x_ldc (pc := 18) (v := -100001) dX8_of_18 kc_8_67 ?_
      replace hf := bd_s hf; obtain ⟨u20, i20, hf⟩ := hf
      replace hf := bd2_s hf; obtain ⟨v20, h20, e20, hf⟩ := hf
      refine x_cVi (pc := 20) (M' := mX8_finding) (as := [.int ((-100001))]) (st := []) (a := x0) (ci := 8) dX8_of_20 mo_X8_finding lk_8_56 im_X8_finding se_X8_finding rfl ⟨Nat.le_of_ble_eq_true rfl, Nat.le_of_ble_eq_true rfl⟩ rfl (Nat.le_of_ble_eq_true rfl) rfl i20 (tm_X8_finding e20) ?_
      obtain ⟨rfl, rfl⟩ := ret_s hf
      exact x_reti (pc := 23) dX8_of_23 rfl

def f_X8_plan (h : AH) (x0 : Option Nat) (x1 : Int32) : Option (Int32 × AH) :=
  bd (isO h x0 8) fun _ =>
  bd2 (f_X8_isTrip h x0 x1) fun v2 h2 =>
  if ¬ v2 = 0 then (
    bd (isO h2 x0 8) fun _ =>
    bd2 (f_X8_tell h2 x0 x1) fun v17 h17 =>
    if ¬ v17 = 1000 then (
      some (v17, h17)
    ) else (
      bd (isO h17 x0 8) fun _ =>
      bd2 (f_X8_finding h17 x0 (-100006)) fun v31 h31 =>
      some (v31, h31)
    )
  ) else (
    bd (isO h2 x0 8) fun _ =>
    bd2 (f_X8_finding h2 x0 (-100001)) fun v11 h11 =>
    some (v11, h11)
  )

set_option maxRecDepth 100000 in
set_option maxHeartbeats 4000000 in
theorem tm_X8_plan {g : GT} {h : AH} {x0 : Option Nat} {x1 : Int32} {r : Int32} {h' : AH} (hf : f_X8_plan h x0 x1 = some (r, h')) : Xm g mX8_plan [va_rf (x0), .int (x1)] h (some (.int r)) h' := by
  refine xm_of mo_X8_plan (Nat.le_of_ble_eq_true rfl) (ls := [some (va_rf (x0)), some (.int (x1)), none]) rfl ?_
  rw [f_X8_plan] at hf
  refine x_aload_n (pc := 0) (a := x0) dX8_plan_0 rfl ?_
  refine x_iload_n (pc := 1) (x := x1) dX8_plan_1 rfl ?_
  replace hf := bd_s hf; obtain ⟨u2, i2, hf⟩ := hf
  replace hf := bd2_s hf; obtain ⟨v2, h2, e2, hf⟩ := hf
  refine x_cVi (pc := 2) (M' := mX8_isTrip) (as := [.int (x1)]) (st := []) (a := x0) (ci := 8) dX8_plan_2 mo_X8_isTrip lk_8_91 im_X8_isTrip se_X8_isTrip rfl ⟨Nat.le_of_ble_eq_true rfl, Nat.le_of_ble_eq_true rfl⟩ rfl (Nat.le_of_ble_eq_true rfl) rfl i2 (tm_X8_isTrip e2) ?_
  refine x_if_ne (pc := 5) (tgt := 15) (x := v2) dX8_plan_5 rfl (fun hc => ?_) (fun hc => ?_)
  · replace hf := it_t hc hf
    refine x_aload_n (pc := 15) (a := x0) dX8_plan_15 rfl ?_
    refine x_iload_n (pc := 16) (x := x1) dX8_plan_16 rfl ?_
    replace hf := bd_s hf; obtain ⟨u17, i17, hf⟩ := hf
    replace hf := bd2_s hf; obtain ⟨v17, h17, e17, hf⟩ := hf
    refine x_cVi (pc := 17) (M' := mX8_tell) (as := [.int (x1)]) (st := []) (a := x0) (ci := 8) dX8_plan_17 mo_X8_tell lk_8_129 im_X8_tell se_X8_tell rfl ⟨Nat.le_of_ble_eq_true rfl, Nat.le_of_ble_eq_true rfl⟩ rfl (Nat.le_of_ble_eq_true rfl) rfl i17 (tm_X8_tell e17) ?_
    refine x_istore_n (pc := 20) (ls' := [some (va_rf (x0)), some (.int (x1)), some (.int (v17))]) dX8_plan_20 (by decide) rfl ?_
    refine x_iload_n (pc := 21) (x := v17) dX8_plan_21 rfl ?_
    refine x_sipush (pc := 22) (v := 1000) dX8_plan_22 (by decide) ?_
    refine x_icmp_ne (pc := 25) (tgt := 37) (x := v17) (y := 1000) dX8_plan_25 rfl (fun hc => ?_) (fun hc => ?_)
    · replace hf := it_t hc hf
      refine x_iload_n (pc := 37) (x := v17) dX8_plan_37 rfl ?_
      obtain ⟨rfl, rfl⟩ := ret_s hf
      exact x_reti (pc := 38) dX8_plan_38 rfl
    · replace hf := it_n hc hf
      refine x_aload_n (pc := 28) (a := x0) dX8_plan_28 rfl ?_
      refine x_ldc (pc := 29) (v := -100006) dX8_plan_29 kc_8_55 ?_
      replace hf := bd_s hf; obtain ⟨u31, i31, hf⟩ := hf
      replace hf := bd2_s hf; obtain ⟨v31, h31, e31, hf⟩ := hf
      refine x_cVi (pc := 31) (M' := mX8_finding) (as := [.int ((-100006))]) (st := []) (a := x0) (ci := 8) dX8_plan_31 mo_X8_finding lk_8_56 im_X8_finding se_X8_finding rfl ⟨Nat.le_of_ble_eq_true rfl, Nat.le_of_ble_eq_true rfl⟩ rfl (Nat.le_of_ble_eq_true rfl) rfl i31 (tm_X8_finding e31) ?_
      refine x_goto (pc := 34) (tgt := 38) dX8_plan_34 rfl ?_
      obtain ⟨rfl, rfl⟩ := ret_s hf
      exact x_reti (pc := 38) dX8_plan_38 rfl
  · replace hf := it_n hc hf
    refine x_aload_n (pc := 8) (a := x0) dX8_plan_8 rfl ?_
    refine x_ldc (pc := 9) (v := -100001) dX8_plan_9 kc_8_67 ?_
    replace hf := bd_s hf; obtain ⟨u11, i11, hf⟩ := hf
    replace hf := bd2_s hf; obtain ⟨v11, h11, e11, hf⟩ := hf
    refine x_cVi (pc := 11) (M' := mX8_finding) (as := [.int ((-100001))]) (st := []) (a := x0) (ci := 8) dX8_plan_11 mo_X8_finding lk_8_56 im_X8_finding se_X8_finding rfl ⟨Nat.le_of_ble_eq_true rfl, Nat.le_of_ble_eq_true rfl⟩ rfl (Nat.le_of_ble_eq_true rfl) rfl i11 (tm_X8_finding e11) ?_
    obtain ⟨rfl, rfl⟩ := ret_s hf
    exact x_reti (pc := 14) dX8_plan_14 rfl

def f_X8_planned (h : AH) (x0 : Option Nat) (x1 : Int32) (x2 : Int32) : Option (Int32 × AH) :=
  bd (isO h x0 8) fun _ =>
  bd2 (f_X8_isTrip h x0 x1) fun v2 h2 =>
  if ¬ v2 = 0 then (
    bd (isO h2 x0 8) fun _ =>
    bd2 (f_X8_planOf h2 x0 x1) fun v17 h17 =>
    if ¬ v17 = 1000 then (
      if x2 < 0 then (
        bd (isO h17 x0 8) fun _ =>
        bd2 (f_X8_finding h17 x0 (-100001)) fun v47 h47 =>
        some (v47, h47)
      ) else (
        if x2 < v17 then (
          if ¬ x2 = (v17 - 1) then (
            bd (gR h17 x0 8 8) fun v63 =>
            bd (ldI h17 v63 x2) fun v67 =>
            some (v67, h17)
          ) else (
            some ((-1), h17)
          )
        ) else (
          bd (isO h17 x0 8) fun _ =>
          bd2 (f_X8_finding h17 x0 (-100001)) fun v47 h47 =>
          some (v47, h47)
        )
      )
    ) else (
      bd (isO h17 x0 8) fun _ =>
      bd2 (f_X8_finding h17 x0 (-100006)) fun v31 h31 =>
      some (v31, h31)
    )
  ) else (
    bd (isO h2 x0 8) fun _ =>
    bd2 (f_X8_finding h2 x0 (-100001)) fun v11 h11 =>
    some (v11, h11)
  )

set_option maxRecDepth 100000 in
set_option maxHeartbeats 4000000 in
theorem tm_X8_planned {g : GT} {h : AH} {x0 : Option Nat} {x1 : Int32} {x2 : Int32} {r : Int32} {h' : AH} (hf : f_X8_planned h x0 x1 x2 = some (r, h')) : Xm g mX8_planned [va_rf (x0), .int (x1), .int (x2)] h (some (.int r)) h' := by
  refine xm_of mo_X8_planned (Nat.le_of_ble_eq_true rfl) (ls := [some (va_rf (x0)), some (.int (x1)), some (.int (x2)), none]) rfl ?_
  rw [f_X8_planned] at hf
  refine x_aload_n (pc := 0) (a := x0) dX8_planned_0 rfl ?_
  refine x_iload_n (pc := 1) (x := x1) dX8_planned_1 rfl ?_
  replace hf := bd_s hf; obtain ⟨u2, i2, hf⟩ := hf
  replace hf := bd2_s hf; obtain ⟨v2, h2, e2, hf⟩ := hf
  refine x_cVi (pc := 2) (M' := mX8_isTrip) (as := [.int (x1)]) (st := []) (a := x0) (ci := 8) dX8_planned_2 mo_X8_isTrip lk_8_91 im_X8_isTrip se_X8_isTrip rfl ⟨Nat.le_of_ble_eq_true rfl, Nat.le_of_ble_eq_true rfl⟩ rfl (Nat.le_of_ble_eq_true rfl) rfl i2 (tm_X8_isTrip e2) ?_
  refine x_if_ne (pc := 5) (tgt := 15) (x := v2) dX8_planned_5 rfl (fun hc => ?_) (fun hc => ?_)
  · replace hf := it_t hc hf
    refine x_aload_n (pc := 15) (a := x0) dX8_planned_15 rfl ?_
    refine x_iload_n (pc := 16) (x := x1) dX8_planned_16 rfl ?_
    replace hf := bd_s hf; obtain ⟨u17, i17, hf⟩ := hf
    replace hf := bd2_s hf; obtain ⟨v17, h17, e17, hf⟩ := hf
    refine x_cVi (pc := 17) (M' := mX8_planOf) (as := [.int (x1)]) (st := []) (a := x0) (ci := 8) dX8_planned_17 mo_X8_planOf lk_8_132 im_X8_planOf se_X8_planOf rfl ⟨Nat.le_of_ble_eq_true rfl, Nat.le_of_ble_eq_true rfl⟩ rfl (Nat.le_of_ble_eq_true rfl) rfl i17 (tm_X8_planOf e17) ?_
    refine x_istore_n (pc := 20) (ls' := [some (va_rf (x0)), some (.int (x1)), some (.int (x2)), some (.int (v17))]) dX8_planned_20 (by decide) rfl ?_
    refine x_iload_n (pc := 21) (x := v17) dX8_planned_21 rfl ?_
    refine x_sipush (pc := 22) (v := 1000) dX8_planned_22 (by decide) ?_
    refine x_icmp_ne (pc := 25) (tgt := 35) (x := v17) (y := 1000) dX8_planned_25 rfl (fun hc => ?_) (fun hc => ?_)
    · replace hf := it_t hc hf
      refine x_iload_n (pc := 35) (x := x2) dX8_planned_35 rfl ?_
      refine x_if_lt (pc := 36) (tgt := 44) (x := x2) dX8_planned_36 rfl (fun hc => ?_) (fun hc => ?_)
      · replace hf := it_t hc hf
        refine x_aload_n (pc := 44) (a := x0) dX8_planned_44 rfl ?_
        refine x_ldc (pc := 45) (v := -100001) dX8_planned_45 kc_8_67 ?_
        replace hf := bd_s hf; obtain ⟨u47, i47, hf⟩ := hf
        replace hf := bd2_s hf; obtain ⟨v47, h47, e47, hf⟩ := hf
        refine x_cVi (pc := 47) (M' := mX8_finding) (as := [.int ((-100001))]) (st := []) (a := x0) (ci := 8) dX8_planned_47 mo_X8_finding lk_8_56 im_X8_finding se_X8_finding rfl ⟨Nat.le_of_ble_eq_true rfl, Nat.le_of_ble_eq_true rfl⟩ rfl (Nat.le_of_ble_eq_true rfl) rfl i47 (tm_X8_finding e47) ?_
        obtain ⟨rfl, rfl⟩ := ret_s hf
        exact x_reti (pc := 50) dX8_planned_50 rfl
      · replace hf := it_f hc hf
        refine x_iload_n (pc := 39) (x := x2) dX8_planned_39 rfl ?_
        refine x_iload_n (pc := 40) (x := v17) dX8_planned_40 rfl ?_
        refine x_icmp_lt (pc := 41) (tgt := 51) (x := x2) (y := v17) dX8_planned_41 rfl (fun hc => ?_) (fun hc => ?_)
        · replace hf := it_t hc hf
          refine x_iload_n (pc := 51) (x := x2) dX8_planned_51 rfl ?_
          refine x_iload_n (pc := 52) (x := v17) dX8_planned_52 rfl ?_
          refine x_iconst (pc := 53) (v := 1) dX8_planned_53 (by decide) ?_
          refine x_isub (pc := 54) dX8_planned_54 ?_
          refine x_icmp_ne (pc := 55) (tgt := 62) (x := x2) (y := (v17 - 1)) dX8_planned_55 rfl (fun hc => ?_) (fun hc => ?_)
          · replace hf := it_t hc hf
            refine x_aload_n (pc := 62) (a := x0) dX8_planned_62 rfl ?_
            replace hf := bd_s hf; obtain ⟨v63, e63, hf⟩ := hf
            refine x_getR (pc := 63) dX8_planned_63 fl_8_28 e63 ?_
            refine x_iload_n (pc := 66) (x := x2) dX8_planned_66 rfl ?_
            replace hf := bd_s hf; obtain ⟨v67, e67, hf⟩ := hf
            refine x_ldI (pc := 67) dX8_planned_67 e67 ?_
            obtain ⟨rfl, rfl⟩ := ret_s hf
            exact x_reti (pc := 68) dX8_planned_68 rfl
          · replace hf := it_n hc hf
            refine x_iconst (pc := 58) (v := -1) dX8_planned_58 (by decide) ?_
            refine x_goto (pc := 59) (tgt := 68) dX8_planned_59 rfl ?_
            obtain ⟨rfl, rfl⟩ := ret_s hf
            exact x_reti (pc := 68) dX8_planned_68 rfl
        · replace hf := it_f hc hf
          refine x_aload_n (pc := 44) (a := x0) dX8_planned_44 rfl ?_
          refine x_ldc (pc := 45) (v := -100001) dX8_planned_45 kc_8_67 ?_
          replace hf := bd_s hf; obtain ⟨u47, i47, hf⟩ := hf
          replace hf := bd2_s hf; obtain ⟨v47, h47, e47, hf⟩ := hf
          refine x_cVi (pc := 47) (M' := mX8_finding) (as := [.int ((-100001))]) (st := []) (a := x0) (ci := 8) dX8_planned_47 mo_X8_finding lk_8_56 im_X8_finding se_X8_finding rfl ⟨Nat.le_of_ble_eq_true rfl, Nat.le_of_ble_eq_true rfl⟩ rfl (Nat.le_of_ble_eq_true rfl) rfl i47 (tm_X8_finding e47) ?_
          obtain ⟨rfl, rfl⟩ := ret_s hf
          exact x_reti (pc := 50) dX8_planned_50 rfl
    · replace hf := it_n hc hf
      refine x_aload_n (pc := 28) (a := x0) dX8_planned_28 rfl ?_
      refine x_ldc (pc := 29) (v := -100006) dX8_planned_29 kc_8_55 ?_
      replace hf := bd_s hf; obtain ⟨u31, i31, hf⟩ := hf
      replace hf := bd2_s hf; obtain ⟨v31, h31, e31, hf⟩ := hf
      refine x_cVi (pc := 31) (M' := mX8_finding) (as := [.int ((-100006))]) (st := []) (a := x0) (ci := 8) dX8_planned_31 mo_X8_finding lk_8_56 im_X8_finding se_X8_finding rfl ⟨Nat.le_of_ble_eq_true rfl, Nat.le_of_ble_eq_true rfl⟩ rfl (Nat.le_of_ble_eq_true rfl) rfl i31 (tm_X8_finding e31) ?_
      obtain ⟨rfl, rfl⟩ := ret_s hf
      exact x_reti (pc := 34) dX8_planned_34 rfl
  · replace hf := it_n hc hf
    refine x_aload_n (pc := 8) (a := x0) dX8_planned_8 rfl ?_
    refine x_ldc (pc := 9) (v := -100001) dX8_planned_9 kc_8_67 ?_
    replace hf := bd_s hf; obtain ⟨u11, i11, hf⟩ := hf
    replace hf := bd2_s hf; obtain ⟨v11, h11, e11, hf⟩ := hf
    refine x_cVi (pc := 11) (M' := mX8_finding) (as := [.int ((-100001))]) (st := []) (a := x0) (ci := 8) dX8_planned_11 mo_X8_finding lk_8_56 im_X8_finding se_X8_finding rfl ⟨Nat.le_of_ble_eq_true rfl, Nat.le_of_ble_eq_true rfl⟩ rfl (Nat.le_of_ble_eq_true rfl) rfl i11 (tm_X8_finding e11) ?_
    obtain ⟨rfl, rfl⟩ := ret_s hf
    exact x_reti (pc := 14) dX8_planned_14 rfl

def f_X8_put (h : AH) (x0 : Option Nat) (x1 : Int32) (x2 : Int32) (x3 : Int32) : Option (Int32 × AH) :=
  bd2 (f_X8_isSheet h x1) fun v1 h1 =>
  if ¬ v1 = 0 then (
    bd (gR h1 x0 8 3) fun v15 =>
    bd (ldI h1 v15 x1) fun v19 =>
    if ¬ v19 = 0 then (
      if x2 < 0 then (
        bd (isO h1 x0 8) fun _ =>
        bd2 (f_X8_finding h1 x0 (-100001)) fun v47 h47 =>
        some (v47, h47)
      ) else (
        bd (gR h1 x0 8 4) fun v36 =>
        bd (ldI h1 v36 x1) fun v40 =>
        if x2 < v40 then (
          bd (gR h1 x0 8 5) fun v52 =>
          bd (gR h1 x0 8 3) fun v62 =>
          bd (ldI h1 v62 x1) fun v66 =>
          if ¬ v66 = 8 then (
            bd (gR h1 x0 8 3) fun v78 =>
            bd (ldI h1 v78 x1) fun v82 =>
            if ¬ v82 = 16 then (
              bd (stI h1 v52 ((40 * x1) + x2) x3) fun h94 =>
              some (0, h94)
            ) else (
              bd (stI h1 v52 ((40 * x1) + x2) ((x3 : Int32).toInt16.toInt32)) fun h94 =>
              some (0, h94)
            )
          ) else (
            bd (stI h1 v52 ((40 * x1) + x2) ((x3 : Int32).toInt8.toInt32)) fun h94 =>
            some (0, h94)
          )
        ) else (
          bd (isO h1 x0 8) fun _ =>
          bd2 (f_X8_finding h1 x0 (-100001)) fun v47 h47 =>
          some (v47, h47)
        )
      )
    ) else (
      bd (isO h1 x0 8) fun _ =>
      bd2 (f_X8_finding h1 x0 (-100002)) fun v26 h26 =>
      some (v26, h26)
    )
  ) else (
    bd (isO h1 x0 8) fun _ =>
    bd2 (f_X8_finding h1 x0 (-100001)) fun v10 h10 =>
    some (v10, h10)
  )

set_option maxRecDepth 100000 in
set_option maxHeartbeats 4000000 in
theorem tm_X8_put {g : GT} {h : AH} {x0 : Option Nat} {x1 : Int32} {x2 : Int32} {x3 : Int32} {r : Int32} {h' : AH} (hf : f_X8_put h x0 x1 x2 x3 = some (r, h')) : Xm g mX8_put [va_rf (x0), .int (x1), .int (x2), .int (x3)] h (some (.int r)) h' := by
  refine xm_of mo_X8_put (Nat.le_of_ble_eq_true rfl) (ls := [some (va_rf (x0)), some (.int (x1)), some (.int (x2)), some (.int (x3))]) rfl ?_
  rw [f_X8_put] at hf
  refine x_iload_n (pc := 0) (x := x1) dX8_put_0 rfl ?_
  replace hf := bd2_s hf; obtain ⟨v1, h1, e1, hf⟩ := hf
  refine x_cSi (pc := 1) (M' := mX8_isSheet) (as := [.int (x1)]) (st := []) dX8_put_1 mo_X8_isSheet lk_8_156 sm_X8_isSheet ⟨Nat.le_of_ble_eq_true rfl, Nat.le_of_ble_eq_true rfl⟩ rfl (Nat.le_of_ble_eq_true rfl) rfl (tm_X8_isSheet e1) ?_
  refine x_if_ne (pc := 4) (tgt := 14) (x := v1) dX8_put_4 rfl (fun hc => ?_) (fun hc => ?_)
  · replace hf := it_t hc hf
    refine x_aload_n (pc := 14) (a := x0) dX8_put_14 rfl ?_
    replace hf := bd_s hf; obtain ⟨v15, e15, hf⟩ := hf
    refine x_getR (pc := 15) dX8_put_15 fl_8_16 e15 ?_
    refine x_iload_n (pc := 18) (x := x1) dX8_put_18 rfl ?_
    replace hf := bd_s hf; obtain ⟨v19, e19, hf⟩ := hf
    refine x_ldI (pc := 19) dX8_put_19 e19 ?_
    refine x_if_ne (pc := 20) (tgt := 30) (x := v19) dX8_put_20 rfl (fun hc => ?_) (fun hc => ?_)
    · replace hf := it_t hc hf
      refine x_iload_n (pc := 30) (x := x2) dX8_put_30 rfl ?_
      refine x_if_lt (pc := 31) (tgt := 44) (x := x2) dX8_put_31 rfl (fun hc => ?_) (fun hc => ?_)
      · replace hf := it_t hc hf
        refine x_aload_n (pc := 44) (a := x0) dX8_put_44 rfl ?_
        refine x_ldc (pc := 45) (v := -100001) dX8_put_45 kc_8_67 ?_
        replace hf := bd_s hf; obtain ⟨u47, i47, hf⟩ := hf
        replace hf := bd2_s hf; obtain ⟨v47, h47, e47, hf⟩ := hf
        refine x_cVi (pc := 47) (M' := mX8_finding) (as := [.int ((-100001))]) (st := []) (a := x0) (ci := 8) dX8_put_47 mo_X8_finding lk_8_56 im_X8_finding se_X8_finding rfl ⟨Nat.le_of_ble_eq_true rfl, Nat.le_of_ble_eq_true rfl⟩ rfl (Nat.le_of_ble_eq_true rfl) rfl i47 (tm_X8_finding e47) ?_
        obtain ⟨rfl, rfl⟩ := ret_s hf
        exact x_reti (pc := 50) dX8_put_50 rfl
      · replace hf := it_f hc hf
        refine x_iload_n (pc := 34) (x := x2) dX8_put_34 rfl ?_
        refine x_aload_n (pc := 35) (a := x0) dX8_put_35 rfl ?_
        replace hf := bd_s hf; obtain ⟨v36, e36, hf⟩ := hf
        refine x_getR (pc := 36) dX8_put_36 fl_8_19 e36 ?_
        refine x_iload_n (pc := 39) (x := x1) dX8_put_39 rfl ?_
        replace hf := bd_s hf; obtain ⟨v40, e40, hf⟩ := hf
        refine x_ldI (pc := 40) dX8_put_40 e40 ?_
        refine x_icmp_lt (pc := 41) (tgt := 51) (x := x2) (y := v40) dX8_put_41 rfl (fun hc => ?_) (fun hc => ?_)
        · replace hf := it_t hc hf
          refine x_aload_n (pc := 51) (a := x0) dX8_put_51 rfl ?_
          replace hf := bd_s hf; obtain ⟨v52, e52, hf⟩ := hf
          refine x_getR (pc := 52) dX8_put_52 fl_8_22 e52 ?_
          refine x_bipush (pc := 55) (v := 40) dX8_put_55 (by decide) ?_
          refine x_iload_n (pc := 57) (x := x1) dX8_put_57 rfl ?_
          refine x_imul (pc := 58) dX8_put_58 ?_
          refine x_iload_n (pc := 59) (x := x2) dX8_put_59 rfl ?_
          refine x_iadd (pc := 60) dX8_put_60 ?_
          refine x_aload_n (pc := 61) (a := x0) dX8_put_61 rfl ?_
          replace hf := bd_s hf; obtain ⟨v62, e62, hf⟩ := hf
          refine x_getR (pc := 62) dX8_put_62 fl_8_16 e62 ?_
          refine x_iload_n (pc := 65) (x := x1) dX8_put_65 rfl ?_
          replace hf := bd_s hf; obtain ⟨v66, e66, hf⟩ := hf
          refine x_ldI (pc := 66) dX8_put_66 e66 ?_
          refine x_bipush (pc := 67) (v := 8) dX8_put_67 (by decide) ?_
          refine x_icmp_ne (pc := 69) (tgt := 77) (x := v66) (y := 8) dX8_put_69 rfl (fun hc => ?_) (fun hc => ?_)
          · replace hf := it_t hc hf
            refine x_aload_n (pc := 77) (a := x0) dX8_put_77 rfl ?_
            replace hf := bd_s hf; obtain ⟨v78, e78, hf⟩ := hf
            refine x_getR (pc := 78) dX8_put_78 fl_8_16 e78 ?_
            refine x_iload_n (pc := 81) (x := x1) dX8_put_81 rfl ?_
            replace hf := bd_s hf; obtain ⟨v82, e82, hf⟩ := hf
            refine x_ldI (pc := 82) dX8_put_82 e82 ?_
            refine x_bipush (pc := 83) (v := 16) dX8_put_83 (by decide) ?_
            refine x_icmp_ne (pc := 85) (tgt := 93) (x := v82) (y := 16) dX8_put_85 rfl (fun hc => ?_) (fun hc => ?_)
            · replace hf := it_t hc hf
              refine x_iload_n (pc := 93) (x := x3) dX8_put_93 rfl ?_
              replace hf := bd_s hf; obtain ⟨h94, e94, hf⟩ := hf
              refine x_stI (pc := 94) dX8_put_94 e94 ?_
              refine x_iconst (pc := 95) (v := 0) dX8_put_95 (by decide) ?_
              obtain ⟨rfl, rfl⟩ := ret_s hf
              exact x_reti (pc := 96) dX8_put_96 rfl
            · replace hf := it_n hc hf
              refine x_iload_n (pc := 88) (x := x3) dX8_put_88 rfl ?_
              refine x_i2s (pc := 89) dX8_put_89 ?_
              refine x_goto (pc := 90) (tgt := 94) dX8_put_90 rfl ?_
              replace hf := bd_s hf; obtain ⟨h94, e94, hf⟩ := hf
              refine x_stI (pc := 94) dX8_put_94 e94 ?_
              refine x_iconst (pc := 95) (v := 0) dX8_put_95 (by decide) ?_
              obtain ⟨rfl, rfl⟩ := ret_s hf
              exact x_reti (pc := 96) dX8_put_96 rfl
          · replace hf := it_n hc hf
            refine x_iload_n (pc := 72) (x := x3) dX8_put_72 rfl ?_
            refine x_i2b (pc := 73) dX8_put_73 ?_
            refine x_goto (pc := 74) (tgt := 94) dX8_put_74 rfl ?_
            replace hf := bd_s hf; obtain ⟨h94, e94, hf⟩ := hf
            refine x_stI (pc := 94) dX8_put_94 e94 ?_
            refine x_iconst (pc := 95) (v := 0) dX8_put_95 (by decide) ?_
            obtain ⟨rfl, rfl⟩ := ret_s hf
            exact x_reti (pc := 96) dX8_put_96 rfl
        · replace hf := it_f hc hf
          refine x_aload_n (pc := 44) (a := x0) dX8_put_44 rfl ?_
          refine x_ldc (pc := 45) (v := -100001) dX8_put_45 kc_8_67 ?_
          replace hf := bd_s hf; obtain ⟨u47, i47, hf⟩ := hf
          replace hf := bd2_s hf; obtain ⟨v47, h47, e47, hf⟩ := hf
          refine x_cVi (pc := 47) (M' := mX8_finding) (as := [.int ((-100001))]) (st := []) (a := x0) (ci := 8) dX8_put_47 mo_X8_finding lk_8_56 im_X8_finding se_X8_finding rfl ⟨Nat.le_of_ble_eq_true rfl, Nat.le_of_ble_eq_true rfl⟩ rfl (Nat.le_of_ble_eq_true rfl) rfl i47 (tm_X8_finding e47) ?_
          obtain ⟨rfl, rfl⟩ := ret_s hf
          exact x_reti (pc := 50) dX8_put_50 rfl
    · replace hf := it_n hc hf
      refine x_aload_n (pc := 23) (a := x0) dX8_put_23 rfl ?_
      refine x_ldc (pc := 24) (v := -100002) dX8_put_24 kc_8_159 ?_
      replace hf := bd_s hf; obtain ⟨u26, i26, hf⟩ := hf
      replace hf := bd2_s hf; obtain ⟨v26, h26, e26, hf⟩ := hf
      refine x_cVi (pc := 26) (M' := mX8_finding) (as := [.int ((-100002))]) (st := []) (a := x0) (ci := 8) dX8_put_26 mo_X8_finding lk_8_56 im_X8_finding se_X8_finding rfl ⟨Nat.le_of_ble_eq_true rfl, Nat.le_of_ble_eq_true rfl⟩ rfl (Nat.le_of_ble_eq_true rfl) rfl i26 (tm_X8_finding e26) ?_
      obtain ⟨rfl, rfl⟩ := ret_s hf
      exact x_reti (pc := 29) dX8_put_29 rfl
  · replace hf := it_n hc hf
    refine x_aload_n (pc := 7) (a := x0) dX8_put_7 rfl ?_
    refine x_ldc (pc := 8) (v := -100001) dX8_put_8 kc_8_67 ?_
    replace hf := bd_s hf; obtain ⟨u10, i10, hf⟩ := hf
    replace hf := bd2_s hf; obtain ⟨v10, h10, e10, hf⟩ := hf
    refine x_cVi (pc := 10) (M' := mX8_finding) (as := [.int ((-100001))]) (st := []) (a := x0) (ci := 8) dX8_put_10 mo_X8_finding lk_8_56 im_X8_finding se_X8_finding rfl ⟨Nat.le_of_ble_eq_true rfl, Nat.le_of_ble_eq_true rfl⟩ rfl (Nat.le_of_ble_eq_true rfl) rfl i10 (tm_X8_finding e10) ?_
    obtain ⟨rfl, rfl⟩ := ret_s hf
    exact x_reti (pc := 13) dX8_put_13 rfl

def f_X8_rapid (h : AH) (x0 : Option Nat) (x1 : Int32) (x2 : Int32) (x3 : Int32) : Option (Int32 × AH) :=
  bd2 (f_X8_isIn h x1 1 249) fun v5 h5 =>
  if v5 = 0 then (
    bd (isO h5 x0 8) fun _ =>
    bd2 (f_X8_finding h5 x0 (-100001)) fun v28 h28 =>
    some (v28, h28)
  ) else (
    bd2 (f_X8_isWater h5 x2) fun v12 h12 =>
    if v12 = 0 then (
      bd (isO h12 x0 8) fun _ =>
      bd2 (f_X8_finding h12 x0 (-100001)) fun v28 h28 =>
      some (v28, h28)
    ) else (
      bd2 (f_X8_isWater h12 x3) fun v19 h19 =>
      if ¬ v19 = 0 then (
        if x2 ≤ x3 then (
          bd (gR h19 x0 8 0) fun v45 =>
          bd (ldI h19 v45 3) fun v49 =>
          if ¬ v49 = 10 then (
            bd (gR h19 x0 8 0) fun v65 =>
            bd (ldI h19 v65 3) fun v69 =>
            bd (isO h19 x0 8) fun _ =>
            bd2 (f_X8_becomes h19 x0 3 (v69 + 1)) fun v72 h72 =>
            bd (gR h72 x0 8 0) fun v78 =>
            bd (stI h72 v78 (36 + (3 * v72)) x1) fun h89 =>
            bd (gR h89 x0 8 0) fun v91 =>
            bd (stI h89 v91 ((36 + (3 * v72)) + 1) x2) fun h104 =>
            bd (gR h104 x0 8 0) fun v106 =>
            bd (stI h104 v106 ((36 + (3 * v72)) + 2) x3) fun h119 =>
            some (v72, h119)
          ) else (
            bd (isO h19 x0 8) fun _ =>
            bd2 (f_X8_finding h19 x0 (-100005)) fun v58 h58 =>
            some (v58, h58)
          )
        ) else (
          bd (isO h19 x0 8) fun _ =>
          bd2 (f_X8_finding h19 x0 (-100003)) fun v40 h40 =>
          some (v40, h40)
        )
      ) else (
        bd (isO h19 x0 8) fun _ =>
        bd2 (f_X8_finding h19 x0 (-100001)) fun v28 h28 =>
        some (v28, h28)
      )
    )
  )

set_option maxRecDepth 100000 in
set_option maxHeartbeats 4000000 in
theorem tm_X8_rapid {g : GT} {h : AH} {x0 : Option Nat} {x1 : Int32} {x2 : Int32} {x3 : Int32} {r : Int32} {h' : AH} (hf : f_X8_rapid h x0 x1 x2 x3 = some (r, h')) : Xm g mX8_rapid [va_rf (x0), .int (x1), .int (x2), .int (x3)] h (some (.int r)) h' := by
  refine xm_of mo_X8_rapid (Nat.le_of_ble_eq_true rfl) (ls := [some (va_rf (x0)), some (.int (x1)), some (.int (x2)), some (.int (x3)), none]) rfl ?_
  rw [f_X8_rapid] at hf
  refine x_iload_n (pc := 0) (x := x1) dX8_rapid_0 rfl ?_
  refine x_iconst (pc := 1) (v := 1) dX8_rapid_1 (by decide) ?_
  refine x_sipush (pc := 2) (v := 249) dX8_rapid_2 (by decide) ?_
  replace hf := bd2_s hf; obtain ⟨v5, h5, e5, hf⟩ := hf
  refine x_cSi (pc := 5) (M' := mX8_isIn) (as := [.int (x1), .int (1), .int (249)]) (st := []) dX8_rapid_5 mo_X8_isIn lk_8_48 sm_X8_isIn ⟨Nat.le_of_ble_eq_true rfl, Nat.le_of_ble_eq_true rfl⟩ rfl (Nat.le_of_ble_eq_true rfl) rfl (tm_X8_isIn e5) ?_
  refine x_if_eq (pc := 8) (tgt := 25) (x := v5) dX8_rapid_8 rfl (fun hc => ?_) (fun hc => ?_)
  · replace hf := it_t hc hf
    refine x_aload_n (pc := 25) (a := x0) dX8_rapid_25 rfl ?_
    refine x_ldc (pc := 26) (v := -100001) dX8_rapid_26 kc_8_67 ?_
    replace hf := bd_s hf; obtain ⟨u28, i28, hf⟩ := hf
    replace hf := bd2_s hf; obtain ⟨v28, h28, e28, hf⟩ := hf
    refine x_cVi (pc := 28) (M' := mX8_finding) (as := [.int ((-100001))]) (st := []) (a := x0) (ci := 8) dX8_rapid_28 mo_X8_finding lk_8_56 im_X8_finding se_X8_finding rfl ⟨Nat.le_of_ble_eq_true rfl, Nat.le_of_ble_eq_true rfl⟩ rfl (Nat.le_of_ble_eq_true rfl) rfl i28 (tm_X8_finding e28) ?_
    obtain ⟨rfl, rfl⟩ := ret_s hf
    exact x_reti (pc := 31) dX8_rapid_31 rfl
  · replace hf := it_f hc hf
    refine x_iload_n (pc := 11) (x := x2) dX8_rapid_11 rfl ?_
    replace hf := bd2_s hf; obtain ⟨v12, h12, e12, hf⟩ := hf
    refine x_cSi (pc := 12) (M' := mX8_isWater) (as := [.int (x2)]) (st := []) dX8_rapid_12 mo_X8_isWater lk_8_69 sm_X8_isWater ⟨Nat.le_of_ble_eq_true rfl, Nat.le_of_ble_eq_true rfl⟩ rfl (Nat.le_of_ble_eq_true rfl) rfl (tm_X8_isWater e12) ?_
    refine x_if_eq (pc := 15) (tgt := 25) (x := v12) dX8_rapid_15 rfl (fun hc => ?_) (fun hc => ?_)
    · replace hf := it_t hc hf
      refine x_aload_n (pc := 25) (a := x0) dX8_rapid_25 rfl ?_
      refine x_ldc (pc := 26) (v := -100001) dX8_rapid_26 kc_8_67 ?_
      replace hf := bd_s hf; obtain ⟨u28, i28, hf⟩ := hf
      replace hf := bd2_s hf; obtain ⟨v28, h28, e28, hf⟩ := hf
      refine x_cVi (pc := 28) (M' := mX8_finding) (as := [.int ((-100001))]) (st := []) (a := x0) (ci := 8) dX8_rapid_28 mo_X8_finding lk_8_56 im_X8_finding se_X8_finding rfl ⟨Nat.le_of_ble_eq_true rfl, Nat.le_of_ble_eq_true rfl⟩ rfl (Nat.le_of_ble_eq_true rfl) rfl i28 (tm_X8_finding e28) ?_
      obtain ⟨rfl, rfl⟩ := ret_s hf
      exact x_reti (pc := 31) dX8_rapid_31 rfl
    · replace hf := it_f hc hf
      refine x_iload_n (pc := 18) (x := x3) dX8_rapid_18 rfl ?_
      replace hf := bd2_s hf; obtain ⟨v19, h19, e19, hf⟩ := hf
      refine x_cSi (pc := 19) (M' := mX8_isWater) (as := [.int (x3)]) (st := []) dX8_rapid_19 mo_X8_isWater lk_8_69 sm_X8_isWater ⟨Nat.le_of_ble_eq_true rfl, Nat.le_of_ble_eq_true rfl⟩ rfl (Nat.le_of_ble_eq_true rfl) rfl (tm_X8_isWater e19) ?_
      refine x_if_ne (pc := 22) (tgt := 32) (x := v19) dX8_rapid_22 rfl (fun hc => ?_) (fun hc => ?_)
      · replace hf := it_t hc hf
        refine x_iload_n (pc := 32) (x := x2) dX8_rapid_32 rfl ?_
        refine x_iload_n (pc := 33) (x := x3) dX8_rapid_33 rfl ?_
        refine x_icmp_le (pc := 34) (tgt := 44) (x := x2) (y := x3) dX8_rapid_34 rfl (fun hc => ?_) (fun hc => ?_)
        · replace hf := it_t hc hf
          refine x_aload_n (pc := 44) (a := x0) dX8_rapid_44 rfl ?_
          replace hf := bd_s hf; obtain ⟨v45, e45, hf⟩ := hf
          refine x_getR (pc := 45) dX8_rapid_45 fl_8_7 e45 ?_
          refine x_iconst (pc := 48) (v := 3) dX8_rapid_48 (by decide) ?_
          replace hf := bd_s hf; obtain ⟨v49, e49, hf⟩ := hf
          refine x_ldI (pc := 49) dX8_rapid_49 e49 ?_
          refine x_bipush (pc := 50) (v := 10) dX8_rapid_50 (by decide) ?_
          refine x_icmp_ne (pc := 52) (tgt := 62) (x := v49) (y := 10) dX8_rapid_52 rfl (fun hc => ?_) (fun hc => ?_)
          · replace hf := it_t hc hf
            refine x_aload_n (pc := 62) (a := x0) dX8_rapid_62 rfl ?_
            refine x_iconst (pc := 63) (v := 3) dX8_rapid_63 (by decide) ?_
            refine x_aload_n (pc := 64) (a := x0) dX8_rapid_64 rfl ?_
            replace hf := bd_s hf; obtain ⟨v65, e65, hf⟩ := hf
            refine x_getR (pc := 65) dX8_rapid_65 fl_8_7 e65 ?_
            refine x_iconst (pc := 68) (v := 3) dX8_rapid_68 (by decide) ?_
            replace hf := bd_s hf; obtain ⟨v69, e69, hf⟩ := hf
            refine x_ldI (pc := 69) dX8_rapid_69 e69 ?_
            refine x_iconst (pc := 70) (v := 1) dX8_rapid_70 (by decide) ?_
            refine x_iadd (pc := 71) dX8_rapid_71 ?_
            replace hf := bd_s hf; obtain ⟨u72, i72, hf⟩ := hf
            replace hf := bd2_s hf; obtain ⟨v72, h72, e72, hf⟩ := hf
            refine x_cVi (pc := 72) (M' := mX8_becomes) (as := [.int (3), .int (v69 + 1)]) (st := []) (a := x0) (ci := 8) dX8_rapid_72 mo_X8_becomes lk_8_63 im_X8_becomes se_X8_becomes rfl ⟨Nat.le_of_ble_eq_true rfl, Nat.le_of_ble_eq_true rfl⟩ rfl (Nat.le_of_ble_eq_true rfl) rfl i72 (tm_X8_becomes e72) ?_
            refine x_istore (pc := 75) (ls' := [some (va_rf (x0)), some (.int (x1)), some (.int (x2)), some (.int (x3)), some (.int (v72))]) dX8_rapid_75 (by decide) rfl ?_
            refine x_aload_n (pc := 77) (a := x0) dX8_rapid_77 rfl ?_
            replace hf := bd_s hf; obtain ⟨v78, e78, hf⟩ := hf
            refine x_getR (pc := 78) dX8_rapid_78 fl_8_7 e78 ?_
            refine x_bipush (pc := 81) (v := 36) dX8_rapid_81 (by decide) ?_
            refine x_iconst (pc := 83) (v := 3) dX8_rapid_83 (by decide) ?_
            refine x_iload (pc := 84) (x := v72) dX8_rapid_84 rfl ?_
            refine x_imul (pc := 86) dX8_rapid_86 ?_
            refine x_iadd (pc := 87) dX8_rapid_87 ?_
            refine x_iload_n (pc := 88) (x := x1) dX8_rapid_88 rfl ?_
            replace hf := bd_s hf; obtain ⟨h89, e89, hf⟩ := hf
            refine x_stI (pc := 89) dX8_rapid_89 e89 ?_
            refine x_aload_n (pc := 90) (a := x0) dX8_rapid_90 rfl ?_
            replace hf := bd_s hf; obtain ⟨v91, e91, hf⟩ := hf
            refine x_getR (pc := 91) dX8_rapid_91 fl_8_7 e91 ?_
            refine x_bipush (pc := 94) (v := 36) dX8_rapid_94 (by decide) ?_
            refine x_iconst (pc := 96) (v := 3) dX8_rapid_96 (by decide) ?_
            refine x_iload (pc := 97) (x := v72) dX8_rapid_97 rfl ?_
            refine x_imul (pc := 99) dX8_rapid_99 ?_
            refine x_iadd (pc := 100) dX8_rapid_100 ?_
            refine x_iconst (pc := 101) (v := 1) dX8_rapid_101 (by decide) ?_
            refine x_iadd (pc := 102) dX8_rapid_102 ?_
            refine x_iload_n (pc := 103) (x := x2) dX8_rapid_103 rfl ?_
            replace hf := bd_s hf; obtain ⟨h104, e104, hf⟩ := hf
            refine x_stI (pc := 104) dX8_rapid_104 e104 ?_
            refine x_aload_n (pc := 105) (a := x0) dX8_rapid_105 rfl ?_
            replace hf := bd_s hf; obtain ⟨v106, e106, hf⟩ := hf
            refine x_getR (pc := 106) dX8_rapid_106 fl_8_7 e106 ?_
            refine x_bipush (pc := 109) (v := 36) dX8_rapid_109 (by decide) ?_
            refine x_iconst (pc := 111) (v := 3) dX8_rapid_111 (by decide) ?_
            refine x_iload (pc := 112) (x := v72) dX8_rapid_112 rfl ?_
            refine x_imul (pc := 114) dX8_rapid_114 ?_
            refine x_iadd (pc := 115) dX8_rapid_115 ?_
            refine x_iconst (pc := 116) (v := 2) dX8_rapid_116 (by decide) ?_
            refine x_iadd (pc := 117) dX8_rapid_117 ?_
            refine x_iload_n (pc := 118) (x := x3) dX8_rapid_118 rfl ?_
            replace hf := bd_s hf; obtain ⟨h119, e119, hf⟩ := hf
            refine x_stI (pc := 119) dX8_rapid_119 e119 ?_
            refine x_iload (pc := 120) (x := v72) dX8_rapid_120 rfl ?_
            obtain ⟨rfl, rfl⟩ := ret_s hf
            exact x_reti (pc := 122) dX8_rapid_122 rfl
          · replace hf := it_n hc hf
            refine x_aload_n (pc := 55) (a := x0) dX8_rapid_55 rfl ?_
            refine x_ldc (pc := 56) (v := -100005) dX8_rapid_56 kc_8_68 ?_
            replace hf := bd_s hf; obtain ⟨u58, i58, hf⟩ := hf
            replace hf := bd2_s hf; obtain ⟨v58, h58, e58, hf⟩ := hf
            refine x_cVi (pc := 58) (M' := mX8_finding) (as := [.int ((-100005))]) (st := []) (a := x0) (ci := 8) dX8_rapid_58 mo_X8_finding lk_8_56 im_X8_finding se_X8_finding rfl ⟨Nat.le_of_ble_eq_true rfl, Nat.le_of_ble_eq_true rfl⟩ rfl (Nat.le_of_ble_eq_true rfl) rfl i58 (tm_X8_finding e58) ?_
            obtain ⟨rfl, rfl⟩ := ret_s hf
            exact x_reti (pc := 61) dX8_rapid_61 rfl
        · replace hf := it_f hc hf
          refine x_aload_n (pc := 37) (a := x0) dX8_rapid_37 rfl ?_
          refine x_ldc (pc := 38) (v := -100003) dX8_rapid_38 kc_8_73 ?_
          replace hf := bd_s hf; obtain ⟨u40, i40, hf⟩ := hf
          replace hf := bd2_s hf; obtain ⟨v40, h40, e40, hf⟩ := hf
          refine x_cVi (pc := 40) (M' := mX8_finding) (as := [.int ((-100003))]) (st := []) (a := x0) (ci := 8) dX8_rapid_40 mo_X8_finding lk_8_56 im_X8_finding se_X8_finding rfl ⟨Nat.le_of_ble_eq_true rfl, Nat.le_of_ble_eq_true rfl⟩ rfl (Nat.le_of_ble_eq_true rfl) rfl i40 (tm_X8_finding e40) ?_
          obtain ⟨rfl, rfl⟩ := ret_s hf
          exact x_reti (pc := 43) dX8_rapid_43 rfl
      · replace hf := it_n hc hf
        refine x_aload_n (pc := 25) (a := x0) dX8_rapid_25 rfl ?_
        refine x_ldc (pc := 26) (v := -100001) dX8_rapid_26 kc_8_67 ?_
        replace hf := bd_s hf; obtain ⟨u28, i28, hf⟩ := hf
        replace hf := bd2_s hf; obtain ⟨v28, h28, e28, hf⟩ := hf
        refine x_cVi (pc := 28) (M' := mX8_finding) (as := [.int ((-100001))]) (st := []) (a := x0) (ci := 8) dX8_rapid_28 mo_X8_finding lk_8_56 im_X8_finding se_X8_finding rfl ⟨Nat.le_of_ble_eq_true rfl, Nat.le_of_ble_eq_true rfl⟩ rfl (Nat.le_of_ble_eq_true rfl) rfl i28 (tm_X8_finding e28) ?_
        obtain ⟨rfl, rfl⟩ := ret_s hf
        exact x_reti (pc := 31) dX8_rapid_31 rfl

def f_X8_runs (h : AH) (x0 : Option Nat) (x1 : Int32) (x2 : Int32) (x3 : Int32) : Option (Int32 × AH) :=
  bd (isO h x0 8) fun _ =>
  bd2 (f_X8_isRapid h x0 x1) fun v2 h2 =>
  if v2 = 0 then (
    bd (isO h2 x0 8) fun _ =>
    bd2 (f_X8_finding h2 x0 (-100001)) fun v37 h37 =>
    some (v37, h37)
  ) else (
    bd2 (f_X8_isDay h2 x2) fun v9 h9 =>
    if v9 = 0 then (
      bd (isO h9 x0 8) fun _ =>
      bd2 (f_X8_finding h9 x0 (-100001)) fun v37 h37 =>
      some (v37, h37)
    ) else (
      bd2 (f_X8_isIn h9 x3 0 3) fun v18 h18 =>
      if v18 = 0 then (
        bd (isO h18 x0 8) fun _ =>
        bd2 (f_X8_finding h18 x0 (-100001)) fun v37 h37 =>
        some (v37, h37)
      ) else (
        bd (isO h18 x0 8) fun _ =>
        bd2 (f_X8_hourOf h18 x0 x1 x2 x3) fun v28 h28 =>
        some (v28, h28)
      )
    )
  )

set_option maxRecDepth 100000 in
set_option maxHeartbeats 4000000 in
theorem tm_X8_runs {g : GT} {h : AH} {x0 : Option Nat} {x1 : Int32} {x2 : Int32} {x3 : Int32} {r : Int32} {h' : AH} (hf : f_X8_runs h x0 x1 x2 x3 = some (r, h')) : Xm g mX8_runs [va_rf (x0), .int (x1), .int (x2), .int (x3)] h (some (.int r)) h' := by
  refine xm_of mo_X8_runs (Nat.le_of_ble_eq_true rfl) (ls := [some (va_rf (x0)), some (.int (x1)), some (.int (x2)), some (.int (x3))]) rfl ?_
  rw [f_X8_runs] at hf
  refine x_aload_n (pc := 0) (a := x0) dX8_runs_0 rfl ?_
  refine x_iload_n (pc := 1) (x := x1) dX8_runs_1 rfl ?_
  replace hf := bd_s hf; obtain ⟨u2, i2, hf⟩ := hf
  replace hf := bd2_s hf; obtain ⟨v2, h2, e2, hf⟩ := hf
  refine x_cVi (pc := 2) (M' := mX8_isRapid) (as := [.int (x1)]) (st := []) (a := x0) (ci := 8) dX8_runs_2 mo_X8_isRapid lk_8_81 im_X8_isRapid se_X8_isRapid rfl ⟨Nat.le_of_ble_eq_true rfl, Nat.le_of_ble_eq_true rfl⟩ rfl (Nat.le_of_ble_eq_true rfl) rfl i2 (tm_X8_isRapid e2) ?_
  refine x_if_eq (pc := 5) (tgt := 34) (x := v2) dX8_runs_5 rfl (fun hc => ?_) (fun hc => ?_)
  · replace hf := it_t hc hf
    refine x_aload_n (pc := 34) (a := x0) dX8_runs_34 rfl ?_
    refine x_ldc (pc := 35) (v := -100001) dX8_runs_35 kc_8_67 ?_
    replace hf := bd_s hf; obtain ⟨u37, i37, hf⟩ := hf
    replace hf := bd2_s hf; obtain ⟨v37, h37, e37, hf⟩ := hf
    refine x_cVi (pc := 37) (M' := mX8_finding) (as := [.int ((-100001))]) (st := []) (a := x0) (ci := 8) dX8_runs_37 mo_X8_finding lk_8_56 im_X8_finding se_X8_finding rfl ⟨Nat.le_of_ble_eq_true rfl, Nat.le_of_ble_eq_true rfl⟩ rfl (Nat.le_of_ble_eq_true rfl) rfl i37 (tm_X8_finding e37) ?_
    obtain ⟨rfl, rfl⟩ := ret_s hf
    exact x_reti (pc := 40) dX8_runs_40 rfl
  · replace hf := it_f hc hf
    refine x_iload_n (pc := 8) (x := x2) dX8_runs_8 rfl ?_
    replace hf := bd2_s hf; obtain ⟨v9, h9, e9, hf⟩ := hf
    refine x_cSi (pc := 9) (M' := mX8_isDay) (as := [.int (x2)]) (st := []) dX8_runs_9 mo_X8_isDay lk_8_74 sm_X8_isDay ⟨Nat.le_of_ble_eq_true rfl, Nat.le_of_ble_eq_true rfl⟩ rfl (Nat.le_of_ble_eq_true rfl) rfl (tm_X8_isDay e9) ?_
    refine x_if_eq (pc := 12) (tgt := 34) (x := v9) dX8_runs_12 rfl (fun hc => ?_) (fun hc => ?_)
    · replace hf := it_t hc hf
      refine x_aload_n (pc := 34) (a := x0) dX8_runs_34 rfl ?_
      refine x_ldc (pc := 35) (v := -100001) dX8_runs_35 kc_8_67 ?_
      replace hf := bd_s hf; obtain ⟨u37, i37, hf⟩ := hf
      replace hf := bd2_s hf; obtain ⟨v37, h37, e37, hf⟩ := hf
      refine x_cVi (pc := 37) (M' := mX8_finding) (as := [.int ((-100001))]) (st := []) (a := x0) (ci := 8) dX8_runs_37 mo_X8_finding lk_8_56 im_X8_finding se_X8_finding rfl ⟨Nat.le_of_ble_eq_true rfl, Nat.le_of_ble_eq_true rfl⟩ rfl (Nat.le_of_ble_eq_true rfl) rfl i37 (tm_X8_finding e37) ?_
      obtain ⟨rfl, rfl⟩ := ret_s hf
      exact x_reti (pc := 40) dX8_runs_40 rfl
    · replace hf := it_f hc hf
      refine x_iload_n (pc := 15) (x := x3) dX8_runs_15 rfl ?_
      refine x_iconst (pc := 16) (v := 0) dX8_runs_16 (by decide) ?_
      refine x_iconst (pc := 17) (v := 3) dX8_runs_17 (by decide) ?_
      replace hf := bd2_s hf; obtain ⟨v18, h18, e18, hf⟩ := hf
      refine x_cSi (pc := 18) (M' := mX8_isIn) (as := [.int (x3), .int (0), .int (3)]) (st := []) dX8_runs_18 mo_X8_isIn lk_8_48 sm_X8_isIn ⟨Nat.le_of_ble_eq_true rfl, Nat.le_of_ble_eq_true rfl⟩ rfl (Nat.le_of_ble_eq_true rfl) rfl (tm_X8_isIn e18) ?_
      refine x_if_eq (pc := 21) (tgt := 34) (x := v18) dX8_runs_21 rfl (fun hc => ?_) (fun hc => ?_)
      · replace hf := it_t hc hf
        refine x_aload_n (pc := 34) (a := x0) dX8_runs_34 rfl ?_
        refine x_ldc (pc := 35) (v := -100001) dX8_runs_35 kc_8_67 ?_
        replace hf := bd_s hf; obtain ⟨u37, i37, hf⟩ := hf
        replace hf := bd2_s hf; obtain ⟨v37, h37, e37, hf⟩ := hf
        refine x_cVi (pc := 37) (M' := mX8_finding) (as := [.int ((-100001))]) (st := []) (a := x0) (ci := 8) dX8_runs_37 mo_X8_finding lk_8_56 im_X8_finding se_X8_finding rfl ⟨Nat.le_of_ble_eq_true rfl, Nat.le_of_ble_eq_true rfl⟩ rfl (Nat.le_of_ble_eq_true rfl) rfl i37 (tm_X8_finding e37) ?_
        obtain ⟨rfl, rfl⟩ := ret_s hf
        exact x_reti (pc := 40) dX8_runs_40 rfl
      · replace hf := it_f hc hf
        refine x_aload_n (pc := 24) (a := x0) dX8_runs_24 rfl ?_
        refine x_iload_n (pc := 25) (x := x1) dX8_runs_25 rfl ?_
        refine x_iload_n (pc := 26) (x := x2) dX8_runs_26 rfl ?_
        refine x_iload_n (pc := 27) (x := x3) dX8_runs_27 rfl ?_
        replace hf := bd_s hf; obtain ⟨u28, i28, hf⟩ := hf
        replace hf := bd2_s hf; obtain ⟨v28, h28, e28, hf⟩ := hf
        refine x_cVi (pc := 28) (M' := mX8_hourOf) (as := [.int (x1), .int (x2), .int (x3)]) (st := []) (a := x0) (ci := 8) dX8_runs_28 mo_X8_hourOf lk_8_84 im_X8_hourOf se_X8_hourOf rfl ⟨Nat.le_of_ble_eq_true rfl, Nat.le_of_ble_eq_true rfl⟩ rfl (Nat.le_of_ble_eq_true rfl) rfl i28 (tm_X8_hourOf e28) ?_
        refine x_goto (pc := 31) (tgt := 40) dX8_runs_31 rfl ?_
        obtain ⟨rfl, rfl⟩ := ret_s hf
        exact x_reti (pc := 40) dX8_runs_40 rfl

def g_X8_sheet_85 : Nat → AH → Option Nat → Int32 → Int32 → Option (Int32 × AH)
  | 0, _, _, _, _ => none
  | n + 1, h, x0, x1, x4 =>
    if 40 ≤ x4 then (
      bd (gR h x0 8 4) fun v112 =>
      bd (ldI h v112 x1) fun v116 =>
      some (v116, h)
    ) else (
      bd (gR h x0 8 5) fun v93 =>
      bd (stI h v93 ((40 * x1) + x4) 0) fun h104 =>
      g_X8_sheet_85  n h104 x0 x1 (x4 + 1)
    )

set_option maxRecDepth 100000 in
set_option maxHeartbeats 4000000 in
theorem tg_X8_sheet_85 {g : GT} : ∀ (n : Nat) {h : AH} {x0 : Option Nat} {x1 : Int32} {x4 : Int32} {r : Int32} {h' : AH}, g_X8_sheet_85 n h x0 x1 x4 = some (r, h') → Xj g mX8_sheet h 85 [some (va_rf (x0)), some (.int (x1)), none, none, some (.int (x4))] [] (some (.int r)) h' := by
  intro n
  induction n with
  | zero =>
    intros
    rename_i z
    cases z
  | succ n ih =>
    intro h x0 x1 x4 r h' hf
    rw [g_X8_sheet_85] at hf
    refine x_iload (pc := 85) (x := x4) dX8_sheet_85 rfl ?_
    refine x_bipush (pc := 87) (v := 40) dX8_sheet_87 (by decide) ?_
    refine x_icmp_ge (pc := 89) (tgt := 111) (x := x4) (y := 40) dX8_sheet_89 rfl (fun hc => ?_) (fun hc => ?_)
    · replace hf := it_t hc hf
      refine x_aload_n (pc := 111) (a := x0) dX8_sheet_111 rfl ?_
      replace hf := bd_s hf; obtain ⟨v112, e112, hf⟩ := hf
      refine x_getR (pc := 112) dX8_sheet_112 fl_8_19 e112 ?_
      refine x_iload_n (pc := 115) (x := x1) dX8_sheet_115 rfl ?_
      replace hf := bd_s hf; obtain ⟨v116, e116, hf⟩ := hf
      refine x_ldI (pc := 116) dX8_sheet_116 e116 ?_
      obtain ⟨rfl, rfl⟩ := ret_s hf
      exact x_reti (pc := 117) dX8_sheet_117 rfl
    · replace hf := it_f hc hf
      refine x_aload_n (pc := 92) (a := x0) dX8_sheet_92 rfl ?_
      replace hf := bd_s hf; obtain ⟨v93, e93, hf⟩ := hf
      refine x_getR (pc := 93) dX8_sheet_93 fl_8_22 e93 ?_
      refine x_bipush (pc := 96) (v := 40) dX8_sheet_96 (by decide) ?_
      refine x_iload_n (pc := 98) (x := x1) dX8_sheet_98 rfl ?_
      refine x_imul (pc := 99) dX8_sheet_99 ?_
      refine x_iload (pc := 100) (x := x4) dX8_sheet_100 rfl ?_
      refine x_iadd (pc := 102) dX8_sheet_102 ?_
      refine x_iconst (pc := 103) (v := 0) dX8_sheet_103 (by decide) ?_
      replace hf := bd_s hf; obtain ⟨h104, e104, hf⟩ := hf
      refine x_stI (pc := 104) dX8_sheet_104 e104 ?_
      refine x_iinc (pc := 105) (x := x4) (v := x4 + 1) (ls' := [some (va_rf (x0)), some (.int (x1)), none, none, some (.int (x4 + 1))]) dX8_sheet_105 rfl rfl (by decide) rfl ?_
      refine x_goto (pc := 108) (tgt := 85) dX8_sheet_108 rfl ?_
      exact ih hf

def j_X8_sheet_36 (h : AH) (x0 : Option Nat) (x1 : Int32) (x2 : Int32) (x3 : Int32) : Option (Int32 × AH) :=
  if 0 ≤ x3 then (
    if x3 ≤ 40 then (
      bd (gR h x0 8 3) fun v61 =>
      bd (stI h v61 x1 x2) fun h66 =>
      bd (gR h66 x0 8 4) fun v68 =>
      if ¬ x2 = 0 then (
        bd (stI h66 v68 x1 x3) fun h81 =>
        g_X8_sheet_85  NN h81 x0 x1 0
      ) else (
        bd (stI h66 v68 x1 0) fun h81 =>
        g_X8_sheet_85  NN h81 x0 x1 0
      )
    ) else (
      bd (isO h x0 8) fun _ =>
      bd2 (f_X8_finding h x0 (-100001)) fun v56 h56 =>
      some (v56, h56)
    )
  ) else (
    bd (isO h x0 8) fun _ =>
    bd2 (f_X8_finding h x0 (-100003)) fun v43 h43 =>
    some (v43, h43)
  )

set_option maxRecDepth 100000 in
set_option maxHeartbeats 4000000 in
theorem tj_X8_sheet_36 {g : GT} {h : AH} {x0 : Option Nat} {x1 : Int32} {x2 : Int32} {x3 : Int32} {r : Int32} {h' : AH} (hf : j_X8_sheet_36 h x0 x1 x2 x3 = some (r, h')) : Xj g mX8_sheet h 36 [some (va_rf (x0)), some (.int (x1)), some (.int (x2)), some (.int (x3)), none] [] (some (.int r)) h' := by
  rw [j_X8_sheet_36] at hf
  refine x_iload_n (pc := 36) (x := x3) dX8_sheet_36 rfl ?_
  refine x_if_ge (pc := 37) (tgt := 47) (x := x3) dX8_sheet_37 rfl (fun hc => ?_) (fun hc => ?_)
  · replace hf := it_t hc hf
    refine x_iload_n (pc := 47) (x := x3) dX8_sheet_47 rfl ?_
    refine x_bipush (pc := 48) (v := 40) dX8_sheet_48 (by decide) ?_
    refine x_icmp_le (pc := 50) (tgt := 60) (x := x3) (y := 40) dX8_sheet_50 rfl (fun hc => ?_) (fun hc => ?_)
    · replace hf := it_t hc hf
      refine x_aload_n (pc := 60) (a := x0) dX8_sheet_60 rfl ?_
      replace hf := bd_s hf; obtain ⟨v61, e61, hf⟩ := hf
      refine x_getR (pc := 61) dX8_sheet_61 fl_8_16 e61 ?_
      refine x_iload_n (pc := 64) (x := x1) dX8_sheet_64 rfl ?_
      refine x_iload_n (pc := 65) (x := x2) dX8_sheet_65 rfl ?_
      replace hf := bd_s hf; obtain ⟨h66, e66, hf⟩ := hf
      refine x_stI (pc := 66) dX8_sheet_66 e66 ?_
      refine x_aload_n (pc := 67) (a := x0) dX8_sheet_67 rfl ?_
      replace hf := bd_s hf; obtain ⟨v68, e68, hf⟩ := hf
      refine x_getR (pc := 68) dX8_sheet_68 fl_8_19 e68 ?_
      refine x_iload_n (pc := 71) (x := x1) dX8_sheet_71 rfl ?_
      refine x_iload_n (pc := 72) (x := x2) dX8_sheet_72 rfl ?_
      refine x_if_ne (pc := 73) (tgt := 80) (x := x2) dX8_sheet_73 rfl (fun hc => ?_) (fun hc => ?_)
      · replace hf := it_t hc hf
        refine x_iload_n (pc := 80) (x := x3) dX8_sheet_80 rfl ?_
        replace hf := bd_s hf; obtain ⟨h81, e81, hf⟩ := hf
        refine x_stI (pc := 81) dX8_sheet_81 e81 ?_
        refine x_iconst (pc := 82) (v := 0) dX8_sheet_82 (by decide) ?_
        refine x_istore (pc := 83) (ls' := [some (va_rf (x0)), some (.int (x1)), some (.int (x2)), some (.int (x3)), some (.int (0))]) dX8_sheet_83 (by decide) rfl ?_
        refine x_mask [true, true, false, false, true] rfl ?_
        exact tg_X8_sheet_85  NN hf
      · replace hf := it_n hc hf
        refine x_iconst (pc := 76) (v := 0) dX8_sheet_76 (by decide) ?_
        refine x_goto (pc := 77) (tgt := 81) dX8_sheet_77 rfl ?_
        replace hf := bd_s hf; obtain ⟨h81, e81, hf⟩ := hf
        refine x_stI (pc := 81) dX8_sheet_81 e81 ?_
        refine x_iconst (pc := 82) (v := 0) dX8_sheet_82 (by decide) ?_
        refine x_istore (pc := 83) (ls' := [some (va_rf (x0)), some (.int (x1)), some (.int (x2)), some (.int (x3)), some (.int (0))]) dX8_sheet_83 (by decide) rfl ?_
        refine x_mask [true, true, false, false, true] rfl ?_
        exact tg_X8_sheet_85  NN hf
    · replace hf := it_f hc hf
      refine x_aload_n (pc := 53) (a := x0) dX8_sheet_53 rfl ?_
      refine x_ldc (pc := 54) (v := -100001) dX8_sheet_54 kc_8_67 ?_
      replace hf := bd_s hf; obtain ⟨u56, i56, hf⟩ := hf
      replace hf := bd2_s hf; obtain ⟨v56, h56, e56, hf⟩ := hf
      refine x_cVi (pc := 56) (M' := mX8_finding) (as := [.int ((-100001))]) (st := []) (a := x0) (ci := 8) dX8_sheet_56 mo_X8_finding lk_8_56 im_X8_finding se_X8_finding rfl ⟨Nat.le_of_ble_eq_true rfl, Nat.le_of_ble_eq_true rfl⟩ rfl (Nat.le_of_ble_eq_true rfl) rfl i56 (tm_X8_finding e56) ?_
      obtain ⟨rfl, rfl⟩ := ret_s hf
      exact x_reti (pc := 59) dX8_sheet_59 rfl
  · replace hf := it_f hc hf
    refine x_aload_n (pc := 40) (a := x0) dX8_sheet_40 rfl ?_
    refine x_ldc (pc := 41) (v := -100003) dX8_sheet_41 kc_8_73 ?_
    replace hf := bd_s hf; obtain ⟨u43, i43, hf⟩ := hf
    replace hf := bd2_s hf; obtain ⟨v43, h43, e43, hf⟩ := hf
    refine x_cVi (pc := 43) (M' := mX8_finding) (as := [.int ((-100003))]) (st := []) (a := x0) (ci := 8) dX8_sheet_43 mo_X8_finding lk_8_56 im_X8_finding se_X8_finding rfl ⟨Nat.le_of_ble_eq_true rfl, Nat.le_of_ble_eq_true rfl⟩ rfl (Nat.le_of_ble_eq_true rfl) rfl i43 (tm_X8_finding e43) ?_
    obtain ⟨rfl, rfl⟩ := ret_s hf
    exact x_reti (pc := 46) dX8_sheet_46 rfl

def f_X8_sheet (h : AH) (x0 : Option Nat) (x1 : Int32) (x2 : Int32) (x3 : Int32) : Option (Int32 × AH) :=
  bd2 (f_X8_isSheet h x1) fun v1 h1 =>
  if v1 = 0 then (
    bd (isO h1 x0 8) fun _ =>
    bd2 (f_X8_finding h1 x0 (-100001)) fun v32 h32 =>
    some (v32, h32)
  ) else (
    if x2 = 0 then (
      j_X8_sheet_36  h1 x0 x1 x2 x3
    ) else (
      if x2 = 8 then (
        j_X8_sheet_36  h1 x0 x1 x2 x3
      ) else (
        if x2 = 16 then (
          j_X8_sheet_36  h1 x0 x1 x2 x3
        ) else (
          if x2 = 32 then (
            j_X8_sheet_36  h1 x0 x1 x2 x3
          ) else (
            bd (isO h1 x0 8) fun _ =>
            bd2 (f_X8_finding h1 x0 (-100001)) fun v32 h32 =>
            some (v32, h32)
          )
        )
      )
    )
  )

set_option maxRecDepth 100000 in
set_option maxHeartbeats 4000000 in
theorem tm_X8_sheet {g : GT} {h : AH} {x0 : Option Nat} {x1 : Int32} {x2 : Int32} {x3 : Int32} {r : Int32} {h' : AH} (hf : f_X8_sheet h x0 x1 x2 x3 = some (r, h')) : Xm g mX8_sheet [va_rf (x0), .int (x1), .int (x2), .int (x3)] h (some (.int r)) h' := by
  refine xm_of mo_X8_sheet (Nat.le_of_ble_eq_true rfl) (ls := [some (va_rf (x0)), some (.int (x1)), some (.int (x2)), some (.int (x3)), none]) rfl ?_
  rw [f_X8_sheet] at hf
  refine x_iload_n (pc := 0) (x := x1) dX8_sheet_0 rfl ?_
  replace hf := bd2_s hf; obtain ⟨v1, h1, e1, hf⟩ := hf
  refine x_cSi (pc := 1) (M' := mX8_isSheet) (as := [.int (x1)]) (st := []) dX8_sheet_1 mo_X8_isSheet lk_8_156 sm_X8_isSheet ⟨Nat.le_of_ble_eq_true rfl, Nat.le_of_ble_eq_true rfl⟩ rfl (Nat.le_of_ble_eq_true rfl) rfl (tm_X8_isSheet e1) ?_
  refine x_if_eq (pc := 4) (tgt := 29) (x := v1) dX8_sheet_4 rfl (fun hc => ?_) (fun hc => ?_)
  · replace hf := it_t hc hf
    refine x_aload_n (pc := 29) (a := x0) dX8_sheet_29 rfl ?_
    refine x_ldc (pc := 30) (v := -100001) dX8_sheet_30 kc_8_67 ?_
    replace hf := bd_s hf; obtain ⟨u32, i32, hf⟩ := hf
    replace hf := bd2_s hf; obtain ⟨v32, h32, e32, hf⟩ := hf
    refine x_cVi (pc := 32) (M' := mX8_finding) (as := [.int ((-100001))]) (st := []) (a := x0) (ci := 8) dX8_sheet_32 mo_X8_finding lk_8_56 im_X8_finding se_X8_finding rfl ⟨Nat.le_of_ble_eq_true rfl, Nat.le_of_ble_eq_true rfl⟩ rfl (Nat.le_of_ble_eq_true rfl) rfl i32 (tm_X8_finding e32) ?_
    obtain ⟨rfl, rfl⟩ := ret_s hf
    exact x_reti (pc := 35) dX8_sheet_35 rfl
  · replace hf := it_f hc hf
    refine x_iload_n (pc := 7) (x := x2) dX8_sheet_7 rfl ?_
    refine x_if_eq (pc := 8) (tgt := 36) (x := x2) dX8_sheet_8 rfl (fun hc => ?_) (fun hc => ?_)
    · replace hf := it_t hc hf
      exact tj_X8_sheet_36  hf
    · replace hf := it_f hc hf
      refine x_iload_n (pc := 11) (x := x2) dX8_sheet_11 rfl ?_
      refine x_bipush (pc := 12) (v := 8) dX8_sheet_12 (by decide) ?_
      refine x_icmp_eq (pc := 14) (tgt := 36) (x := x2) (y := 8) dX8_sheet_14 rfl (fun hc => ?_) (fun hc => ?_)
      · replace hf := it_t hc hf
        exact tj_X8_sheet_36  hf
      · replace hf := it_f hc hf
        refine x_iload_n (pc := 17) (x := x2) dX8_sheet_17 rfl ?_
        refine x_bipush (pc := 18) (v := 16) dX8_sheet_18 (by decide) ?_
        refine x_icmp_eq (pc := 20) (tgt := 36) (x := x2) (y := 16) dX8_sheet_20 rfl (fun hc => ?_) (fun hc => ?_)
        · replace hf := it_t hc hf
          exact tj_X8_sheet_36  hf
        · replace hf := it_f hc hf
          refine x_iload_n (pc := 23) (x := x2) dX8_sheet_23 rfl ?_
          refine x_bipush (pc := 24) (v := 32) dX8_sheet_24 (by decide) ?_
          refine x_icmp_eq (pc := 26) (tgt := 36) (x := x2) (y := 32) dX8_sheet_26 rfl (fun hc => ?_) (fun hc => ?_)
          · replace hf := it_t hc hf
            exact tj_X8_sheet_36  hf
          · replace hf := it_f hc hf
            refine x_aload_n (pc := 29) (a := x0) dX8_sheet_29 rfl ?_
            refine x_ldc (pc := 30) (v := -100001) dX8_sheet_30 kc_8_67 ?_
            replace hf := bd_s hf; obtain ⟨u32, i32, hf⟩ := hf
            replace hf := bd2_s hf; obtain ⟨v32, h32, e32, hf⟩ := hf
            refine x_cVi (pc := 32) (M' := mX8_finding) (as := [.int ((-100001))]) (st := []) (a := x0) (ci := 8) dX8_sheet_32 mo_X8_finding lk_8_56 im_X8_finding se_X8_finding rfl ⟨Nat.le_of_ble_eq_true rfl, Nat.le_of_ble_eq_true rfl⟩ rfl (Nat.le_of_ble_eq_true rfl) rfl i32 (tm_X8_finding e32) ?_
            obtain ⟨rfl, rfl⟩ := ret_s hf
            exact x_reti (pc := 35) dX8_sheet_35 rfl

def f_X8_speed (h : AH) (x0 : Option Nat) (x1 : Int32) : Option (Int32 × AH) :=
  bd2 (f_X8_isIn h x1 1 9) fun v4 h4 =>
  if v4 = 0 then (
    bd (isO h4 x0 8) fun _ =>
    bd2 (f_X8_finding h4 x0 (-100001)) fun v22 h22 =>
    some (v22, h22)
  ) else (
    bd (isO h4 x0 8) fun _ =>
    bd2 (f_X8_becomes h4 x0 1 x1) fun v13 h13 =>
    some (v13, h13)
  )

set_option maxRecDepth 100000 in
set_option maxHeartbeats 4000000 in
theorem tm_X8_speed {g : GT} {h : AH} {x0 : Option Nat} {x1 : Int32} {r : Int32} {h' : AH} (hf : f_X8_speed h x0 x1 = some (r, h')) : Xm g mX8_speed [va_rf (x0), .int (x1)] h (some (.int r)) h' := by
  refine xm_of mo_X8_speed (Nat.le_of_ble_eq_true rfl) (ls := [some (va_rf (x0)), some (.int (x1))]) rfl ?_
  rw [f_X8_speed] at hf
  refine x_iload_n (pc := 0) (x := x1) dX8_speed_0 rfl ?_
  refine x_iconst (pc := 1) (v := 1) dX8_speed_1 (by decide) ?_
  refine x_bipush (pc := 2) (v := 9) dX8_speed_2 (by decide) ?_
  replace hf := bd2_s hf; obtain ⟨v4, h4, e4, hf⟩ := hf
  refine x_cSi (pc := 4) (M' := mX8_isIn) (as := [.int (x1), .int (1), .int (9)]) (st := []) dX8_speed_4 mo_X8_isIn lk_8_48 sm_X8_isIn ⟨Nat.le_of_ble_eq_true rfl, Nat.le_of_ble_eq_true rfl⟩ rfl (Nat.le_of_ble_eq_true rfl) rfl (tm_X8_isIn e4) ?_
  refine x_if_eq (pc := 7) (tgt := 19) (x := v4) dX8_speed_7 rfl (fun hc => ?_) (fun hc => ?_)
  · replace hf := it_t hc hf
    refine x_aload_n (pc := 19) (a := x0) dX8_speed_19 rfl ?_
    refine x_ldc (pc := 20) (v := -100001) dX8_speed_20 kc_8_67 ?_
    replace hf := bd_s hf; obtain ⟨u22, i22, hf⟩ := hf
    replace hf := bd2_s hf; obtain ⟨v22, h22, e22, hf⟩ := hf
    refine x_cVi (pc := 22) (M' := mX8_finding) (as := [.int ((-100001))]) (st := []) (a := x0) (ci := 8) dX8_speed_22 mo_X8_finding lk_8_56 im_X8_finding se_X8_finding rfl ⟨Nat.le_of_ble_eq_true rfl, Nat.le_of_ble_eq_true rfl⟩ rfl (Nat.le_of_ble_eq_true rfl) rfl i22 (tm_X8_finding e22) ?_
    obtain ⟨rfl, rfl⟩ := ret_s hf
    exact x_reti (pc := 25) dX8_speed_25 rfl
  · replace hf := it_f hc hf
    refine x_aload_n (pc := 10) (a := x0) dX8_speed_10 rfl ?_
    refine x_iconst (pc := 11) (v := 1) dX8_speed_11 (by decide) ?_
    refine x_iload_n (pc := 12) (x := x1) dX8_speed_12 rfl ?_
    replace hf := bd_s hf; obtain ⟨u13, i13, hf⟩ := hf
    replace hf := bd2_s hf; obtain ⟨v13, h13, e13, hf⟩ := hf
    refine x_cVi (pc := 13) (M' := mX8_becomes) (as := [.int (1), .int (x1)]) (st := []) (a := x0) (ci := 8) dX8_speed_13 mo_X8_becomes lk_8_63 im_X8_becomes se_X8_becomes rfl ⟨Nat.le_of_ble_eq_true rfl, Nat.le_of_ble_eq_true rfl⟩ rfl (Nat.le_of_ble_eq_true rfl) rfl i13 (tm_X8_becomes e13) ?_
    refine x_goto (pc := 16) (tgt := 25) dX8_speed_16 rfl ?_
    obtain ⟨rfl, rfl⟩ := ret_s hf
    exact x_reti (pc := 25) dX8_speed_25 rfl

def f_X8_take (h : AH) (x0 : Option Nat) (x1 : Int32) : Option (Int32 × AH) :=
  bd (isO h x0 8) fun _ =>
  bd2 (f_X8_isTrip h x0 x1) fun v2 h2 =>
  if ¬ v2 = 0 then (
    bd (isO h2 x0 8) fun _ =>
    bd2 (f_X8_planOf h2 x0 x1) fun v17 h17 =>
    if ¬ v17 = 1000 then (
      bd (isO h17 x0 8) fun _ =>
      bd (f_X8_keep h17 x0) fun h36 =>
      bd (isO h36 x0 8) fun _ =>
      bd (f_X8_lay h36 x0 x1 v17) fun h42 =>
      some (v17 - 1, h42)
    ) else (
      bd (isO h17 x0 8) fun _ =>
      bd2 (f_X8_finding h17 x0 (-100006)) fun v31 h31 =>
      some (v31, h31)
    )
  ) else (
    bd (isO h2 x0 8) fun _ =>
    bd2 (f_X8_finding h2 x0 (-100001)) fun v11 h11 =>
    some (v11, h11)
  )

set_option maxRecDepth 100000 in
set_option maxHeartbeats 4000000 in
theorem tm_X8_take {g : GT} {h : AH} {x0 : Option Nat} {x1 : Int32} {r : Int32} {h' : AH} (hf : f_X8_take h x0 x1 = some (r, h')) : Xm g mX8_take [va_rf (x0), .int (x1)] h (some (.int r)) h' := by
  refine xm_of mo_X8_take (Nat.le_of_ble_eq_true rfl) (ls := [some (va_rf (x0)), some (.int (x1)), none]) rfl ?_
  rw [f_X8_take] at hf
  refine x_aload_n (pc := 0) (a := x0) dX8_take_0 rfl ?_
  refine x_iload_n (pc := 1) (x := x1) dX8_take_1 rfl ?_
  replace hf := bd_s hf; obtain ⟨u2, i2, hf⟩ := hf
  replace hf := bd2_s hf; obtain ⟨v2, h2, e2, hf⟩ := hf
  refine x_cVi (pc := 2) (M' := mX8_isTrip) (as := [.int (x1)]) (st := []) (a := x0) (ci := 8) dX8_take_2 mo_X8_isTrip lk_8_91 im_X8_isTrip se_X8_isTrip rfl ⟨Nat.le_of_ble_eq_true rfl, Nat.le_of_ble_eq_true rfl⟩ rfl (Nat.le_of_ble_eq_true rfl) rfl i2 (tm_X8_isTrip e2) ?_
  refine x_if_ne (pc := 5) (tgt := 15) (x := v2) dX8_take_5 rfl (fun hc => ?_) (fun hc => ?_)
  · replace hf := it_t hc hf
    refine x_aload_n (pc := 15) (a := x0) dX8_take_15 rfl ?_
    refine x_iload_n (pc := 16) (x := x1) dX8_take_16 rfl ?_
    replace hf := bd_s hf; obtain ⟨u17, i17, hf⟩ := hf
    replace hf := bd2_s hf; obtain ⟨v17, h17, e17, hf⟩ := hf
    refine x_cVi (pc := 17) (M' := mX8_planOf) (as := [.int (x1)]) (st := []) (a := x0) (ci := 8) dX8_take_17 mo_X8_planOf lk_8_132 im_X8_planOf se_X8_planOf rfl ⟨Nat.le_of_ble_eq_true rfl, Nat.le_of_ble_eq_true rfl⟩ rfl (Nat.le_of_ble_eq_true rfl) rfl i17 (tm_X8_planOf e17) ?_
    refine x_istore_n (pc := 20) (ls' := [some (va_rf (x0)), some (.int (x1)), some (.int (v17))]) dX8_take_20 (by decide) rfl ?_
    refine x_iload_n (pc := 21) (x := v17) dX8_take_21 rfl ?_
    refine x_sipush (pc := 22) (v := 1000) dX8_take_22 (by decide) ?_
    refine x_icmp_ne (pc := 25) (tgt := 35) (x := v17) (y := 1000) dX8_take_25 rfl (fun hc => ?_) (fun hc => ?_)
    · replace hf := it_t hc hf
      refine x_aload_n (pc := 35) (a := x0) dX8_take_35 rfl ?_
      replace hf := bd_s hf; obtain ⟨u36, i36, hf⟩ := hf
      replace hf := bd_s hf; obtain ⟨h36, e36, hf⟩ := hf
      refine x_cVv (pc := 36) (M' := mX8_keep) (as := []) (st := []) (a := x0) (ci := 8) dX8_take_36 mo_X8_keep lk_8_60 im_X8_keep se_X8_keep rfl ⟨Nat.le_of_ble_eq_true rfl, Nat.le_of_ble_eq_true rfl⟩ rfl (Nat.le_of_ble_eq_true rfl) rfl i36 (tm_X8_keep e36) ?_
      refine x_aload_n (pc := 39) (a := x0) dX8_take_39 rfl ?_
      refine x_iload_n (pc := 40) (x := x1) dX8_take_40 rfl ?_
      refine x_iload_n (pc := 41) (x := v17) dX8_take_41 rfl ?_
      replace hf := bd_s hf; obtain ⟨u42, i42, hf⟩ := hf
      replace hf := bd_s hf; obtain ⟨h42, e42, hf⟩ := hf
      refine x_cVv (pc := 42) (M' := mX8_lay) (as := [.int (x1), .int (v17)]) (st := []) (a := x0) (ci := 8) dX8_take_42 mo_X8_lay lk_8_135 im_X8_lay se_X8_lay rfl ⟨Nat.le_of_ble_eq_true rfl, Nat.le_of_ble_eq_true rfl⟩ rfl (Nat.le_of_ble_eq_true rfl) rfl i42 (tm_X8_lay e42) ?_
      refine x_iload_n (pc := 45) (x := v17) dX8_take_45 rfl ?_
      refine x_iconst (pc := 46) (v := 1) dX8_take_46 (by decide) ?_
      refine x_isub (pc := 47) dX8_take_47 ?_
      obtain ⟨rfl, rfl⟩ := ret_s hf
      exact x_reti (pc := 48) dX8_take_48 rfl
    · replace hf := it_n hc hf
      refine x_aload_n (pc := 28) (a := x0) dX8_take_28 rfl ?_
      refine x_ldc (pc := 29) (v := -100006) dX8_take_29 kc_8_55 ?_
      replace hf := bd_s hf; obtain ⟨u31, i31, hf⟩ := hf
      replace hf := bd2_s hf; obtain ⟨v31, h31, e31, hf⟩ := hf
      refine x_cVi (pc := 31) (M' := mX8_finding) (as := [.int ((-100006))]) (st := []) (a := x0) (ci := 8) dX8_take_31 mo_X8_finding lk_8_56 im_X8_finding se_X8_finding rfl ⟨Nat.le_of_ble_eq_true rfl, Nat.le_of_ble_eq_true rfl⟩ rfl (Nat.le_of_ble_eq_true rfl) rfl i31 (tm_X8_finding e31) ?_
      obtain ⟨rfl, rfl⟩ := ret_s hf
      exact x_reti (pc := 34) dX8_take_34 rfl
  · replace hf := it_n hc hf
    refine x_aload_n (pc := 8) (a := x0) dX8_take_8 rfl ?_
    refine x_ldc (pc := 9) (v := -100001) dX8_take_9 kc_8_67 ?_
    replace hf := bd_s hf; obtain ⟨u11, i11, hf⟩ := hf
    replace hf := bd2_s hf; obtain ⟨v11, h11, e11, hf⟩ := hf
    refine x_cVi (pc := 11) (M' := mX8_finding) (as := [.int ((-100001))]) (st := []) (a := x0) (ci := 8) dX8_take_11 mo_X8_finding lk_8_56 im_X8_finding se_X8_finding rfl ⟨Nat.le_of_ble_eq_true rfl, Nat.le_of_ble_eq_true rfl⟩ rfl (Nat.le_of_ble_eq_true rfl) rfl i11 (tm_X8_finding e11) ?_
    obtain ⟨rfl, rfl⟩ := ret_s hf
    exact x_reti (pc := 14) dX8_take_14 rfl
