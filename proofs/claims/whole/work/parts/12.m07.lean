def f_X8_as (h : AH) (x0 : Option Nat) (x1 : Int32) (x2 : Int32) : Option (Int32 × AH) :=
  bd (isO h x0 8) fun _ =>
  bd2 (f_X8_isTrip h x0 x1) fun v2 h2 =>
  if v2 = 0 then (
    bd (isO h2 x0 8) fun _ =>
    bd2 (f_X8_finding h2 x0 (-100001)) fun v20 h20 =>
    some (v20, h20)
  ) else (
    bd2 (f_X8_isIn h2 x2 0 3) fun v11 h11 =>
    if ¬ v11 = 0 then (
      bd (isO h11 x0 8) fun _ =>
      bd2 (f_X8_told h11 x0 x1 0) fun v27 h27 =>
      if x2 = 0 then (
        some (x1, h27)
      ) else (
        if x2 = v27 then (
          some (x1, h27)
        ) else (
          if ¬ x2 = 1 then (
            bd (isO h27 x0 8) fun _ =>
            bd2 (f_X8_finding h27 x0 (-100004)) fun v57 h57 =>
            some (v57, h57)
          ) else (
            if ¬ v27 = 3 then (
              bd (isO h27 x0 8) fun _ =>
              bd2 (f_X8_finding h27 x0 (-100004)) fun v57 h57 =>
              some (v57, h57)
            ) else (
              some (x1, h27)
            )
          )
        )
      )
    ) else (
      bd (isO h11 x0 8) fun _ =>
      bd2 (f_X8_finding h11 x0 (-100001)) fun v20 h20 =>
      some (v20, h20)
    )
  )

set_option maxRecDepth 100000 in
set_option maxHeartbeats 4000000 in
theorem tm_X8_as {g : GT} {h : AH} {x0 : Option Nat} {x1 : Int32} {x2 : Int32} {r : Int32} {h' : AH} (hf : f_X8_as h x0 x1 x2 = some (r, h')) : Xm g mX8_as [va_rf (x0), .int (x1), .int (x2)] h (some (.int r)) h' := by
  refine xm_of mo_X8_as (Nat.le_of_ble_eq_true rfl) (ls := [some (va_rf (x0)), some (.int (x1)), some (.int (x2)), none]) rfl ?_
  rw [f_X8_as] at hf
  refine x_aload_n (pc := 0) (a := x0) dX8_as_0 rfl ?_
  refine x_iload_n (pc := 1) (x := x1) dX8_as_1 rfl ?_
  replace hf := bd_s hf; obtain ⟨u2, i2, hf⟩ := hf
  replace hf := bd2_s hf; obtain ⟨v2, h2, e2, hf⟩ := hf
  refine x_cVi (pc := 2) (M' := mX8_isTrip) (as := [.int (x1)]) (st := []) (a := x0) (ci := 8) dX8_as_2 mo_X8_isTrip lk_8_91 im_X8_isTrip se_X8_isTrip rfl ⟨Nat.le_of_ble_eq_true rfl, Nat.le_of_ble_eq_true rfl⟩ rfl (Nat.le_of_ble_eq_true rfl) rfl i2 (tm_X8_isTrip e2) ?_
  refine x_if_eq (pc := 5) (tgt := 17) (x := v2) dX8_as_5 rfl (fun hc => ?_) (fun hc => ?_)
  · replace hf := it_t hc hf
    refine x_aload_n (pc := 17) (a := x0) dX8_as_17 rfl ?_
    refine x_ldc (pc := 18) (v := -100001) dX8_as_18 kc_8_67 ?_
    replace hf := bd_s hf; obtain ⟨u20, i20, hf⟩ := hf
    replace hf := bd2_s hf; obtain ⟨v20, h20, e20, hf⟩ := hf
    refine x_cVi (pc := 20) (M' := mX8_finding) (as := [.int ((-100001))]) (st := []) (a := x0) (ci := 8) dX8_as_20 mo_X8_finding lk_8_56 im_X8_finding se_X8_finding rfl ⟨Nat.le_of_ble_eq_true rfl, Nat.le_of_ble_eq_true rfl⟩ rfl (Nat.le_of_ble_eq_true rfl) rfl i20 (tm_X8_finding e20) ?_
    obtain ⟨rfl, rfl⟩ := ret_s hf
    exact x_reti (pc := 23) dX8_as_23 rfl
  · replace hf := it_f hc hf
    refine x_iload_n (pc := 8) (x := x2) dX8_as_8 rfl ?_
    refine x_iconst (pc := 9) (v := 0) dX8_as_9 (by decide) ?_
    refine x_iconst (pc := 10) (v := 3) dX8_as_10 (by decide) ?_
    replace hf := bd2_s hf; obtain ⟨v11, h11, e11, hf⟩ := hf
    refine x_cSi (pc := 11) (M' := mX8_isIn) (as := [.int (x2), .int (0), .int (3)]) (st := []) dX8_as_11 mo_X8_isIn lk_8_48 sm_X8_isIn ⟨Nat.le_of_ble_eq_true rfl, Nat.le_of_ble_eq_true rfl⟩ rfl (Nat.le_of_ble_eq_true rfl) rfl (tm_X8_isIn e11) ?_
    refine x_if_ne (pc := 14) (tgt := 24) (x := v11) dX8_as_14 rfl (fun hc => ?_) (fun hc => ?_)
    · replace hf := it_t hc hf
      refine x_aload_n (pc := 24) (a := x0) dX8_as_24 rfl ?_
      refine x_iload_n (pc := 25) (x := x1) dX8_as_25 rfl ?_
      refine x_iconst (pc := 26) (v := 0) dX8_as_26 (by decide) ?_
      replace hf := bd_s hf; obtain ⟨u27, i27, hf⟩ := hf
      replace hf := bd2_s hf; obtain ⟨v27, h27, e27, hf⟩ := hf
      refine x_cVi (pc := 27) (M' := mX8_told) (as := [.int (x1), .int (0)]) (st := []) (a := x0) (ci := 8) dX8_as_27 mo_X8_told lk_8_94 im_X8_told se_X8_told rfl ⟨Nat.le_of_ble_eq_true rfl, Nat.le_of_ble_eq_true rfl⟩ rfl (Nat.le_of_ble_eq_true rfl) rfl i27 (tm_X8_told e27) ?_
      refine x_istore_n (pc := 30) (ls' := [some (va_rf (x0)), some (.int (x1)), some (.int (x2)), some (.int (v27))]) dX8_as_30 (by decide) rfl ?_
      refine x_iload_n (pc := 31) (x := x2) dX8_as_31 rfl ?_
      refine x_if_eq (pc := 32) (tgt := 50) (x := x2) dX8_as_32 rfl (fun hc => ?_) (fun hc => ?_)
      · replace hf := it_t hc hf
        refine x_iload_n (pc := 50) (x := x1) dX8_as_50 rfl ?_
        refine x_goto (pc := 51) (tgt := 60) dX8_as_51 rfl ?_
        obtain ⟨rfl, rfl⟩ := ret_s hf
        exact x_reti (pc := 60) dX8_as_60 rfl
      · replace hf := it_f hc hf
        refine x_iload_n (pc := 35) (x := x2) dX8_as_35 rfl ?_
        refine x_iload_n (pc := 36) (x := v27) dX8_as_36 rfl ?_
        refine x_icmp_eq (pc := 37) (tgt := 50) (x := x2) (y := v27) dX8_as_37 rfl (fun hc => ?_) (fun hc => ?_)
        · replace hf := it_t hc hf
          refine x_iload_n (pc := 50) (x := x1) dX8_as_50 rfl ?_
          refine x_goto (pc := 51) (tgt := 60) dX8_as_51 rfl ?_
          obtain ⟨rfl, rfl⟩ := ret_s hf
          exact x_reti (pc := 60) dX8_as_60 rfl
        · replace hf := it_f hc hf
          refine x_iload_n (pc := 40) (x := x2) dX8_as_40 rfl ?_
          refine x_iconst (pc := 41) (v := 1) dX8_as_41 (by decide) ?_
          refine x_icmp_ne (pc := 42) (tgt := 54) (x := x2) (y := 1) dX8_as_42 rfl (fun hc => ?_) (fun hc => ?_)
          · replace hf := it_t hc hf
            refine x_aload_n (pc := 54) (a := x0) dX8_as_54 rfl ?_
            refine x_ldc (pc := 55) (v := -100004) dX8_as_55 kc_8_97 ?_
            replace hf := bd_s hf; obtain ⟨u57, i57, hf⟩ := hf
            replace hf := bd2_s hf; obtain ⟨v57, h57, e57, hf⟩ := hf
            refine x_cVi (pc := 57) (M' := mX8_finding) (as := [.int ((-100004))]) (st := []) (a := x0) (ci := 8) dX8_as_57 mo_X8_finding lk_8_56 im_X8_finding se_X8_finding rfl ⟨Nat.le_of_ble_eq_true rfl, Nat.le_of_ble_eq_true rfl⟩ rfl (Nat.le_of_ble_eq_true rfl) rfl i57 (tm_X8_finding e57) ?_
            obtain ⟨rfl, rfl⟩ := ret_s hf
            exact x_reti (pc := 60) dX8_as_60 rfl
          · replace hf := it_n hc hf
            refine x_iload_n (pc := 45) (x := v27) dX8_as_45 rfl ?_
            refine x_iconst (pc := 46) (v := 3) dX8_as_46 (by decide) ?_
            refine x_icmp_ne (pc := 47) (tgt := 54) (x := v27) (y := 3) dX8_as_47 rfl (fun hc => ?_) (fun hc => ?_)
            · replace hf := it_t hc hf
              refine x_aload_n (pc := 54) (a := x0) dX8_as_54 rfl ?_
              refine x_ldc (pc := 55) (v := -100004) dX8_as_55 kc_8_97 ?_
              replace hf := bd_s hf; obtain ⟨u57, i57, hf⟩ := hf
              replace hf := bd2_s hf; obtain ⟨v57, h57, e57, hf⟩ := hf
              refine x_cVi (pc := 57) (M' := mX8_finding) (as := [.int ((-100004))]) (st := []) (a := x0) (ci := 8) dX8_as_57 mo_X8_finding lk_8_56 im_X8_finding se_X8_finding rfl ⟨Nat.le_of_ble_eq_true rfl, Nat.le_of_ble_eq_true rfl⟩ rfl (Nat.le_of_ble_eq_true rfl) rfl i57 (tm_X8_finding e57) ?_
              obtain ⟨rfl, rfl⟩ := ret_s hf
              exact x_reti (pc := 60) dX8_as_60 rfl
            · replace hf := it_n hc hf
              refine x_iload_n (pc := 50) (x := x1) dX8_as_50 rfl ?_
              refine x_goto (pc := 51) (tgt := 60) dX8_as_51 rfl ?_
              obtain ⟨rfl, rfl⟩ := ret_s hf
              exact x_reti (pc := 60) dX8_as_60 rfl
    · replace hf := it_n hc hf
      refine x_aload_n (pc := 17) (a := x0) dX8_as_17 rfl ?_
      refine x_ldc (pc := 18) (v := -100001) dX8_as_18 kc_8_67 ?_
      replace hf := bd_s hf; obtain ⟨u20, i20, hf⟩ := hf
      replace hf := bd2_s hf; obtain ⟨v20, h20, e20, hf⟩ := hf
      refine x_cVi (pc := 20) (M' := mX8_finding) (as := [.int ((-100001))]) (st := []) (a := x0) (ci := 8) dX8_as_20 mo_X8_finding lk_8_56 im_X8_finding se_X8_finding rfl ⟨Nat.le_of_ble_eq_true rfl, Nat.le_of_ble_eq_true rfl⟩ rfl (Nat.le_of_ble_eq_true rfl) rfl i20 (tm_X8_finding e20) ?_
      obtain ⟨rfl, rfl⟩ := ret_s hf
      exact x_reti (pc := 23) dX8_as_23 rfl

def f_X8_isDay (h : AH) (x0 : Int32) : Option (Int32 × AH) :=
  bd2 (f_X8_isIn h x0 0 29) fun v4 h4 =>
  bd (bl v4) fun v7 =>
  some (v7, h4)

set_option maxRecDepth 100000 in
set_option maxHeartbeats 4000000 in
theorem tm_X8_isDay {g : GT} {h : AH} {x0 : Int32} {r : Int32} {h' : AH} (hf : f_X8_isDay h x0 = some (r, h')) : Xm g mX8_isDay [.int (x0)] h (some (.int r)) h' := by
  refine xm_of mo_X8_isDay (Nat.le_of_ble_eq_true rfl) (ls := [some (.int (x0))]) rfl ?_
  rw [f_X8_isDay] at hf
  refine x_iload_n (pc := 0) (x := x0) dX8_isDay_0 rfl ?_
  refine x_iconst (pc := 1) (v := 0) dX8_isDay_1 (by decide) ?_
  refine x_bipush (pc := 2) (v := 29) dX8_isDay_2 (by decide) ?_
  replace hf := bd2_s hf; obtain ⟨v4, h4, e4, hf⟩ := hf
  refine x_cSi (pc := 4) (M' := mX8_isIn) (as := [.int (x0), .int (0), .int (29)]) (st := []) dX8_isDay_4 mo_X8_isIn lk_8_48 sm_X8_isIn ⟨Nat.le_of_ble_eq_true rfl, Nat.le_of_ble_eq_true rfl⟩ rfl (Nat.le_of_ble_eq_true rfl) rfl (tm_X8_isIn e4) ?_
  replace hf := bd_s hf; obtain ⟨v7, e7, hf⟩ := hf
  obtain ⟨z7, q7⟩ := bl_s e7
  obtain ⟨rfl, rfl⟩ := ret_s hf
  rw [q7]
  exact x_retz (pc := 7) dX8_isDay_7 rfl z7

def f_X8_at (h : AH) (x0 : Option Nat) (x1 : Int32) (x2 : Int32) : Option (Int32 × AH) :=
  bd (isO h x0 8) fun _ =>
  bd2 (f_X8_isTrip h x0 x1) fun v2 h2 =>
  if v2 = 0 then (
    bd (isO h2 x0 8) fun _ =>
    bd2 (f_X8_finding h2 x0 (-100001)) fun v18 h18 =>
    some (v18, h18)
  ) else (
    bd2 (f_X8_isDay h2 x2) fun v9 h9 =>
    if ¬ v9 = 0 then (
      bd (gR h9 x0 8 0) fun v23 =>
      bd (ldI h9 v23 ((244 + (30 * x1)) + x2)) fun v36 =>
      if 0 ≤ v36 then (
        some (v36, h9)
      ) else (
        bd (isO h9 x0 8) fun _ =>
        bd2 (f_X8_finding h9 x0 (-100006)) fun v45 h45 =>
        some (v45, h45)
      )
    ) else (
      bd (isO h9 x0 8) fun _ =>
      bd2 (f_X8_finding h9 x0 (-100001)) fun v18 h18 =>
      some (v18, h18)
    )
  )

set_option maxRecDepth 100000 in
set_option maxHeartbeats 4000000 in
theorem tm_X8_at {g : GT} {h : AH} {x0 : Option Nat} {x1 : Int32} {x2 : Int32} {r : Int32} {h' : AH} (hf : f_X8_at h x0 x1 x2 = some (r, h')) : Xm g mX8_at [va_rf (x0), .int (x1), .int (x2)] h (some (.int r)) h' := by
  refine xm_of mo_X8_at (Nat.le_of_ble_eq_true rfl) (ls := [some (va_rf (x0)), some (.int (x1)), some (.int (x2)), none]) rfl ?_
  rw [f_X8_at] at hf
  refine x_aload_n (pc := 0) (a := x0) dX8_at_0 rfl ?_
  refine x_iload_n (pc := 1) (x := x1) dX8_at_1 rfl ?_
  replace hf := bd_s hf; obtain ⟨u2, i2, hf⟩ := hf
  replace hf := bd2_s hf; obtain ⟨v2, h2, e2, hf⟩ := hf
  refine x_cVi (pc := 2) (M' := mX8_isTrip) (as := [.int (x1)]) (st := []) (a := x0) (ci := 8) dX8_at_2 mo_X8_isTrip lk_8_91 im_X8_isTrip se_X8_isTrip rfl ⟨Nat.le_of_ble_eq_true rfl, Nat.le_of_ble_eq_true rfl⟩ rfl (Nat.le_of_ble_eq_true rfl) rfl i2 (tm_X8_isTrip e2) ?_
  refine x_if_eq (pc := 5) (tgt := 15) (x := v2) dX8_at_5 rfl (fun hc => ?_) (fun hc => ?_)
  · replace hf := it_t hc hf
    refine x_aload_n (pc := 15) (a := x0) dX8_at_15 rfl ?_
    refine x_ldc (pc := 16) (v := -100001) dX8_at_16 kc_8_67 ?_
    replace hf := bd_s hf; obtain ⟨u18, i18, hf⟩ := hf
    replace hf := bd2_s hf; obtain ⟨v18, h18, e18, hf⟩ := hf
    refine x_cVi (pc := 18) (M' := mX8_finding) (as := [.int ((-100001))]) (st := []) (a := x0) (ci := 8) dX8_at_18 mo_X8_finding lk_8_56 im_X8_finding se_X8_finding rfl ⟨Nat.le_of_ble_eq_true rfl, Nat.le_of_ble_eq_true rfl⟩ rfl (Nat.le_of_ble_eq_true rfl) rfl i18 (tm_X8_finding e18) ?_
    obtain ⟨rfl, rfl⟩ := ret_s hf
    exact x_reti (pc := 21) dX8_at_21 rfl
  · replace hf := it_f hc hf
    refine x_iload_n (pc := 8) (x := x2) dX8_at_8 rfl ?_
    replace hf := bd2_s hf; obtain ⟨v9, h9, e9, hf⟩ := hf
    refine x_cSi (pc := 9) (M' := mX8_isDay) (as := [.int (x2)]) (st := []) dX8_at_9 mo_X8_isDay lk_8_74 sm_X8_isDay ⟨Nat.le_of_ble_eq_true rfl, Nat.le_of_ble_eq_true rfl⟩ rfl (Nat.le_of_ble_eq_true rfl) rfl (tm_X8_isDay e9) ?_
    refine x_if_ne (pc := 12) (tgt := 22) (x := v9) dX8_at_12 rfl (fun hc => ?_) (fun hc => ?_)
    · replace hf := it_t hc hf
      refine x_aload_n (pc := 22) (a := x0) dX8_at_22 rfl ?_
      replace hf := bd_s hf; obtain ⟨v23, e23, hf⟩ := hf
      refine x_getR (pc := 23) dX8_at_23 fl_8_7 e23 ?_
      refine x_sipush (pc := 26) (v := 244) dX8_at_26 (by decide) ?_
      refine x_bipush (pc := 29) (v := 30) dX8_at_29 (by decide) ?_
      refine x_iload_n (pc := 31) (x := x1) dX8_at_31 rfl ?_
      refine x_imul (pc := 32) dX8_at_32 ?_
      refine x_iadd (pc := 33) dX8_at_33 ?_
      refine x_iload_n (pc := 34) (x := x2) dX8_at_34 rfl ?_
      refine x_iadd (pc := 35) dX8_at_35 ?_
      replace hf := bd_s hf; obtain ⟨v36, e36, hf⟩ := hf
      refine x_ldI (pc := 36) dX8_at_36 e36 ?_
      refine x_istore_n (pc := 37) (ls' := [some (va_rf (x0)), some (.int (x1)), some (.int (x2)), some (.int (v36))]) dX8_at_37 (by decide) rfl ?_
      refine x_iload_n (pc := 38) (x := v36) dX8_at_38 rfl ?_
      refine x_if_ge (pc := 39) (tgt := 51) (x := v36) dX8_at_39 rfl (fun hc => ?_) (fun hc => ?_)
      · replace hf := it_t hc hf
        refine x_iload_n (pc := 51) (x := v36) dX8_at_51 rfl ?_
        obtain ⟨rfl, rfl⟩ := ret_s hf
        exact x_reti (pc := 52) dX8_at_52 rfl
      · replace hf := it_f hc hf
        refine x_aload_n (pc := 42) (a := x0) dX8_at_42 rfl ?_
        refine x_ldc (pc := 43) (v := -100006) dX8_at_43 kc_8_55 ?_
        replace hf := bd_s hf; obtain ⟨u45, i45, hf⟩ := hf
        replace hf := bd2_s hf; obtain ⟨v45, h45, e45, hf⟩ := hf
        refine x_cVi (pc := 45) (M' := mX8_finding) (as := [.int ((-100006))]) (st := []) (a := x0) (ci := 8) dX8_at_45 mo_X8_finding lk_8_56 im_X8_finding se_X8_finding rfl ⟨Nat.le_of_ble_eq_true rfl, Nat.le_of_ble_eq_true rfl⟩ rfl (Nat.le_of_ble_eq_true rfl) rfl i45 (tm_X8_finding e45) ?_
        refine x_goto (pc := 48) (tgt := 52) dX8_at_48 rfl ?_
        obtain ⟨rfl, rfl⟩ := ret_s hf
        exact x_reti (pc := 52) dX8_at_52 rfl
    · replace hf := it_n hc hf
      refine x_aload_n (pc := 15) (a := x0) dX8_at_15 rfl ?_
      refine x_ldc (pc := 16) (v := -100001) dX8_at_16 kc_8_67 ?_
      replace hf := bd_s hf; obtain ⟨u18, i18, hf⟩ := hf
      replace hf := bd2_s hf; obtain ⟨v18, h18, e18, hf⟩ := hf
      refine x_cVi (pc := 18) (M' := mX8_finding) (as := [.int ((-100001))]) (st := []) (a := x0) (ci := 8) dX8_at_18 mo_X8_finding lk_8_56 im_X8_finding se_X8_finding rfl ⟨Nat.le_of_ble_eq_true rfl, Nat.le_of_ble_eq_true rfl⟩ rfl (Nat.le_of_ble_eq_true rfl) rfl i18 (tm_X8_finding e18) ?_
      obtain ⟨rfl, rfl⟩ := ret_s hf
      exact x_reti (pc := 21) dX8_at_21 rfl

def f_X8_isSet (h : AH) (x0 : Option Nat) (x1 : Int32) : Option (Int32 × AH) :=
  bd (gR h x0 8 0) fun v4 =>
  bd (ldI h v4 5) fun v8 =>
  bd2 (f_X8_isIn h x1 0 ((1 <<< (v8 &&& 31)) - 1)) fun v12 h12 =>
  bd (bl v12) fun v15 =>
  some (v15, h12)

set_option maxRecDepth 100000 in
set_option maxHeartbeats 4000000 in
theorem tm_X8_isSet {g : GT} {h : AH} {x0 : Option Nat} {x1 : Int32} {r : Int32} {h' : AH} (hf : f_X8_isSet h x0 x1 = some (r, h')) : Xm g mX8_isSet [va_rf (x0), .int (x1)] h (some (.int r)) h' := by
  refine xm_of mo_X8_isSet (Nat.le_of_ble_eq_true rfl) (ls := [some (va_rf (x0)), some (.int (x1))]) rfl ?_
  rw [f_X8_isSet] at hf
  refine x_iload_n (pc := 0) (x := x1) dX8_isSet_0 rfl ?_
  refine x_iconst (pc := 1) (v := 0) dX8_isSet_1 (by decide) ?_
  refine x_iconst (pc := 2) (v := 1) dX8_isSet_2 (by decide) ?_
  refine x_aload_n (pc := 3) (a := x0) dX8_isSet_3 rfl ?_
  replace hf := bd_s hf; obtain ⟨v4, e4, hf⟩ := hf
  refine x_getR (pc := 4) dX8_isSet_4 fl_8_7 e4 ?_
  refine x_iconst (pc := 7) (v := 5) dX8_isSet_7 (by decide) ?_
  replace hf := bd_s hf; obtain ⟨v8, e8, hf⟩ := hf
  refine x_ldI (pc := 8) dX8_isSet_8 e8 ?_
  refine x_ishl (pc := 9) dX8_isSet_9 ?_
  refine x_iconst (pc := 10) (v := 1) dX8_isSet_10 (by decide) ?_
  refine x_isub (pc := 11) dX8_isSet_11 ?_
  replace hf := bd2_s hf; obtain ⟨v12, h12, e12, hf⟩ := hf
  refine x_cSi (pc := 12) (M' := mX8_isIn) (as := [.int (x1), .int (0), .int ((1 <<< (v8 &&& 31)) - 1)]) (st := []) dX8_isSet_12 mo_X8_isIn lk_8_48 sm_X8_isIn ⟨Nat.le_of_ble_eq_true rfl, Nat.le_of_ble_eq_true rfl⟩ rfl (Nat.le_of_ble_eq_true rfl) rfl (tm_X8_isIn e12) ?_
  replace hf := bd_s hf; obtain ⟨v15, e15, hf⟩ := hf
  obtain ⟨z15, q15⟩ := bl_s e15
  obtain ⟨rfl, rfl⟩ := ret_s hf
  rw [q15]
  exact x_retz (pc := 15) dX8_isSet_15 rfl z15

def g_X8_noNights_2 : Nat → AH → Option Nat → Int32 → Int32 → Option AH
  | 0, _, _, _, _ => none
  | n + 1, h, x0, x1, x2 =>
    if 30 ≤ x2 then (
      some h
    ) else (
      bd (gR h x0 8 0) fun v9 =>
      bd (stI h v9 ((244 + (30 * x1)) + x2) (-1)) fun h23 =>
      g_X8_noNights_2  n h23 x0 x1 (x2 + 1)
    )

set_option maxRecDepth 100000 in
set_option maxHeartbeats 4000000 in
theorem tg_X8_noNights_2 {g : GT} : ∀ (n : Nat) {h : AH} {x0 : Option Nat} {x1 : Int32} {x2 : Int32} {h' : AH}, g_X8_noNights_2 n h x0 x1 x2 = some h' → Xj g mX8_noNights h 2 [some (va_rf (x0)), some (.int (x1)), some (.int (x2))] [] none h' := by
  intro n
  induction n with
  | zero =>
    intros
    rename_i z
    cases z
  | succ n ih =>
    intro h x0 x1 x2 h' hf
    rw [g_X8_noNights_2] at hf
    refine x_iload_n (pc := 2) (x := x2) dX8_noNights_2 rfl ?_
    refine x_bipush (pc := 3) (v := 30) dX8_noNights_3 (by decide) ?_
    refine x_icmp_ge (pc := 5) (tgt := 30) (x := x2) (y := 30) dX8_noNights_5 rfl (fun hc => ?_) (fun hc => ?_)
    · replace hf := it_t hc hf
      obtain rfl := Option.some.inj hf
      exact x_vret (pc := 30) dX8_noNights_30 rfl
    · replace hf := it_f hc hf
      refine x_aload_n (pc := 8) (a := x0) dX8_noNights_8 rfl ?_
      replace hf := bd_s hf; obtain ⟨v9, e9, hf⟩ := hf
      refine x_getR (pc := 9) dX8_noNights_9 fl_8_7 e9 ?_
      refine x_sipush (pc := 12) (v := 244) dX8_noNights_12 (by decide) ?_
      refine x_bipush (pc := 15) (v := 30) dX8_noNights_15 (by decide) ?_
      refine x_iload_n (pc := 17) (x := x1) dX8_noNights_17 rfl ?_
      refine x_imul (pc := 18) dX8_noNights_18 ?_
      refine x_iadd (pc := 19) dX8_noNights_19 ?_
      refine x_iload_n (pc := 20) (x := x2) dX8_noNights_20 rfl ?_
      refine x_iadd (pc := 21) dX8_noNights_21 ?_
      refine x_iconst (pc := 22) (v := -1) dX8_noNights_22 (by decide) ?_
      replace hf := bd_s hf; obtain ⟨h23, e23, hf⟩ := hf
      refine x_stI (pc := 23) dX8_noNights_23 e23 ?_
      refine x_iinc (pc := 24) (x := x2) (v := x2 + 1) (ls' := [some (va_rf (x0)), some (.int (x1)), some (.int (x2 + 1))]) dX8_noNights_24 rfl rfl (by decide) rfl ?_
      refine x_goto (pc := 27) (tgt := 2) dX8_noNights_27 rfl ?_
      exact ih hf

def f_X8_noNights (h : AH) (x0 : Option Nat) (x1 : Int32) : Option AH :=
  g_X8_noNights_2  NN h x0 x1 0

set_option maxRecDepth 100000 in
set_option maxHeartbeats 4000000 in
theorem tm_X8_noNights {g : GT} {h : AH} {x0 : Option Nat} {x1 : Int32} {h' : AH} (hf : f_X8_noNights h x0 x1 = some h') : Xm g mX8_noNights [va_rf (x0), .int (x1)] h none h' := by
  refine xm_of mo_X8_noNights (Nat.le_of_ble_eq_true rfl) (ls := [some (va_rf (x0)), some (.int (x1)), none]) rfl ?_
  rw [f_X8_noNights] at hf
  refine x_iconst (pc := 0) (v := 0) dX8_noNights_0 (by decide) ?_
  refine x_istore_n (pc := 1) (ls' := [some (va_rf (x0)), some (.int (x1)), some (.int (0))]) dX8_noNights_1 (by decide) rfl ?_
  exact tg_X8_noNights_2  NN hf

def f_X8_mileOf (h : AH) (x0 : Option Nat) (x1 : Int32) : Option (Int32 × AH) :=
  if ¬ x1 = 14 then (
    bd (gR h x0 8 0) fun v11 =>
    bd (ldI h v11 (8 + (2 * x1))) fun v20 =>
    some (v20, h)
  ) else (
    some (0, h)
  )

set_option maxRecDepth 100000 in
set_option maxHeartbeats 4000000 in
theorem tm_X8_mileOf {g : GT} {h : AH} {x0 : Option Nat} {x1 : Int32} {r : Int32} {h' : AH} (hf : f_X8_mileOf h x0 x1 = some (r, h')) : Xm g mX8_mileOf [va_rf (x0), .int (x1)] h (some (.int r)) h' := by
  refine xm_of mo_X8_mileOf (Nat.le_of_ble_eq_true rfl) (ls := [some (va_rf (x0)), some (.int (x1))]) rfl ?_
  rw [f_X8_mileOf] at hf
  refine x_iload_n (pc := 0) (x := x1) dX8_mileOf_0 rfl ?_
  refine x_bipush (pc := 1) (v := 14) dX8_mileOf_1 (by decide) ?_
  refine x_icmp_ne (pc := 3) (tgt := 10) (x := x1) (y := 14) dX8_mileOf_3 rfl (fun hc => ?_) (fun hc => ?_)
  · replace hf := it_t hc hf
    refine x_aload_n (pc := 10) (a := x0) dX8_mileOf_10 rfl ?_
    replace hf := bd_s hf; obtain ⟨v11, e11, hf⟩ := hf
    refine x_getR (pc := 11) dX8_mileOf_11 fl_8_7 e11 ?_
    refine x_bipush (pc := 14) (v := 8) dX8_mileOf_14 (by decide) ?_
    refine x_iconst (pc := 16) (v := 2) dX8_mileOf_16 (by decide) ?_
    refine x_iload_n (pc := 17) (x := x1) dX8_mileOf_17 rfl ?_
    refine x_imul (pc := 18) dX8_mileOf_18 ?_
    refine x_iadd (pc := 19) dX8_mileOf_19 ?_
    replace hf := bd_s hf; obtain ⟨v20, e20, hf⟩ := hf
    refine x_ldI (pc := 20) dX8_mileOf_20 e20 ?_
    obtain ⟨rfl, rfl⟩ := ret_s hf
    exact x_reti (pc := 21) dX8_mileOf_21 rfl
  · replace hf := it_n hc hf
    refine x_iconst (pc := 6) (v := 0) dX8_mileOf_6 (by decide) ?_
    refine x_goto (pc := 7) (tgt := 21) dX8_mileOf_7 rfl ?_
    obtain ⟨rfl, rfl⟩ := ret_s hf
    exact x_reti (pc := 21) dX8_mileOf_21 rfl

def f_X8_waterOf (h : AH) (x0 : Option Nat) (x1 : Int32) (x2 : Int32) (x3 : Int32) : Option (Int32 × AH) :=
  bd (gR h x0 8 0) fun v8 =>
  bd (ldI h v8 1) fun v12 =>
  bd (dv x1 v12) fun v13 =>
  bd (gR h x0 8 0) fun v18 =>
  if 0 ≤ (((24 * x2) + x3) - v13) then (
    bd (dv (((24 * x2) + x3) - v13) 6) fun v36 =>
    bd (ldI h v18 (74 + v36)) fun v38 =>
    some (v38, h)
  ) else (
    bd (ldI h v18 (74 + 0)) fun v38 =>
    some (v38, h)
  )

set_option maxRecDepth 100000 in
set_option maxHeartbeats 4000000 in
theorem tm_X8_waterOf {g : GT} {h : AH} {x0 : Option Nat} {x1 : Int32} {x2 : Int32} {x3 : Int32} {r : Int32} {h' : AH} (hf : f_X8_waterOf h x0 x1 x2 x3 = some (r, h')) : Xm g mX8_waterOf [va_rf (x0), .int (x1), .int (x2), .int (x3)] h (some (.int r)) h' := by
  refine xm_of mo_X8_waterOf (Nat.le_of_ble_eq_true rfl) (ls := [some (va_rf (x0)), some (.int (x1)), some (.int (x2)), some (.int (x3)), none]) rfl ?_
  rw [f_X8_waterOf] at hf
  refine x_bipush (pc := 0) (v := 24) dX8_waterOf_0 (by decide) ?_
  refine x_iload_n (pc := 2) (x := x2) dX8_waterOf_2 rfl ?_
  refine x_imul (pc := 3) dX8_waterOf_3 ?_
  refine x_iload_n (pc := 4) (x := x3) dX8_waterOf_4 rfl ?_
  refine x_iadd (pc := 5) dX8_waterOf_5 ?_
  refine x_iload_n (pc := 6) (x := x1) dX8_waterOf_6 rfl ?_
  refine x_aload_n (pc := 7) (a := x0) dX8_waterOf_7 rfl ?_
  replace hf := bd_s hf; obtain ⟨v8, e8, hf⟩ := hf
  refine x_getR (pc := 8) dX8_waterOf_8 fl_8_7 e8 ?_
  refine x_iconst (pc := 11) (v := 1) dX8_waterOf_11 (by decide) ?_
  replace hf := bd_s hf; obtain ⟨v12, e12, hf⟩ := hf
  refine x_ldI (pc := 12) dX8_waterOf_12 e12 ?_
  replace hf := bd_s hf; obtain ⟨v13, e13, hf⟩ := hf
  refine x_dv (pc := 13) dX8_waterOf_13 e13 ?_
  refine x_isub (pc := 14) dX8_waterOf_14 ?_
  refine x_istore (pc := 15) (ls' := [some (va_rf (x0)), some (.int (x1)), some (.int (x2)), some (.int (x3)), some (.int (((24 * x2) + x3) - v13))]) dX8_waterOf_15 (by decide) rfl ?_
  refine x_aload_n (pc := 17) (a := x0) dX8_waterOf_17 rfl ?_
  replace hf := bd_s hf; obtain ⟨v18, e18, hf⟩ := hf
  refine x_getR (pc := 18) dX8_waterOf_18 fl_8_7 e18 ?_
  refine x_bipush (pc := 21) (v := 74) dX8_waterOf_21 (by decide) ?_
  refine x_iload (pc := 23) (x := ((24 * x2) + x3) - v13) dX8_waterOf_23 rfl ?_
  refine x_if_ge (pc := 25) (tgt := 32) (x := (((24 * x2) + x3) - v13)) dX8_waterOf_25 rfl (fun hc => ?_) (fun hc => ?_)
  · replace hf := it_t hc hf
    refine x_iload (pc := 32) (x := ((24 * x2) + x3) - v13) dX8_waterOf_32 rfl ?_
    refine x_bipush (pc := 34) (v := 6) dX8_waterOf_34 (by decide) ?_
    replace hf := bd_s hf; obtain ⟨v36, e36, hf⟩ := hf
    refine x_dv (pc := 36) dX8_waterOf_36 e36 ?_
    refine x_iadd (pc := 37) dX8_waterOf_37 ?_
    replace hf := bd_s hf; obtain ⟨v38, e38, hf⟩ := hf
    refine x_ldI (pc := 38) dX8_waterOf_38 e38 ?_
    obtain ⟨rfl, rfl⟩ := ret_s hf
    exact x_reti (pc := 39) dX8_waterOf_39 rfl
  · replace hf := it_f hc hf
    refine x_iconst (pc := 28) (v := 0) dX8_waterOf_28 (by decide) ?_
    refine x_goto (pc := 29) (tgt := 37) dX8_waterOf_29 rfl ?_
    refine x_iadd (pc := 37) dX8_waterOf_37 ?_
    replace hf := bd_s hf; obtain ⟨v38, e38, hf⟩ := hf
    refine x_ldI (pc := 38) dX8_waterOf_38 e38 ?_
    obtain ⟨rfl, rfl⟩ := ret_s hf
    exact x_reti (pc := 39) dX8_waterOf_39 rfl

def g_X8_hourOf_31 : Nat → AH → Option Nat → Int32 → Int32 → Int32 → Int32 → Option (Int32 × AH)
  | 0, _, _, _, _, _, _ => none
  | n + 1, h, x0, x1, x2, x4, x5 =>
    if 17 < x5 then (
      some ((-1), h)
    ) else (
      bd (gR h x0 8 0) fun v40 =>
      bd (ldI h v40 (36 + (3 * x1))) fun v49 =>
      bd (isO h x0 8) fun _ =>
      bd2 (f_X8_waterOf h x0 v49 x2 x5) fun v53 h53 =>
      bd (gR h53 x0 8 0) fun v59 =>
      bd (ldI h53 v59 ((36 + (3 * x1)) + 2)) fun v70 =>
      bd2 (f_X8_isIn h53 v53 x4 v70) fun v71 h71 =>
      if v71 = 0 then (
        g_X8_hourOf_31  n h71 x0 x1 x2 x4 (x5 + 1)
      ) else (
        some (x5, h71)
      )
    )

set_option maxRecDepth 100000 in
set_option maxHeartbeats 4000000 in
theorem tg_X8_hourOf_31 {g : GT} : ∀ (n : Nat) {h : AH} {x0 : Option Nat} {x1 : Int32} {x2 : Int32} {x4 : Int32} {x5 : Int32} {r : Int32} {h' : AH}, g_X8_hourOf_31 n h x0 x1 x2 x4 x5 = some (r, h') → Xj g mX8_hourOf h 31 [some (va_rf (x0)), some (.int (x1)), some (.int (x2)), none, some (.int (x4)), some (.int (x5))] [] (some (.int r)) h' := by
  intro n
  induction n with
  | zero =>
    intros
    rename_i z
    cases z
  | succ n ih =>
    intro h x0 x1 x2 x4 x5 r h' hf
    rw [g_X8_hourOf_31] at hf
    refine x_iload (pc := 31) (x := x5) dX8_hourOf_31 rfl ?_
    refine x_bipush (pc := 33) (v := 17) dX8_hourOf_33 (by decide) ?_
    refine x_icmp_gt (pc := 35) (tgt := 86) (x := x5) (y := 17) dX8_hourOf_35 rfl (fun hc => ?_) (fun hc => ?_)
    · replace hf := it_t hc hf
      refine x_iconst (pc := 86) (v := -1) dX8_hourOf_86 (by decide) ?_
      obtain ⟨rfl, rfl⟩ := ret_s hf
      exact x_reti (pc := 87) dX8_hourOf_87 rfl
    · replace hf := it_f hc hf
      refine x_aload_n (pc := 38) (a := x0) dX8_hourOf_38 rfl ?_
      refine x_aload_n (pc := 39) (a := x0) dX8_hourOf_39 rfl ?_
      replace hf := bd_s hf; obtain ⟨v40, e40, hf⟩ := hf
      refine x_getR (pc := 40) dX8_hourOf_40 fl_8_7 e40 ?_
      refine x_bipush (pc := 43) (v := 36) dX8_hourOf_43 (by decide) ?_
      refine x_iconst (pc := 45) (v := 3) dX8_hourOf_45 (by decide) ?_
      refine x_iload_n (pc := 46) (x := x1) dX8_hourOf_46 rfl ?_
      refine x_imul (pc := 47) dX8_hourOf_47 ?_
      refine x_iadd (pc := 48) dX8_hourOf_48 ?_
      replace hf := bd_s hf; obtain ⟨v49, e49, hf⟩ := hf
      refine x_ldI (pc := 49) dX8_hourOf_49 e49 ?_
      refine x_iload_n (pc := 50) (x := x2) dX8_hourOf_50 rfl ?_
      refine x_iload (pc := 51) (x := x5) dX8_hourOf_51 rfl ?_
      replace hf := bd_s hf; obtain ⟨u53, i53, hf⟩ := hf
      replace hf := bd2_s hf; obtain ⟨v53, h53, e53, hf⟩ := hf
      refine x_cVi (pc := 53) (M' := mX8_waterOf) (as := [.int (v49), .int (x2), .int (x5)]) (st := []) (a := x0) (ci := 8) dX8_hourOf_53 mo_X8_waterOf lk_8_77 im_X8_waterOf se_X8_waterOf rfl ⟨Nat.le_of_ble_eq_true rfl, Nat.le_of_ble_eq_true rfl⟩ rfl (Nat.le_of_ble_eq_true rfl) rfl i53 (tm_X8_waterOf e53) ?_
      refine x_iload (pc := 56) (x := x4) dX8_hourOf_56 rfl ?_
      refine x_aload_n (pc := 58) (a := x0) dX8_hourOf_58 rfl ?_
      replace hf := bd_s hf; obtain ⟨v59, e59, hf⟩ := hf
      refine x_getR (pc := 59) dX8_hourOf_59 fl_8_7 e59 ?_
      refine x_bipush (pc := 62) (v := 36) dX8_hourOf_62 (by decide) ?_
      refine x_iconst (pc := 64) (v := 3) dX8_hourOf_64 (by decide) ?_
      refine x_iload_n (pc := 65) (x := x1) dX8_hourOf_65 rfl ?_
      refine x_imul (pc := 66) dX8_hourOf_66 ?_
      refine x_iadd (pc := 67) dX8_hourOf_67 ?_
      refine x_iconst (pc := 68) (v := 2) dX8_hourOf_68 (by decide) ?_
      refine x_iadd (pc := 69) dX8_hourOf_69 ?_
      replace hf := bd_s hf; obtain ⟨v70, e70, hf⟩ := hf
      refine x_ldI (pc := 70) dX8_hourOf_70 e70 ?_
      replace hf := bd2_s hf; obtain ⟨v71, h71, e71, hf⟩ := hf
      refine x_cSi (pc := 71) (M' := mX8_isIn) (as := [.int (v53), .int (x4), .int (v70)]) (st := []) dX8_hourOf_71 mo_X8_isIn lk_8_48 sm_X8_isIn ⟨Nat.le_of_ble_eq_true rfl, Nat.le_of_ble_eq_true rfl⟩ rfl (Nat.le_of_ble_eq_true rfl) rfl (tm_X8_isIn e71) ?_
      refine x_if_eq (pc := 74) (tgt := 80) (x := v71) dX8_hourOf_74 rfl (fun hc => ?_) (fun hc => ?_)
      · replace hf := it_t hc hf
        refine x_iinc (pc := 80) (x := x5) (v := x5 + 1) (ls' := [some (va_rf (x0)), some (.int (x1)), some (.int (x2)), none, some (.int (x4)), some (.int (x5 + 1))]) dX8_hourOf_80 rfl rfl (by decide) rfl ?_
        refine x_goto (pc := 83) (tgt := 31) dX8_hourOf_83 rfl ?_
        exact ih hf
      · replace hf := it_f hc hf
        refine x_iload (pc := 77) (x := x5) dX8_hourOf_77 rfl ?_
        obtain ⟨rfl, rfl⟩ := ret_s hf
        exact x_reti (pc := 79) dX8_hourOf_79 rfl

def j_X8_hourOf_24 (h : AH) (x0 : Option Nat) (x1 : Int32) (x2 : Int32) (y0 : Int32) (y1 : Int32) : Option (Int32 × AH) :=
  g_X8_hourOf_31  NN h x0 x1 x2 (y0 - y1) 8

set_option maxRecDepth 100000 in
set_option maxHeartbeats 4000000 in
theorem tj_X8_hourOf_24 {g : GT} {h : AH} {x0 : Option Nat} {x1 : Int32} {x2 : Int32} {y0 : Int32} {y1 : Int32} {r : Int32} {h' : AH} (hf : j_X8_hourOf_24 h x0 x1 x2 y0 y1 = some (r, h')) : Xj g mX8_hourOf h 24 [some (va_rf (x0)), some (.int (x1)), some (.int (x2)), none, none, none] [.int (y1), .int (y0)] (some (.int r)) h' := by
  rw [j_X8_hourOf_24] at hf
  refine x_isub (pc := 24) dX8_hourOf_24 ?_
  refine x_istore (pc := 25) (ls' := [some (va_rf (x0)), some (.int (x1)), some (.int (x2)), none, some (.int (y0 - y1)), none]) dX8_hourOf_25 (by decide) rfl ?_
  refine x_bipush (pc := 27) (v := 8) dX8_hourOf_27 (by decide) ?_
  refine x_istore (pc := 29) (ls' := [some (va_rf (x0)), some (.int (x1)), some (.int (x2)), none, some (.int (y0 - y1)), some (.int (8))]) dX8_hourOf_29 (by decide) rfl ?_
  exact tg_X8_hourOf_31  NN hf

def f_X8_hourOf (h : AH) (x0 : Option Nat) (x1 : Int32) (x2 : Int32) (x3 : Int32) : Option (Int32 × AH) :=
  bd (gR h x0 8 0) fun v1 =>
  bd (ldI h v1 ((36 + (3 * x1)) + 1)) fun v12 =>
  if ¬ x3 = 3 then (
    j_X8_hourOf_24  h x0 x1 x2 v12 0
  ) else (
    j_X8_hourOf_24  h x0 x1 x2 v12 50
  )

set_option maxRecDepth 100000 in
set_option maxHeartbeats 4000000 in
theorem tm_X8_hourOf {g : GT} {h : AH} {x0 : Option Nat} {x1 : Int32} {x2 : Int32} {x3 : Int32} {r : Int32} {h' : AH} (hf : f_X8_hourOf h x0 x1 x2 x3 = some (r, h')) : Xm g mX8_hourOf [va_rf (x0), .int (x1), .int (x2), .int (x3)] h (some (.int r)) h' := by
  refine xm_of mo_X8_hourOf (Nat.le_of_ble_eq_true rfl) (ls := [some (va_rf (x0)), some (.int (x1)), some (.int (x2)), some (.int (x3)), none, none]) rfl ?_
  rw [f_X8_hourOf] at hf
  refine x_aload_n (pc := 0) (a := x0) dX8_hourOf_0 rfl ?_
  replace hf := bd_s hf; obtain ⟨v1, e1, hf⟩ := hf
  refine x_getR (pc := 1) dX8_hourOf_1 fl_8_7 e1 ?_
  refine x_bipush (pc := 4) (v := 36) dX8_hourOf_4 (by decide) ?_
  refine x_iconst (pc := 6) (v := 3) dX8_hourOf_6 (by decide) ?_
  refine x_iload_n (pc := 7) (x := x1) dX8_hourOf_7 rfl ?_
  refine x_imul (pc := 8) dX8_hourOf_8 ?_
  refine x_iadd (pc := 9) dX8_hourOf_9 ?_
  refine x_iconst (pc := 10) (v := 1) dX8_hourOf_10 (by decide) ?_
  refine x_iadd (pc := 11) dX8_hourOf_11 ?_
  replace hf := bd_s hf; obtain ⟨v12, e12, hf⟩ := hf
  refine x_ldI (pc := 12) dX8_hourOf_12 e12 ?_
  refine x_iload_n (pc := 13) (x := x3) dX8_hourOf_13 rfl ?_
  refine x_iconst (pc := 14) (v := 3) dX8_hourOf_14 (by decide) ?_
  refine x_icmp_ne (pc := 15) (tgt := 23) (x := x3) (y := 3) dX8_hourOf_15 rfl (fun hc => ?_) (fun hc => ?_)
  · replace hf := it_t hc hf
    refine x_iconst (pc := 23) (v := 0) dX8_hourOf_23 (by decide) ?_
    refine x_mask [true, true, true, false, false, false] rfl ?_
    exact tj_X8_hourOf_24  hf
  · replace hf := it_n hc hf
    refine x_bipush (pc := 18) (v := 50) dX8_hourOf_18 (by decide) ?_
    refine x_goto (pc := 20) (tgt := 24) dX8_hourOf_20 rfl ?_
    refine x_mask [true, true, true, false, false, false] rfl ?_
    exact tj_X8_hourOf_24  hf

def j_X8_isOpen_67 (k6 : AH → Option Nat → Int32 → Int32 → Int32 → Int32 → Int32 → Int32 → Option (Int32 × AH)) (h : AH) (x0 : Option Nat) (x1 : Int32) (x2 : Int32) (x3 : Int32) (x4 : Int32) (x6 : Int32) (y0 : Int32) (y1 : Int32) : Option (Int32 × AH) :=
  k6 h x0 x1 x2 x3 x4 (y0 &&& y1) (x6 + 1)

set_option maxRecDepth 100000 in
set_option maxHeartbeats 4000000 in
theorem tj_X8_isOpen_67 {g : GT} {k6 : AH → Option Nat → Int32 → Int32 → Int32 → Int32 → Int32 → Int32 → Option (Int32 × AH)} (hk6 : ∀ (h : AH) (x0 : Option Nat) (x1 : Int32) (x2 : Int32) (x3 : Int32) (x4 : Int32) (x5 : Int32) (x6 : Int32) (r : Int32) (h' : AH), k6 h x0 x1 x2 x3 x4 x5 x6 = some (r, h') → Xj g mX8_isOpen h 6 [some (va_rf (x0)), some (.int (x1)), some (.int (x2)), some (.int (x3)), some (.int (x4)), some (.int (x5)), some (.int (x6)), none] [] (some (.int r)) h') {h : AH} {x0 : Option Nat} {x1 : Int32} {x2 : Int32} {x3 : Int32} {x4 : Int32} {x6 : Int32} {y0 : Int32} {y1 : Int32} {r : Int32} {h' : AH} (hf : j_X8_isOpen_67 k6 h x0 x1 x2 x3 x4 x6 y0 y1 = some (r, h')) : Xj g mX8_isOpen h 67 [some (va_rf (x0)), some (.int (x1)), some (.int (x2)), some (.int (x3)), some (.int (x4)), none, some (.int (x6)), none] [.int (y1), .int (y0)] (some (.int r)) h' := by
  rw [j_X8_isOpen_67] at hf
  refine x_iand (pc := 67) dX8_isOpen_67 ?_
  refine x_istore (pc := 68) (ls' := [some (va_rf (x0)), some (.int (x1)), some (.int (x2)), some (.int (x3)), some (.int (x4)), some (.int (y0 &&& y1)), some (.int (x6)), none]) dX8_isOpen_68 (by decide) rfl ?_
  refine x_iinc (pc := 70) (x := x6) (v := x6 + 1) (ls' := [some (va_rf (x0)), some (.int (x1)), some (.int (x2)), some (.int (x3)), some (.int (x4)), some (.int (y0 &&& y1)), some (.int (x6 + 1)), none]) dX8_isOpen_70 rfl rfl (by decide) rfl ?_
  refine x_goto (pc := 73) (tgt := 6) dX8_isOpen_73 rfl ?_
  exact hk6 _ _ _ _ _ _ _ _ _ _ hf

def j_X8_isOpen_62 (k6 : AH → Option Nat → Int32 → Int32 → Int32 → Int32 → Int32 → Int32 → Option (Int32 × AH)) (h : AH) (x0 : Option Nat) (x1 : Int32) (x2 : Int32) (x3 : Int32) (x4 : Int32) (x6 : Int32) (y0 : Int32) : Option (Int32 × AH) :=
  j_X8_isOpen_67 k6 h x0 x1 x2 x3 x4 x6 y0 1

set_option maxRecDepth 100000 in
set_option maxHeartbeats 4000000 in
theorem tj_X8_isOpen_62 {g : GT} {k6 : AH → Option Nat → Int32 → Int32 → Int32 → Int32 → Int32 → Int32 → Option (Int32 × AH)} (hk6 : ∀ (h : AH) (x0 : Option Nat) (x1 : Int32) (x2 : Int32) (x3 : Int32) (x4 : Int32) (x5 : Int32) (x6 : Int32) (r : Int32) (h' : AH), k6 h x0 x1 x2 x3 x4 x5 x6 = some (r, h') → Xj g mX8_isOpen h 6 [some (va_rf (x0)), some (.int (x1)), some (.int (x2)), some (.int (x3)), some (.int (x4)), some (.int (x5)), some (.int (x6)), none] [] (some (.int r)) h') {h : AH} {x0 : Option Nat} {x1 : Int32} {x2 : Int32} {x3 : Int32} {x4 : Int32} {x6 : Int32} {y0 : Int32} {r : Int32} {h' : AH} (hf : j_X8_isOpen_62 k6 h x0 x1 x2 x3 x4 x6 y0 = some (r, h')) : Xj g mX8_isOpen h 62 [some (va_rf (x0)), some (.int (x1)), some (.int (x2)), some (.int (x3)), some (.int (x4)), none, some (.int (x6)), none] [.int (y0)] (some (.int r)) h' := by
  rw [j_X8_isOpen_62] at hf
  refine x_iconst (pc := 62) (v := 1) dX8_isOpen_62 (by decide) ?_
  refine x_goto (pc := 63) (tgt := 67) dX8_isOpen_63 rfl ?_
  exact tj_X8_isOpen_67 hk6 hf

def g_X8_isOpen_6 : Nat → AH → Option Nat → Int32 → Int32 → Int32 → Int32 → Int32 → Int32 → Option (Int32 × AH)
  | 0, _, _, _, _, _, _, _, _ => none
  | n + 1, h, x0, x1, x2, x3, x4, x5, x6 =>
    bd (gR h x0 8 0) fun v9 =>
    bd (ldI h v9 3) fun v13 =>
    if v13 ≤ x6 then (
      bd (bl x5) fun v78 =>
      some (v78, h)
    ) else (
      bd (gR h x0 8 0) fun v18 =>
      bd (ldI h v18 (36 + (3 * x6))) fun v28 =>
      if v28 ≤ x2 then (
        j_X8_isOpen_62 (fun h x0 x1 x2 x3 x4 x5 x6 => g_X8_isOpen_6  n h x0 x1 x2 x3 x4 x5 x6) h x0 x1 x2 x3 x4 x6 x5
      ) else (
        if x3 < v28 then (
          j_X8_isOpen_62 (fun h x0 x1 x2 x3 x4 x5 x6 => g_X8_isOpen_6  n h x0 x1 x2 x3 x4 x5 x6) h x0 x1 x2 x3 x4 x6 x5
        ) else (
          bd (isO h x0 8) fun _ =>
          bd2 (f_X8_told h x0 x1 0) fun v53 h53 =>
          bd (isO h53 x0 8) fun _ =>
          bd2 (f_X8_hourOf h53 x0 x6 x4 v53) fun v56 h56 =>
          if v56 < 0 then (
            j_X8_isOpen_67 (fun h x0 x1 x2 x3 x4 x5 x6 => g_X8_isOpen_6  n h x0 x1 x2 x3 x4 x5 x6) h56 x0 x1 x2 x3 x4 x6 x5 0
          ) else (
            j_X8_isOpen_62 (fun h x0 x1 x2 x3 x4 x5 x6 => g_X8_isOpen_6  n h x0 x1 x2 x3 x4 x5 x6) h56 x0 x1 x2 x3 x4 x6 x5
          )
        )
      )
    )

set_option maxRecDepth 100000 in
set_option maxHeartbeats 4000000 in
theorem tg_X8_isOpen_6 {g : GT} : ∀ (n : Nat) {h : AH} {x0 : Option Nat} {x1 : Int32} {x2 : Int32} {x3 : Int32} {x4 : Int32} {x5 : Int32} {x6 : Int32} {r : Int32} {h' : AH}, g_X8_isOpen_6 n h x0 x1 x2 x3 x4 x5 x6 = some (r, h') → Xj g mX8_isOpen h 6 [some (va_rf (x0)), some (.int (x1)), some (.int (x2)), some (.int (x3)), some (.int (x4)), some (.int (x5)), some (.int (x6)), none] [] (some (.int r)) h' := by
  intro n
  induction n with
  | zero =>
    intros
    rename_i z
    cases z
  | succ n ih =>
    intro h x0 x1 x2 x3 x4 x5 x6 r h' hf
    rw [g_X8_isOpen_6] at hf
    refine x_iload (pc := 6) (x := x6) dX8_isOpen_6 rfl ?_
    refine x_aload_n (pc := 8) (a := x0) dX8_isOpen_8 rfl ?_
    replace hf := bd_s hf; obtain ⟨v9, e9, hf⟩ := hf
    refine x_getR (pc := 9) dX8_isOpen_9 fl_8_7 e9 ?_
    refine x_iconst (pc := 12) (v := 3) dX8_isOpen_12 (by decide) ?_
    replace hf := bd_s hf; obtain ⟨v13, e13, hf⟩ := hf
    refine x_ldI (pc := 13) dX8_isOpen_13 e13 ?_
    refine x_icmp_ge (pc := 14) (tgt := 76) (x := x6) (y := v13) dX8_isOpen_14 rfl (fun hc => ?_) (fun hc => ?_)
    · replace hf := it_t hc hf
      refine x_iload (pc := 76) (x := x5) dX8_isOpen_76 rfl ?_
      replace hf := bd_s hf; obtain ⟨v78, e78, hf⟩ := hf
      obtain ⟨z78, q78⟩ := bl_s e78
      obtain ⟨rfl, rfl⟩ := ret_s hf
      rw [q78]
      exact x_retz (pc := 78) dX8_isOpen_78 rfl z78
    · replace hf := it_f hc hf
      refine x_aload_n (pc := 17) (a := x0) dX8_isOpen_17 rfl ?_
      replace hf := bd_s hf; obtain ⟨v18, e18, hf⟩ := hf
      refine x_getR (pc := 18) dX8_isOpen_18 fl_8_7 e18 ?_
      refine x_bipush (pc := 21) (v := 36) dX8_isOpen_21 (by decide) ?_
      refine x_iconst (pc := 23) (v := 3) dX8_isOpen_23 (by decide) ?_
      refine x_iload (pc := 24) (x := x6) dX8_isOpen_24 rfl ?_
      refine x_imul (pc := 26) dX8_isOpen_26 ?_
      refine x_iadd (pc := 27) dX8_isOpen_27 ?_
      replace hf := bd_s hf; obtain ⟨v28, e28, hf⟩ := hf
      refine x_ldI (pc := 28) dX8_isOpen_28 e28 ?_
      refine x_istore (pc := 29) (ls' := [some (va_rf (x0)), some (.int (x1)), some (.int (x2)), some (.int (x3)), some (.int (x4)), some (.int (x5)), some (.int (x6)), some (.int (v28))]) dX8_isOpen_29 (by decide) rfl ?_
      refine x_iload (pc := 31) (x := x5) dX8_isOpen_31 rfl ?_
      refine x_iload (pc := 33) (x := v28) dX8_isOpen_33 rfl ?_
      refine x_iload_n (pc := 35) (x := x2) dX8_isOpen_35 rfl ?_
      refine x_icmp_le (pc := 36) (tgt := 62) (x := v28) (y := x2) dX8_isOpen_36 rfl (fun hc => ?_) (fun hc => ?_)
      · replace hf := it_t hc hf
        refine x_mask [true, true, true, true, true, false, true, false] rfl ?_
        exact tj_X8_isOpen_62 (fun _ _ _ _ _ _ _ _ _ _ z => ih z) hf
      · replace hf := it_f hc hf
        refine x_iload (pc := 39) (x := v28) dX8_isOpen_39 rfl ?_
        refine x_iload_n (pc := 41) (x := x3) dX8_isOpen_41 rfl ?_
        refine x_icmp_gt (pc := 42) (tgt := 62) (x := v28) (y := x3) dX8_isOpen_42 rfl (fun hc => ?_) (fun hc => ?_)
        · replace hf := it_t hc hf
          refine x_mask [true, true, true, true, true, false, true, false] rfl ?_
          exact tj_X8_isOpen_62 (fun _ _ _ _ _ _ _ _ _ _ z => ih z) hf
        · replace hf := it_f hc hf
          refine x_aload_n (pc := 45) (a := x0) dX8_isOpen_45 rfl ?_
          refine x_iload (pc := 46) (x := x6) dX8_isOpen_46 rfl ?_
          refine x_iload (pc := 48) (x := x4) dX8_isOpen_48 rfl ?_
          refine x_aload_n (pc := 50) (a := x0) dX8_isOpen_50 rfl ?_
          refine x_iload_n (pc := 51) (x := x1) dX8_isOpen_51 rfl ?_
          refine x_iconst (pc := 52) (v := 0) dX8_isOpen_52 (by decide) ?_
          replace hf := bd_s hf; obtain ⟨u53, i53, hf⟩ := hf
          replace hf := bd2_s hf; obtain ⟨v53, h53, e53, hf⟩ := hf
          refine x_cVi (pc := 53) (M' := mX8_told) (as := [.int (x1), .int (0)]) (st := [.int (x4), .int (x6), va_rf (x0), .int (x5)]) (a := x0) (ci := 8) dX8_isOpen_53 mo_X8_told lk_8_94 im_X8_told se_X8_told rfl ⟨Nat.le_of_ble_eq_true rfl, Nat.le_of_ble_eq_true rfl⟩ rfl (Nat.le_of_ble_eq_true rfl) rfl i53 (tm_X8_told e53) ?_
          replace hf := bd_s hf; obtain ⟨u56, i56, hf⟩ := hf
          replace hf := bd2_s hf; obtain ⟨v56, h56, e56, hf⟩ := hf
          refine x_cVi (pc := 56) (M' := mX8_hourOf) (as := [.int (x6), .int (x4), .int (v53)]) (st := [.int (x5)]) (a := x0) (ci := 8) dX8_isOpen_56 mo_X8_hourOf lk_8_84 im_X8_hourOf se_X8_hourOf rfl ⟨Nat.le_of_ble_eq_true rfl, Nat.le_of_ble_eq_true rfl⟩ rfl (Nat.le_of_ble_eq_true rfl) rfl i56 (tm_X8_hourOf e56) ?_
          refine x_if_lt (pc := 59) (tgt := 66) (x := v56) dX8_isOpen_59 rfl (fun hc => ?_) (fun hc => ?_)
          · replace hf := it_t hc hf
            refine x_iconst (pc := 66) (v := 0) dX8_isOpen_66 (by decide) ?_
            refine x_mask [true, true, true, true, true, false, true, false] rfl ?_
            exact tj_X8_isOpen_67 (fun _ _ _ _ _ _ _ _ _ _ z => ih z) hf
          · replace hf := it_f hc hf
            refine x_mask [true, true, true, true, true, false, true, false] rfl ?_
            exact tj_X8_isOpen_62 (fun _ _ _ _ _ _ _ _ _ _ z => ih z) hf

def f_X8_isOpen (h : AH) (x0 : Option Nat) (x1 : Int32) (x2 : Int32) (x3 : Int32) (x4 : Int32) : Option (Int32 × AH) :=
  g_X8_isOpen_6  NN h x0 x1 x2 x3 x4 1 0

set_option maxRecDepth 100000 in
set_option maxHeartbeats 4000000 in
theorem tm_X8_isOpen {g : GT} {h : AH} {x0 : Option Nat} {x1 : Int32} {x2 : Int32} {x3 : Int32} {x4 : Int32} {r : Int32} {h' : AH} (hf : f_X8_isOpen h x0 x1 x2 x3 x4 = some (r, h')) : Xm g mX8_isOpen [va_rf (x0), .int (x1), .int (x2), .int (x3), .int (x4)] h (some (.int r)) h' := by
  refine xm_of mo_X8_isOpen (Nat.le_of_ble_eq_true rfl) (ls := [some (va_rf (x0)), some (.int (x1)), some (.int (x2)), some (.int (x3)), some (.int (x4)), none, none, none]) rfl ?_
  rw [f_X8_isOpen] at hf
  refine x_iconst (pc := 0) (v := 1) dX8_isOpen_0 (by decide) ?_
  refine x_istore (pc := 1) (ls' := [some (va_rf (x0)), some (.int (x1)), some (.int (x2)), some (.int (x3)), some (.int (x4)), some (.int (1)), none, none]) dX8_isOpen_1 (by decide) rfl ?_
  refine x_iconst (pc := 3) (v := 0) dX8_isOpen_3 (by decide) ?_
  refine x_istore (pc := 4) (ls' := [some (va_rf (x0)), some (.int (x1)), some (.int (x2)), some (.int (x3)), some (.int (x4)), some (.int (1)), some (.int (0)), none]) dX8_isOpen_4 (by decide) rfl ?_
  exact tg_X8_isOpen_6  NN hf

def f_X8_canEnd (h : AH) (x0 : Option Nat) (x1 : Int32) (x2 : Int32) (x3 : Int32) : Option (Int32 × AH) :=
  bd (isO h x0 8) fun _ =>
  bd2 (f_X8_mileOf h x0 x2) fun v2 h2 =>
  bd (gR h2 x0 8 0) fun v8 =>
  bd (ldI h2 v8 0) fun v12 =>
  bd (isO h2 x0 8) fun _ =>
  bd2 (f_X8_told h2 x0 x1 2) fun v18 h18 =>
  if (v2 + v18) < v12 then (
    some (0, h18)
  ) else (
    bd (gR h18 x0 8 0) fun v30 =>
    bd (ldI h18 v30 0) fun v34 =>
    bd (isO h18 x0 8) fun _ =>
    bd2 (f_X8_isOpen h18 x0 x1 v2 (v34 - 1) x3) fun v38 h38 =>
    if v38 = 0 then (
      some (0, h38)
    ) else (
      some (1, h38)
    )
  )

set_option maxRecDepth 100000 in
set_option maxHeartbeats 4000000 in
theorem tm_X8_canEnd {g : GT} {h : AH} {x0 : Option Nat} {x1 : Int32} {x2 : Int32} {x3 : Int32} {r : Int32} {h' : AH} (hf : f_X8_canEnd h x0 x1 x2 x3 = some (r, h')) : Xm g mX8_canEnd [va_rf (x0), .int (x1), .int (x2), .int (x3)] h (some (.int r)) h' := by
  refine xm_of mo_X8_canEnd (Nat.le_of_ble_eq_true rfl) (ls := [some (va_rf (x0)), some (.int (x1)), some (.int (x2)), some (.int (x3)), none]) rfl ?_
  rw [f_X8_canEnd] at hf
  refine x_aload_n (pc := 0) (a := x0) dX8_canEnd_0 rfl ?_
  refine x_iload_n (pc := 1) (x := x2) dX8_canEnd_1 rfl ?_
  replace hf := bd_s hf; obtain ⟨u2, i2, hf⟩ := hf
  replace hf := bd2_s hf; obtain ⟨v2, h2, e2, hf⟩ := hf
  refine x_cVi (pc := 2) (M' := mX8_mileOf) (as := [.int (x2)]) (st := []) (a := x0) (ci := 8) dX8_canEnd_2 mo_X8_mileOf lk_8_109 im_X8_mileOf se_X8_mileOf rfl ⟨Nat.le_of_ble_eq_true rfl, Nat.le_of_ble_eq_true rfl⟩ rfl (Nat.le_of_ble_eq_true rfl) rfl i2 (tm_X8_mileOf e2) ?_
  refine x_istore (pc := 5) (ls' := [some (va_rf (x0)), some (.int (x1)), some (.int (x2)), some (.int (x3)), some (.int (v2))]) dX8_canEnd_5 (by decide) rfl ?_
  refine x_aload_n (pc := 7) (a := x0) dX8_canEnd_7 rfl ?_
  replace hf := bd_s hf; obtain ⟨v8, e8, hf⟩ := hf
  refine x_getR (pc := 8) dX8_canEnd_8 fl_8_7 e8 ?_
  refine x_iconst (pc := 11) (v := 0) dX8_canEnd_11 (by decide) ?_
  replace hf := bd_s hf; obtain ⟨v12, e12, hf⟩ := hf
  refine x_ldI (pc := 12) dX8_canEnd_12 e12 ?_
  refine x_iload (pc := 13) (x := v2) dX8_canEnd_13 rfl ?_
  refine x_aload_n (pc := 15) (a := x0) dX8_canEnd_15 rfl ?_
  refine x_iload_n (pc := 16) (x := x1) dX8_canEnd_16 rfl ?_
  refine x_iconst (pc := 17) (v := 2) dX8_canEnd_17 (by decide) ?_
  replace hf := bd_s hf; obtain ⟨u18, i18, hf⟩ := hf
  replace hf := bd2_s hf; obtain ⟨v18, h18, e18, hf⟩ := hf
  refine x_cVi (pc := 18) (M' := mX8_told) (as := [.int (x1), .int (2)]) (st := [.int (v2), .int (v12)]) (a := x0) (ci := 8) dX8_canEnd_18 mo_X8_told lk_8_94 im_X8_told se_X8_told rfl ⟨Nat.le_of_ble_eq_true rfl, Nat.le_of_ble_eq_true rfl⟩ rfl (Nat.le_of_ble_eq_true rfl) rfl i18 (tm_X8_told e18) ?_
  refine x_iadd (pc := 21) dX8_canEnd_21 ?_
  refine x_icmp_gt (pc := 22) (tgt := 48) (x := v12) (y := (v2 + v18)) dX8_canEnd_22 rfl (fun hc => ?_) (fun hc => ?_)
  · replace hf := it_t hc hf
    refine x_iconst (pc := 48) (v := 0) dX8_canEnd_48 (by decide) ?_
    obtain ⟨rfl, rfl⟩ := ret_s hf
    exact x_retz (pc := 49) dX8_canEnd_49 rfl (by decide)
  · replace hf := it_f hc hf
    refine x_aload_n (pc := 25) (a := x0) dX8_canEnd_25 rfl ?_
    refine x_iload_n (pc := 26) (x := x1) dX8_canEnd_26 rfl ?_
    refine x_iload (pc := 27) (x := v2) dX8_canEnd_27 rfl ?_
    refine x_aload_n (pc := 29) (a := x0) dX8_canEnd_29 rfl ?_
    replace hf := bd_s hf; obtain ⟨v30, e30, hf⟩ := hf
    refine x_getR (pc := 30) dX8_canEnd_30 fl_8_7 e30 ?_
    refine x_iconst (pc := 33) (v := 0) dX8_canEnd_33 (by decide) ?_
    replace hf := bd_s hf; obtain ⟨v34, e34, hf⟩ := hf
    refine x_ldI (pc := 34) dX8_canEnd_34 e34 ?_
    refine x_iconst (pc := 35) (v := 1) dX8_canEnd_35 (by decide) ?_
    refine x_isub (pc := 36) dX8_canEnd_36 ?_
    refine x_iload_n (pc := 37) (x := x3) dX8_canEnd_37 rfl ?_
    replace hf := bd_s hf; obtain ⟨u38, i38, hf⟩ := hf
    replace hf := bd2_s hf; obtain ⟨v38, h38, e38, hf⟩ := hf
    refine x_cVi (pc := 38) (M' := mX8_isOpen) (as := [.int (x1), .int (v2), .int (v34 - 1), .int (x3)]) (st := []) (a := x0) (ci := 8) dX8_canEnd_38 mo_X8_isOpen lk_8_112 im_X8_isOpen se_X8_isOpen rfl ⟨Nat.le_of_ble_eq_true rfl, Nat.le_of_ble_eq_true rfl⟩ rfl (Nat.le_of_ble_eq_true rfl) rfl i38 (tm_X8_isOpen e38) ?_
    refine x_if_eq (pc := 41) (tgt := 48) (x := v38) dX8_canEnd_41 rfl (fun hc => ?_) (fun hc => ?_)
    · replace hf := it_t hc hf
      refine x_iconst (pc := 48) (v := 0) dX8_canEnd_48 (by decide) ?_
      obtain ⟨rfl, rfl⟩ := ret_s hf
      exact x_retz (pc := 49) dX8_canEnd_49 rfl (by decide)
    · replace hf := it_f hc hf
      refine x_iconst (pc := 44) (v := 1) dX8_canEnd_44 (by decide) ?_
      refine x_goto (pc := 45) (tgt := 49) dX8_canEnd_45 rfl ?_
      obtain ⟨rfl, rfl⟩ := ret_s hf
      exact x_retz (pc := 49) dX8_canEnd_49 rfl (by decide)

def f_X8_leftAt (h : AH) (x0 : Option Nat) (x1 : Int32) (x2 : Int32) (x3 : Int32) : Option (Int32 × AH) :=
  bd (gR h x0 8 7) fun v1 =>
  bd (ldI h v1 (((45 * x1) + (3 * x2)) + x3)) fun v14 =>
  some (v14, h)

set_option maxRecDepth 100000 in
set_option maxHeartbeats 4000000 in
theorem tm_X8_leftAt {g : GT} {h : AH} {x0 : Option Nat} {x1 : Int32} {x2 : Int32} {x3 : Int32} {r : Int32} {h' : AH} (hf : f_X8_leftAt h x0 x1 x2 x3 = some (r, h')) : Xm g mX8_leftAt [va_rf (x0), .int (x1), .int (x2), .int (x3)] h (some (.int r)) h' := by
  refine xm_of mo_X8_leftAt (Nat.le_of_ble_eq_true rfl) (ls := [some (va_rf (x0)), some (.int (x1)), some (.int (x2)), some (.int (x3))]) rfl ?_
  rw [f_X8_leftAt] at hf
  refine x_aload_n (pc := 0) (a := x0) dX8_leftAt_0 rfl ?_
  replace hf := bd_s hf; obtain ⟨v1, e1, hf⟩ := hf
  refine x_getR (pc := 1) dX8_leftAt_1 fl_8_25 e1 ?_
  refine x_bipush (pc := 4) (v := 45) dX8_leftAt_4 (by decide) ?_
  refine x_iload_n (pc := 6) (x := x1) dX8_leftAt_6 rfl ?_
  refine x_imul (pc := 7) dX8_leftAt_7 ?_
  refine x_iconst (pc := 8) (v := 3) dX8_leftAt_8 (by decide) ?_
  refine x_iload_n (pc := 9) (x := x2) dX8_leftAt_9 rfl ?_
  refine x_imul (pc := 10) dX8_leftAt_10 ?_
  refine x_iadd (pc := 11) dX8_leftAt_11 ?_
  refine x_iload_n (pc := 12) (x := x3) dX8_leftAt_12 rfl ?_
  refine x_iadd (pc := 13) dX8_leftAt_13 ?_
  replace hf := bd_s hf; obtain ⟨v14, e14, hf⟩ := hf
  refine x_ldI (pc := 14) dX8_leftAt_14 e14 ?_
  obtain ⟨rfl, rfl⟩ := ret_s hf
  exact x_reti (pc := 15) dX8_leftAt_15 rfl

def f_X8_mayCamp (h : AH) (x0 : Option Nat) (x1 : Int32) (x2 : Int32) : Option (Int32 × AH) :=
  bd (isO h x0 8) fun _ =>
  bd2 (f_X8_told h x0 x1 0) fun v3 h3 =>
  if ¬ v3 = 2 then (
    some (1, h3)
  ) else (
    bd (gR h3 x0 8 0) fun v11 =>
    bd (ldI h3 v11 ((8 + (2 * x2)) + 1)) fun v22 =>
    if ¬ v22 = 0 then (
      some (0, h3)
    ) else (
      some (1, h3)
    )
  )

set_option maxRecDepth 100000 in
set_option maxHeartbeats 4000000 in
theorem tm_X8_mayCamp {g : GT} {h : AH} {x0 : Option Nat} {x1 : Int32} {x2 : Int32} {r : Int32} {h' : AH} (hf : f_X8_mayCamp h x0 x1 x2 = some (r, h')) : Xm g mX8_mayCamp [va_rf (x0), .int (x1), .int (x2)] h (some (.int r)) h' := by
  refine xm_of mo_X8_mayCamp (Nat.le_of_ble_eq_true rfl) (ls := [some (va_rf (x0)), some (.int (x1)), some (.int (x2))]) rfl ?_
  rw [f_X8_mayCamp] at hf
  refine x_aload_n (pc := 0) (a := x0) dX8_mayCamp_0 rfl ?_
  refine x_iload_n (pc := 1) (x := x1) dX8_mayCamp_1 rfl ?_
  refine x_iconst (pc := 2) (v := 0) dX8_mayCamp_2 (by decide) ?_
  replace hf := bd_s hf; obtain ⟨u3, i3, hf⟩ := hf
  replace hf := bd2_s hf; obtain ⟨v3, h3, e3, hf⟩ := hf
  refine x_cVi (pc := 3) (M' := mX8_told) (as := [.int (x1), .int (0)]) (st := []) (a := x0) (ci := 8) dX8_mayCamp_3 mo_X8_told lk_8_94 im_X8_told se_X8_told rfl ⟨Nat.le_of_ble_eq_true rfl, Nat.le_of_ble_eq_true rfl⟩ rfl (Nat.le_of_ble_eq_true rfl) rfl i3 (tm_X8_told e3) ?_
  refine x_iconst (pc := 6) (v := 2) dX8_mayCamp_6 (by decide) ?_
  refine x_icmp_ne (pc := 7) (tgt := 26) (x := v3) (y := 2) dX8_mayCamp_7 rfl (fun hc => ?_) (fun hc => ?_)
  · replace hf := it_t hc hf
    refine x_iconst (pc := 26) (v := 1) dX8_mayCamp_26 (by decide) ?_
    refine x_goto (pc := 27) (tgt := 31) dX8_mayCamp_27 rfl ?_
    obtain ⟨rfl, rfl⟩ := ret_s hf
    exact x_retz (pc := 31) dX8_mayCamp_31 rfl (by decide)
  · replace hf := it_n hc hf
    refine x_aload_n (pc := 10) (a := x0) dX8_mayCamp_10 rfl ?_
    replace hf := bd_s hf; obtain ⟨v11, e11, hf⟩ := hf
    refine x_getR (pc := 11) dX8_mayCamp_11 fl_8_7 e11 ?_
    refine x_bipush (pc := 14) (v := 8) dX8_mayCamp_14 (by decide) ?_
    refine x_iconst (pc := 16) (v := 2) dX8_mayCamp_16 (by decide) ?_
    refine x_iload_n (pc := 17) (x := x2) dX8_mayCamp_17 rfl ?_
    refine x_imul (pc := 18) dX8_mayCamp_18 ?_
    refine x_iadd (pc := 19) dX8_mayCamp_19 ?_
    refine x_iconst (pc := 20) (v := 1) dX8_mayCamp_20 (by decide) ?_
    refine x_iadd (pc := 21) dX8_mayCamp_21 ?_
    replace hf := bd_s hf; obtain ⟨v22, e22, hf⟩ := hf
    refine x_ldI (pc := 22) dX8_mayCamp_22 e22 ?_
    refine x_if_ne (pc := 23) (tgt := 30) (x := v22) dX8_mayCamp_23 rfl (fun hc => ?_) (fun hc => ?_)
    · replace hf := it_t hc hf
      refine x_iconst (pc := 30) (v := 0) dX8_mayCamp_30 (by decide) ?_
      obtain ⟨rfl, rfl⟩ := ret_s hf
      exact x_retz (pc := 31) dX8_mayCamp_31 rfl (by decide)
    · replace hf := it_n hc hf
      refine x_iconst (pc := 26) (v := 1) dX8_mayCamp_26 (by decide) ?_
      refine x_goto (pc := 27) (tgt := 31) dX8_mayCamp_27 rfl ?_
      obtain ⟨rfl, rfl⟩ := ret_s hf
      exact x_retz (pc := 31) dX8_mayCamp_31 rfl (by decide)

def g_X8_other_3 : Nat → AH → Option Nat → Int32 → Int32 → Int32 → Int32 → Option (Int32 × AH)
  | 0, _, _, _, _, _, _ => none
  | n + 1, h, x0, x1, x2, x3, x4 =>
    bd (gR h x0 8 0) fun v6 =>
    bd (ldI h v6 5) fun v10 =>
    if v10 ≤ x4 then (
      some ((-1), h)
    ) else (
      if x4 = x3 then (
        g_X8_other_3  n h x0 x1 x2 x3 (x4 + 1)
      ) else (
        bd (gR h x0 8 0) fun v21 =>
        bd (ldI h v21 ((244 + (30 * x4)) + x2)) fun v35 =>
        if ¬ v35 = x1 then (
          g_X8_other_3  n h x0 x1 x2 x3 (x4 + 1)
        ) else (
          some (x4, h)
        )
      )
    )

set_option maxRecDepth 100000 in
set_option maxHeartbeats 4000000 in
theorem tg_X8_other_3 {g : GT} : ∀ (n : Nat) {h : AH} {x0 : Option Nat} {x1 : Int32} {x2 : Int32} {x3 : Int32} {x4 : Int32} {r : Int32} {h' : AH}, g_X8_other_3 n h x0 x1 x2 x3 x4 = some (r, h') → Xj g mX8_other h 3 [some (va_rf (x0)), some (.int (x1)), some (.int (x2)), some (.int (x3)), some (.int (x4))] [] (some (.int r)) h' := by
  intro n
  induction n with
  | zero =>
    intros
    rename_i z
    cases z
  | succ n ih =>
    intro h x0 x1 x2 x3 x4 r h' hf
    rw [g_X8_other_3] at hf
    refine x_iload (pc := 3) (x := x4) dX8_other_3 rfl ?_
    refine x_aload_n (pc := 5) (a := x0) dX8_other_5 rfl ?_
    replace hf := bd_s hf; obtain ⟨v6, e6, hf⟩ := hf
    refine x_getR (pc := 6) dX8_other_6 fl_8_7 e6 ?_
    refine x_iconst (pc := 9) (v := 5) dX8_other_9 (by decide) ?_
    replace hf := bd_s hf; obtain ⟨v10, e10, hf⟩ := hf
    refine x_ldI (pc := 10) dX8_other_10 e10 ?_
    refine x_icmp_ge (pc := 11) (tgt := 49) (x := x4) (y := v10) dX8_other_11 rfl (fun hc => ?_) (fun hc => ?_)
    · replace hf := it_t hc hf
      refine x_iconst (pc := 49) (v := -1) dX8_other_49 (by decide) ?_
      obtain ⟨rfl, rfl⟩ := ret_s hf
      exact x_reti (pc := 50) dX8_other_50 rfl
    · replace hf := it_f hc hf
      refine x_iload (pc := 14) (x := x4) dX8_other_14 rfl ?_
      refine x_iload_n (pc := 16) (x := x3) dX8_other_16 rfl ?_
      refine x_icmp_eq (pc := 17) (tgt := 43) (x := x4) (y := x3) dX8_other_17 rfl (fun hc => ?_) (fun hc => ?_)
      · replace hf := it_t hc hf
        refine x_iinc (pc := 43) (x := x4) (v := x4 + 1) (ls' := [some (va_rf (x0)), some (.int (x1)), some (.int (x2)), some (.int (x3)), some (.int (x4 + 1))]) dX8_other_43 rfl rfl (by decide) rfl ?_
        refine x_goto (pc := 46) (tgt := 3) dX8_other_46 rfl ?_
        exact ih hf
      · replace hf := it_f hc hf
        refine x_aload_n (pc := 20) (a := x0) dX8_other_20 rfl ?_
        replace hf := bd_s hf; obtain ⟨v21, e21, hf⟩ := hf
        refine x_getR (pc := 21) dX8_other_21 fl_8_7 e21 ?_
        refine x_sipush (pc := 24) (v := 244) dX8_other_24 (by decide) ?_
        refine x_bipush (pc := 27) (v := 30) dX8_other_27 (by decide) ?_
        refine x_iload (pc := 29) (x := x4) dX8_other_29 rfl ?_
        refine x_imul (pc := 31) dX8_other_31 ?_
        refine x_iadd (pc := 32) dX8_other_32 ?_
        refine x_iload_n (pc := 33) (x := x2) dX8_other_33 rfl ?_
        refine x_iadd (pc := 34) dX8_other_34 ?_
        replace hf := bd_s hf; obtain ⟨v35, e35, hf⟩ := hf
        refine x_ldI (pc := 35) dX8_other_35 e35 ?_
        refine x_iload_n (pc := 36) (x := x1) dX8_other_36 rfl ?_
        refine x_icmp_ne (pc := 37) (tgt := 43) (x := v35) (y := x1) dX8_other_37 rfl (fun hc => ?_) (fun hc => ?_)
        · replace hf := it_t hc hf
          refine x_iinc (pc := 43) (x := x4) (v := x4 + 1) (ls' := [some (va_rf (x0)), some (.int (x1)), some (.int (x2)), some (.int (x3)), some (.int (x4 + 1))]) dX8_other_43 rfl rfl (by decide) rfl ?_
          refine x_goto (pc := 46) (tgt := 3) dX8_other_46 rfl ?_
          exact ih hf
        · replace hf := it_n hc hf
          refine x_iload (pc := 40) (x := x4) dX8_other_40 rfl ?_
          obtain ⟨rfl, rfl⟩ := ret_s hf
          exact x_reti (pc := 42) dX8_other_42 rfl

def f_X8_other (h : AH) (x0 : Option Nat) (x1 : Int32) (x2 : Int32) (x3 : Int32) : Option (Int32 × AH) :=
  g_X8_other_3  NN h x0 x1 x2 x3 0

set_option maxRecDepth 100000 in
set_option maxHeartbeats 4000000 in
theorem tm_X8_other {g : GT} {h : AH} {x0 : Option Nat} {x1 : Int32} {x2 : Int32} {x3 : Int32} {r : Int32} {h' : AH} (hf : f_X8_other h x0 x1 x2 x3 = some (r, h')) : Xm g mX8_other [va_rf (x0), .int (x1), .int (x2), .int (x3)] h (some (.int r)) h' := by
  refine xm_of mo_X8_other (Nat.le_of_ble_eq_true rfl) (ls := [some (va_rf (x0)), some (.int (x1)), some (.int (x2)), some (.int (x3)), none]) rfl ?_
  rw [f_X8_other] at hf
  refine x_iconst (pc := 0) (v := 0) dX8_other_0 (by decide) ?_
  refine x_istore (pc := 1) (ls' := [some (va_rf (x0)), some (.int (x1)), some (.int (x2)), some (.int (x3)), some (.int (0))]) dX8_other_1 (by decide) rfl ?_
  exact tg_X8_other_3  NN hf

def j_X8_canGo_70 (h : AH) (x0 : Option Nat) (x1 : Int32) (x3 : Int32) (x4 : Int32) (y0 : Int32) : Option (Int32 × AH) :=
  if y0 = 0 then (
    some (0, h)
  ) else (
    bd (isO h x0 8) fun _ =>
    bd2 (f_X8_mayCamp h x0 x1 x3) fun v80 h80 =>
    if v80 = 0 then (
      some (0, h80)
    ) else (
      bd (isO h80 x0 8) fun _ =>
      bd2 (f_X8_other h80 x0 x3 x4 x1) fun v91 h91 =>
      if 0 ≤ v91 then (
        some (0, h91)
      ) else (
        some (1, h91)
      )
    )
  )

set_option maxRecDepth 100000 in
set_option maxHeartbeats 4000000 in
theorem tj_X8_canGo_70 {g : GT} {h : AH} {x0 : Option Nat} {x1 : Int32} {x3 : Int32} {x4 : Int32} {y0 : Int32} {r : Int32} {h' : AH} (hf : j_X8_canGo_70 h x0 x1 x3 x4 y0 = some (r, h')) : Xj g mX8_canGo h 70 [some (va_rf (x0)), some (.int (x1)), none, some (.int (x3)), some (.int (x4)), none, none, none] [.int (y0)] (some (.int r)) h' := by
  rw [j_X8_canGo_70] at hf
  refine x_istore (pc := 70) (ls' := [some (va_rf (x0)), some (.int (x1)), none, some (.int (x3)), some (.int (x4)), none, none, some (.int (y0))]) dX8_canGo_70 (by decide) rfl ?_
  refine x_iload (pc := 72) (x := y0) dX8_canGo_72 rfl ?_
  refine x_if_eq (pc := 74) (tgt := 101) (x := y0) dX8_canGo_74 rfl (fun hc => ?_) (fun hc => ?_)
  · replace hf := it_t hc hf
    refine x_iconst (pc := 101) (v := 0) dX8_canGo_101 (by decide) ?_
    obtain ⟨rfl, rfl⟩ := ret_s hf
    exact x_retz (pc := 102) dX8_canGo_102 rfl (by decide)
  · replace hf := it_f hc hf
    refine x_aload_n (pc := 77) (a := x0) dX8_canGo_77 rfl ?_
    refine x_iload_n (pc := 78) (x := x1) dX8_canGo_78 rfl ?_
    refine x_iload_n (pc := 79) (x := x3) dX8_canGo_79 rfl ?_
    replace hf := bd_s hf; obtain ⟨u80, i80, hf⟩ := hf
    replace hf := bd2_s hf; obtain ⟨v80, h80, e80, hf⟩ := hf
    refine x_cVi (pc := 80) (M' := mX8_mayCamp) (as := [.int (x1), .int (x3)]) (st := []) (a := x0) (ci := 8) dX8_canGo_80 mo_X8_mayCamp lk_8_105 im_X8_mayCamp se_X8_mayCamp rfl ⟨Nat.le_of_ble_eq_true rfl, Nat.le_of_ble_eq_true rfl⟩ rfl (Nat.le_of_ble_eq_true rfl) rfl i80 (tm_X8_mayCamp e80) ?_
    refine x_if_eq (pc := 83) (tgt := 101) (x := v80) dX8_canGo_83 rfl (fun hc => ?_) (fun hc => ?_)
    · replace hf := it_t hc hf
      refine x_iconst (pc := 101) (v := 0) dX8_canGo_101 (by decide) ?_
      obtain ⟨rfl, rfl⟩ := ret_s hf
      exact x_retz (pc := 102) dX8_canGo_102 rfl (by decide)
    · replace hf := it_f hc hf
      refine x_aload_n (pc := 86) (a := x0) dX8_canGo_86 rfl ?_
      refine x_iload_n (pc := 87) (x := x3) dX8_canGo_87 rfl ?_
      refine x_iload (pc := 88) (x := x4) dX8_canGo_88 rfl ?_
      refine x_iload_n (pc := 90) (x := x1) dX8_canGo_90 rfl ?_
      replace hf := bd_s hf; obtain ⟨u91, i91, hf⟩ := hf
      replace hf := bd2_s hf; obtain ⟨v91, h91, e91, hf⟩ := hf
      refine x_cVi (pc := 91) (M' := mX8_other) (as := [.int (x3), .int (x4), .int (x1)]) (st := []) (a := x0) (ci := 8) dX8_canGo_91 mo_X8_other lk_8_101 im_X8_other se_X8_other rfl ⟨Nat.le_of_ble_eq_true rfl, Nat.le_of_ble_eq_true rfl⟩ rfl (Nat.le_of_ble_eq_true rfl) rfl i91 (tm_X8_other e91) ?_
      refine x_if_ge (pc := 94) (tgt := 101) (x := v91) dX8_canGo_94 rfl (fun hc => ?_) (fun hc => ?_)
      · replace hf := it_t hc hf
        refine x_iconst (pc := 101) (v := 0) dX8_canGo_101 (by decide) ?_
        obtain ⟨rfl, rfl⟩ := ret_s hf
        exact x_retz (pc := 102) dX8_canGo_102 rfl (by decide)
      · replace hf := it_f hc hf
        refine x_iconst (pc := 97) (v := 1) dX8_canGo_97 (by decide) ?_
        refine x_goto (pc := 98) (tgt := 102) dX8_canGo_98 rfl ?_
        obtain ⟨rfl, rfl⟩ := ret_s hf
        exact x_retz (pc := 102) dX8_canGo_102 rfl (by decide)

def j_X8_canGo_69 (h : AH) (x0 : Option Nat) (x1 : Int32) (x3 : Int32) (x4 : Int32) : Option (Int32 × AH) :=
  j_X8_canGo_70  h x0 x1 x3 x4 0

set_option maxRecDepth 100000 in
set_option maxHeartbeats 4000000 in
theorem tj_X8_canGo_69 {g : GT} {h : AH} {x0 : Option Nat} {x1 : Int32} {x3 : Int32} {x4 : Int32} {r : Int32} {h' : AH} (hf : j_X8_canGo_69 h x0 x1 x3 x4 = some (r, h')) : Xj g mX8_canGo h 69 [some (va_rf (x0)), some (.int (x1)), none, some (.int (x3)), some (.int (x4)), none, none, none] [] (some (.int r)) h' := by
  rw [j_X8_canGo_69] at hf
  refine x_iconst (pc := 69) (v := 0) dX8_canGo_69 (by decide) ?_
  exact tj_X8_canGo_70  hf

def j_X8_canGo_65 (h : AH) (x0 : Option Nat) (x1 : Int32) (x3 : Int32) (x4 : Int32) : Option (Int32 × AH) :=
  j_X8_canGo_70  h x0 x1 x3 x4 1

set_option maxRecDepth 100000 in
set_option maxHeartbeats 4000000 in
theorem tj_X8_canGo_65 {g : GT} {h : AH} {x0 : Option Nat} {x1 : Int32} {x3 : Int32} {x4 : Int32} {r : Int32} {h' : AH} (hf : j_X8_canGo_65 h x0 x1 x3 x4 = some (r, h')) : Xj g mX8_canGo h 65 [some (va_rf (x0)), some (.int (x1)), none, some (.int (x3)), some (.int (x4)), none, none, none] [] (some (.int r)) h' := by
  rw [j_X8_canGo_65] at hf
  refine x_iconst (pc := 65) (v := 1) dX8_canGo_65 (by decide) ?_
  refine x_goto (pc := 66) (tgt := 70) dX8_canGo_66 rfl ?_
  exact tj_X8_canGo_70  hf

def f_X8_canGo (h : AH) (x0 : Option Nat) (x1 : Int32) (x2 : Int32) (x3 : Int32) (x4 : Int32) : Option (Int32 × AH) :=
  bd (isO h x0 8) fun _ =>
  bd2 (f_X8_mileOf h x0 x2) fun v2 h2 =>
  bd (isO h2 x0 8) fun _ =>
  bd2 (f_X8_mileOf h2 x0 x3) fun v9 h9 =>
  if x2 = x3 then (
    j_X8_canGo_65  h9 x0 x1 x3 x4
  ) else (
    if v9 ≤ v2 then (
      j_X8_canGo_69  h9 x0 x1 x3 x4
    ) else (
      bd (isO h9 x0 8) fun _ =>
      bd2 (f_X8_told h9 x0 x1 2) fun v33 h33 =>
      if (v2 + v33) < v9 then (
        j_X8_canGo_69  h33 x0 x1 x3 x4
      ) else (
        bd (gR h33 x0 8 0) fun v43 =>
        bd (ldI h33 v43 0) fun v47 =>
        if v47 ≤ v9 then (
          j_X8_canGo_69  h33 x0 x1 x3 x4
        ) else (
          bd (isO h33 x0 8) fun _ =>
          bd2 (f_X8_isOpen h33 x0 x1 v2 v9 x4) fun v59 h59 =>
          if v59 = 0 then (
            j_X8_canGo_69  h59 x0 x1 x3 x4
          ) else (
            j_X8_canGo_65  h59 x0 x1 x3 x4
          )
        )
      )
    )
  )

set_option maxRecDepth 100000 in
set_option maxHeartbeats 4000000 in
theorem tm_X8_canGo {g : GT} {h : AH} {x0 : Option Nat} {x1 : Int32} {x2 : Int32} {x3 : Int32} {x4 : Int32} {r : Int32} {h' : AH} (hf : f_X8_canGo h x0 x1 x2 x3 x4 = some (r, h')) : Xm g mX8_canGo [va_rf (x0), .int (x1), .int (x2), .int (x3), .int (x4)] h (some (.int r)) h' := by
  refine xm_of mo_X8_canGo (Nat.le_of_ble_eq_true rfl) (ls := [some (va_rf (x0)), some (.int (x1)), some (.int (x2)), some (.int (x3)), some (.int (x4)), none, none, none]) rfl ?_
  rw [f_X8_canGo] at hf
  refine x_aload_n (pc := 0) (a := x0) dX8_canGo_0 rfl ?_
  refine x_iload_n (pc := 1) (x := x2) dX8_canGo_1 rfl ?_
  replace hf := bd_s hf; obtain ⟨u2, i2, hf⟩ := hf
  replace hf := bd2_s hf; obtain ⟨v2, h2, e2, hf⟩ := hf
  refine x_cVi (pc := 2) (M' := mX8_mileOf) (as := [.int (x2)]) (st := []) (a := x0) (ci := 8) dX8_canGo_2 mo_X8_mileOf lk_8_109 im_X8_mileOf se_X8_mileOf rfl ⟨Nat.le_of_ble_eq_true rfl, Nat.le_of_ble_eq_true rfl⟩ rfl (Nat.le_of_ble_eq_true rfl) rfl i2 (tm_X8_mileOf e2) ?_
  refine x_istore (pc := 5) (ls' := [some (va_rf (x0)), some (.int (x1)), some (.int (x2)), some (.int (x3)), some (.int (x4)), some (.int (v2)), none, none]) dX8_canGo_5 (by decide) rfl ?_
  refine x_aload_n (pc := 7) (a := x0) dX8_canGo_7 rfl ?_
  refine x_iload_n (pc := 8) (x := x3) dX8_canGo_8 rfl ?_
  replace hf := bd_s hf; obtain ⟨u9, i9, hf⟩ := hf
  replace hf := bd2_s hf; obtain ⟨v9, h9, e9, hf⟩ := hf
  refine x_cVi (pc := 9) (M' := mX8_mileOf) (as := [.int (x3)]) (st := []) (a := x0) (ci := 8) dX8_canGo_9 mo_X8_mileOf lk_8_109 im_X8_mileOf se_X8_mileOf rfl ⟨Nat.le_of_ble_eq_true rfl, Nat.le_of_ble_eq_true rfl⟩ rfl (Nat.le_of_ble_eq_true rfl) rfl i9 (tm_X8_mileOf e9) ?_
  refine x_istore (pc := 12) (ls' := [some (va_rf (x0)), some (.int (x1)), some (.int (x2)), some (.int (x3)), some (.int (x4)), some (.int (v2)), some (.int (v9)), none]) dX8_canGo_12 (by decide) rfl ?_
  refine x_iload_n (pc := 14) (x := x2) dX8_canGo_14 rfl ?_
  refine x_iload_n (pc := 15) (x := x3) dX8_canGo_15 rfl ?_
  refine x_icmp_eq (pc := 16) (tgt := 65) (x := x2) (y := x3) dX8_canGo_16 rfl (fun hc => ?_) (fun hc => ?_)
  · replace hf := it_t hc hf
    refine x_mask [true, true, false, true, true, false, false, false] rfl ?_
    exact tj_X8_canGo_65  hf
  · replace hf := it_f hc hf
    refine x_iload (pc := 19) (x := v9) dX8_canGo_19 rfl ?_
    refine x_iload (pc := 21) (x := v2) dX8_canGo_21 rfl ?_
    refine x_icmp_le (pc := 23) (tgt := 69) (x := v9) (y := v2) dX8_canGo_23 rfl (fun hc => ?_) (fun hc => ?_)
    · replace hf := it_t hc hf
      refine x_mask [true, true, false, true, true, false, false, false] rfl ?_
      exact tj_X8_canGo_69  hf
    · replace hf := it_f hc hf
      refine x_iload (pc := 26) (x := v9) dX8_canGo_26 rfl ?_
      refine x_iload (pc := 28) (x := v2) dX8_canGo_28 rfl ?_
      refine x_aload_n (pc := 30) (a := x0) dX8_canGo_30 rfl ?_
      refine x_iload_n (pc := 31) (x := x1) dX8_canGo_31 rfl ?_
      refine x_iconst (pc := 32) (v := 2) dX8_canGo_32 (by decide) ?_
      replace hf := bd_s hf; obtain ⟨u33, i33, hf⟩ := hf
      replace hf := bd2_s hf; obtain ⟨v33, h33, e33, hf⟩ := hf
      refine x_cVi (pc := 33) (M' := mX8_told) (as := [.int (x1), .int (2)]) (st := [.int (v2), .int (v9)]) (a := x0) (ci := 8) dX8_canGo_33 mo_X8_told lk_8_94 im_X8_told se_X8_told rfl ⟨Nat.le_of_ble_eq_true rfl, Nat.le_of_ble_eq_true rfl⟩ rfl (Nat.le_of_ble_eq_true rfl) rfl i33 (tm_X8_told e33) ?_
      refine x_iadd (pc := 36) dX8_canGo_36 ?_
      refine x_icmp_gt (pc := 37) (tgt := 69) (x := v9) (y := (v2 + v33)) dX8_canGo_37 rfl (fun hc => ?_) (fun hc => ?_)
      · replace hf := it_t hc hf
        refine x_mask [true, true, false, true, true, false, false, false] rfl ?_
        exact tj_X8_canGo_69  hf
      · replace hf := it_f hc hf
        refine x_iload (pc := 40) (x := v9) dX8_canGo_40 rfl ?_
        refine x_aload_n (pc := 42) (a := x0) dX8_canGo_42 rfl ?_
        replace hf := bd_s hf; obtain ⟨v43, e43, hf⟩ := hf
        refine x_getR (pc := 43) dX8_canGo_43 fl_8_7 e43 ?_
        refine x_iconst (pc := 46) (v := 0) dX8_canGo_46 (by decide) ?_
        replace hf := bd_s hf; obtain ⟨v47, e47, hf⟩ := hf
        refine x_ldI (pc := 47) dX8_canGo_47 e47 ?_
        refine x_icmp_ge (pc := 48) (tgt := 69) (x := v9) (y := v47) dX8_canGo_48 rfl (fun hc => ?_) (fun hc => ?_)
        · replace hf := it_t hc hf
          refine x_mask [true, true, false, true, true, false, false, false] rfl ?_
          exact tj_X8_canGo_69  hf
        · replace hf := it_f hc hf
          refine x_aload_n (pc := 51) (a := x0) dX8_canGo_51 rfl ?_
          refine x_iload_n (pc := 52) (x := x1) dX8_canGo_52 rfl ?_
          refine x_iload (pc := 53) (x := v2) dX8_canGo_53 rfl ?_
          refine x_iload (pc := 55) (x := v9) dX8_canGo_55 rfl ?_
          refine x_iload (pc := 57) (x := x4) dX8_canGo_57 rfl ?_
          replace hf := bd_s hf; obtain ⟨u59, i59, hf⟩ := hf
          replace hf := bd2_s hf; obtain ⟨v59, h59, e59, hf⟩ := hf
          refine x_cVi (pc := 59) (M' := mX8_isOpen) (as := [.int (x1), .int (v2), .int (v9), .int (x4)]) (st := []) (a := x0) (ci := 8) dX8_canGo_59 mo_X8_isOpen lk_8_112 im_X8_isOpen se_X8_isOpen rfl ⟨Nat.le_of_ble_eq_true rfl, Nat.le_of_ble_eq_true rfl⟩ rfl (Nat.le_of_ble_eq_true rfl) rfl i59 (tm_X8_isOpen e59) ?_
          refine x_if_eq (pc := 62) (tgt := 69) (x := v59) dX8_canGo_62 rfl (fun hc => ?_) (fun hc => ?_)
          · replace hf := it_t hc hf
            refine x_mask [true, true, false, true, true, false, false, false] rfl ?_
            exact tj_X8_canGo_69  hf
          · replace hf := it_f hc hf
            refine x_mask [true, true, false, true, true, false, false, false] rfl ?_
            exact tj_X8_canGo_65  hf
