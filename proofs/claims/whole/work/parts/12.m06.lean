def f_X7_take (h : AH) (x0 : Option Nat) (x1 : Int32) : Option (Int32 × AH) :=
  bd (isO h x0 7) fun _ =>
  bd2 (f_X7_isTrip h x0 x1) fun v2 h2 =>
  if ¬ v2 = 0 then (
    bd (gR h2 x0 7 2) fun v16 =>
    bd (gR h2 x0 7 0) fun v20 =>
    bd (gR h2 x0 7 1) fun v24 =>
    bd (isO h2 v16 3) fun _ =>
    bd2 (f_X3_search h2 v16 v20 v24 x1) fun v28 h28 =>
    if ¬ v28 = 0 then (
      bd (isO h28 x0 7) fun _ =>
      bd (f_X7_keepTrips h28 x0 x1 1) fun h44 =>
      bd (gR h44 x0 7 2) fun v48 =>
      bd (gR h44 x0 7 1) fun v52 =>
      bd (isO h44 v48 3) fun _ =>
      bd (f_X3_writeNights h44 v48 v52 x1) fun h56 =>
      bd (gR h56 x0 7 2) fun v60 =>
      bd (gI h56 v60 3 0) fun v63 =>
      some (v63 - 1, h56)
    ) else (
      bd (isO h28 x0 7) fun _ =>
      bd2 (f_X7_finding h28 x0 (-100006)) fun v37 h37 =>
      some (v37, h37)
    )
  ) else (
    bd (isO h2 x0 7) fun _ =>
    bd2 (f_X7_finding h2 x0 (-100001)) fun v11 h11 =>
    some (v11, h11)
  )

set_option maxRecDepth 100000 in
set_option maxHeartbeats 4000000 in
theorem tm_X7_take {g : GT} {h : AH} {x0 : Option Nat} {x1 : Int32} {r : Int32} {h' : AH} (hf : f_X7_take h x0 x1 = some (r, h')) : Xm g mX7_take [va_rf (x0), .int (x1)] h (some (.int r)) h' := by
  refine xm_of mo_X7_take (Nat.le_of_ble_eq_true rfl) (ls := [some (va_rf (x0)), some (.int (x1))]) rfl ?_
  rw [f_X7_take] at hf
  refine x_aload_n (pc := 0) (a := x0) dX7_take_0 rfl ?_
  refine x_iload_n (pc := 1) (x := x1) dX7_take_1 rfl ?_
  replace hf := bd_s hf; obtain ⟨u2, i2, hf⟩ := hf
  replace hf := bd2_s hf; obtain ⟨v2, h2, e2, hf⟩ := hf
  refine x_cVi (pc := 2) (M' := mX7_isTrip) (as := [.int (x1)]) (st := []) (a := x0) (ci := 7) dX7_take_2 mo_X7_isTrip lk_7_134 im_X7_isTrip se_X7_isTrip rfl ⟨Nat.le_of_ble_eq_true rfl, Nat.le_of_ble_eq_true rfl⟩ rfl (Nat.le_of_ble_eq_true rfl) rfl i2 (tm_X7_isTrip e2) ?_
  refine x_if_ne (pc := 5) (tgt := 15) (x := v2) dX7_take_5 rfl (fun hc => ?_) (fun hc => ?_)
  · replace hf := it_t hc hf
    refine x_aload_n (pc := 15) (a := x0) dX7_take_15 rfl ?_
    replace hf := bd_s hf; obtain ⟨v16, e16, hf⟩ := hf
    refine x_getR (pc := 16) dX7_take_16 fl_7_26 e16 ?_
    refine x_aload_n (pc := 19) (a := x0) dX7_take_19 rfl ?_
    replace hf := bd_s hf; obtain ⟨v20, e20, hf⟩ := hf
    refine x_getR (pc := 20) dX7_take_20 fl_7_10 e20 ?_
    refine x_aload_n (pc := 23) (a := x0) dX7_take_23 rfl ?_
    replace hf := bd_s hf; obtain ⟨v24, e24, hf⟩ := hf
    refine x_getR (pc := 24) dX7_take_24 fl_7_19 e24 ?_
    refine x_iload_n (pc := 27) (x := x1) dX7_take_27 rfl ?_
    replace hf := bd_s hf; obtain ⟨u28, i28, hf⟩ := hf
    replace hf := bd2_s hf; obtain ⟨v28, h28, e28, hf⟩ := hf
    refine x_cVi (pc := 28) (M' := mX3_search) (as := [va_rf (v20), va_rf (v24), .int (x1)]) (st := []) (a := v16) (ci := 3) dX7_take_28 mo_X3_search lk_7_166 im_X3_search se_X3_search rfl ⟨Nat.le_of_ble_eq_true rfl, Nat.le_of_ble_eq_true rfl⟩ rfl (Nat.le_of_ble_eq_true rfl) rfl i28 (tm_X3_search e28) ?_
    refine x_if_ne (pc := 31) (tgt := 41) (x := v28) dX7_take_31 rfl (fun hc => ?_) (fun hc => ?_)
    · replace hf := it_t hc hf
      refine x_aload_n (pc := 41) (a := x0) dX7_take_41 rfl ?_
      refine x_iload_n (pc := 42) (x := x1) dX7_take_42 rfl ?_
      refine x_iconst (pc := 43) (v := 1) dX7_take_43 (by decide) ?_
      replace hf := bd_s hf; obtain ⟨u44, i44, hf⟩ := hf
      replace hf := bd_s hf; obtain ⟨h44, e44, hf⟩ := hf
      refine x_cVv (pc := 44) (M' := mX7_keepTrips) (as := [.int (x1), .int (1)]) (st := []) (a := x0) (ci := 7) dX7_take_44 mo_X7_keepTrips lk_7_148 im_X7_keepTrips se_X7_keepTrips rfl ⟨Nat.le_of_ble_eq_true rfl, Nat.le_of_ble_eq_true rfl⟩ rfl (Nat.le_of_ble_eq_true rfl) rfl i44 (tm_X7_keepTrips e44) ?_
      refine x_aload_n (pc := 47) (a := x0) dX7_take_47 rfl ?_
      replace hf := bd_s hf; obtain ⟨v48, e48, hf⟩ := hf
      refine x_getR (pc := 48) dX7_take_48 fl_7_26 e48 ?_
      refine x_aload_n (pc := 51) (a := x0) dX7_take_51 rfl ?_
      replace hf := bd_s hf; obtain ⟨v52, e52, hf⟩ := hf
      refine x_getR (pc := 52) dX7_take_52 fl_7_19 e52 ?_
      refine x_iload_n (pc := 55) (x := x1) dX7_take_55 rfl ?_
      replace hf := bd_s hf; obtain ⟨u56, i56, hf⟩ := hf
      replace hf := bd_s hf; obtain ⟨h56, e56, hf⟩ := hf
      refine x_cVv (pc := 56) (M' := mX3_writeNights) (as := [va_rf (v52), .int (x1)]) (st := []) (a := v48) (ci := 3) dX7_take_56 mo_X3_writeNights lk_7_176 im_X3_writeNights se_X3_writeNights rfl ⟨Nat.le_of_ble_eq_true rfl, Nat.le_of_ble_eq_true rfl⟩ rfl (Nat.le_of_ble_eq_true rfl) rfl i56 (tm_X3_writeNights e56) ?_
      refine x_aload_n (pc := 59) (a := x0) dX7_take_59 rfl ?_
      replace hf := bd_s hf; obtain ⟨v60, e60, hf⟩ := hf
      refine x_getR (pc := 60) dX7_take_60 fl_7_26 e60 ?_
      replace hf := bd_s hf; obtain ⟨v63, e63, hf⟩ := hf
      refine x_getI (pc := 63) dX7_take_63 fl_7_170 e63 ?_
      refine x_iconst (pc := 66) (v := 1) dX7_take_66 (by decide) ?_
      refine x_isub (pc := 67) dX7_take_67 ?_
      obtain ⟨rfl, rfl⟩ := ret_s hf
      exact x_reti (pc := 68) dX7_take_68 rfl
    · replace hf := it_n hc hf
      refine x_aload_n (pc := 34) (a := x0) dX7_take_34 rfl ?_
      refine x_ldc (pc := 35) (v := -100006) dX7_take_35 kc_7_165 ?_
      replace hf := bd_s hf; obtain ⟨u37, i37, hf⟩ := hf
      replace hf := bd2_s hf; obtain ⟨v37, h37, e37, hf⟩ := hf
      refine x_cVi (pc := 37) (M' := mX7_finding) (as := [.int ((-100006))]) (st := []) (a := x0) (ci := 7) dX7_take_37 mo_X7_finding lk_7_60 im_X7_finding se_X7_finding rfl ⟨Nat.le_of_ble_eq_true rfl, Nat.le_of_ble_eq_true rfl⟩ rfl (Nat.le_of_ble_eq_true rfl) rfl i37 (tm_X7_finding e37) ?_
      obtain ⟨rfl, rfl⟩ := ret_s hf
      exact x_reti (pc := 40) dX7_take_40 rfl
  · replace hf := it_n hc hf
    refine x_aload_n (pc := 8) (a := x0) dX7_take_8 rfl ?_
    refine x_ldc (pc := 9) (v := -100001) dX7_take_9 kc_7_59 ?_
    replace hf := bd_s hf; obtain ⟨u11, i11, hf⟩ := hf
    replace hf := bd2_s hf; obtain ⟨v11, h11, e11, hf⟩ := hf
    refine x_cVi (pc := 11) (M' := mX7_finding) (as := [.int ((-100001))]) (st := []) (a := x0) (ci := 7) dX7_take_11 mo_X7_finding lk_7_60 im_X7_finding se_X7_finding rfl ⟨Nat.le_of_ble_eq_true rfl, Nat.le_of_ble_eq_true rfl⟩ rfl (Nat.le_of_ble_eq_true rfl) rfl i11 (tm_X7_finding e11) ?_
    obtain ⟨rfl, rfl⟩ := ret_s hf
    exact x_reti (pc := 14) dX7_take_14 rfl

def f_X7_trip (h : AH) (x0 : Option Nat) (x1 : Int32) (x2 : Int32) (x3 : Int32) (x4 : Int32) (x5 : Int32) : Option (Int32 × AH) :=
  bd2 (f_X7_isKind h x1) fun v1 h1 =>
  if v1 = 0 then (
    bd (isO h1 x0 7) fun _ =>
    bd2 (f_X7_finding h1 x0 (-100001)) fun v48 h48 =>
    some (v48, h48)
  ) else (
    bd2 (f_X7_isDay h1 x2) fun v8 h8 =>
    if v8 = 0 then (
      bd (isO h8 x0 7) fun _ =>
      bd2 (f_X7_finding h8 x0 (-100001)) fun v48 h48 =>
      some (v48, h48)
    ) else (
      bd2 (f_X7_within h8 x3 1 60) fun v18 h18 =>
      if v18 = 0 then (
        bd (isO h18 x0 7) fun _ =>
        bd2 (f_X7_finding h18 x0 (-100001)) fun v48 h48 =>
        some (v48, h48)
      ) else (
        bd2 (f_X7_within h18 x4 1 15) fun v29 h29 =>
        if v29 = 0 then (
          bd (isO h29 x0 7) fun _ =>
          bd2 (f_X7_finding h29 x0 (-100001)) fun v48 h48 =>
          some (v48, h48)
        ) else (
          bd2 (f_X7_within h29 x5 0 2) fun v39 h39 =>
          if ¬ v39 = 0 then (
            bd (gR h39 x0 7 1) fun v53 =>
            bd (isO h39 v53 6) fun _ =>
            bd2 (f_X6_size h39 v53) fun v56 h56 =>
            if v56 < 10 then (
              bd (gR h56 x0 7 1) fun v76 =>
              bd (isO h56 v76 6) fun _ =>
              bd (f_X6_write h56 v76 v56 0 x1) fun h83 =>
              bd (gR h83 x0 7 1) fun v87 =>
              bd (isO h83 v87 6) fun _ =>
              bd (f_X6_write h83 v87 v56 1 x2) fun h94 =>
              bd (gR h94 x0 7 1) fun v98 =>
              bd (isO h94 v98 6) fun _ =>
              bd (f_X6_write h94 v98 v56 2 x3) fun h105 =>
              bd (gR h105 x0 7 1) fun v109 =>
              bd (isO h105 v109 6) fun _ =>
              bd (f_X6_write h105 v109 v56 3 x4) fun h117 =>
              bd (gR h117 x0 7 1) fun v121 =>
              bd (isO h117 v121 6) fun _ =>
              bd (f_X6_write h117 v121 v56 4 x5) fun h129 =>
              bd (gR h129 x0 7 1) fun v133 =>
              bd (isO h129 v133 6) fun _ =>
              bd (f_X6_clearNights h129 v133 v56) fun h138 =>
              bd (gR h138 x0 7 1) fun v143 =>
              bd (gR h138 v143 6 0) fun v146 =>
              bd (isO h138 x0 7) fun _ =>
              bd2 (f_X7_change h138 x0 v146 0 (v56 + 1)) fun v154 h154 =>
              some (v154, h154)
            ) else (
              bd (isO h56 x0 7) fun _ =>
              bd2 (f_X7_finding h56 x0 (-100005)) fun v71 h71 =>
              some (v71, h71)
            )
          ) else (
            bd (isO h39 x0 7) fun _ =>
            bd2 (f_X7_finding h39 x0 (-100001)) fun v48 h48 =>
            some (v48, h48)
          )
        )
      )
    )
  )

set_option maxRecDepth 100000 in
set_option maxHeartbeats 4000000 in
theorem tm_X7_trip {g : GT} {h : AH} {x0 : Option Nat} {x1 : Int32} {x2 : Int32} {x3 : Int32} {x4 : Int32} {x5 : Int32} {r : Int32} {h' : AH} (hf : f_X7_trip h x0 x1 x2 x3 x4 x5 = some (r, h')) : Xm g mX7_trip [va_rf (x0), .int (x1), .int (x2), .int (x3), .int (x4), .int (x5)] h (some (.int r)) h' := by
  refine xm_of mo_X7_trip (Nat.le_of_ble_eq_true rfl) (ls := [some (va_rf (x0)), some (.int (x1)), some (.int (x2)), some (.int (x3)), some (.int (x4)), some (.int (x5)), none]) rfl ?_
  rw [f_X7_trip] at hf
  refine x_iload_n (pc := 0) (x := x1) dX7_trip_0 rfl ?_
  replace hf := bd2_s hf; obtain ⟨v1, h1, e1, hf⟩ := hf
  refine x_cSi (pc := 1) (M' := mX7_isKind) (as := [.int (x1)]) (st := []) dX7_trip_1 mo_X7_isKind lk_7_113 sm_X7_isKind ⟨Nat.le_of_ble_eq_true rfl, Nat.le_of_ble_eq_true rfl⟩ rfl (Nat.le_of_ble_eq_true rfl) rfl (tm_X7_isKind e1) ?_
  refine x_if_eq (pc := 4) (tgt := 45) (x := v1) dX7_trip_4 rfl (fun hc => ?_) (fun hc => ?_)
  · replace hf := it_t hc hf
    refine x_aload_n (pc := 45) (a := x0) dX7_trip_45 rfl ?_
    refine x_ldc (pc := 46) (v := -100001) dX7_trip_46 kc_7_59 ?_
    replace hf := bd_s hf; obtain ⟨u48, i48, hf⟩ := hf
    replace hf := bd2_s hf; obtain ⟨v48, h48, e48, hf⟩ := hf
    refine x_cVi (pc := 48) (M' := mX7_finding) (as := [.int ((-100001))]) (st := []) (a := x0) (ci := 7) dX7_trip_48 mo_X7_finding lk_7_60 im_X7_finding se_X7_finding rfl ⟨Nat.le_of_ble_eq_true rfl, Nat.le_of_ble_eq_true rfl⟩ rfl (Nat.le_of_ble_eq_true rfl) rfl i48 (tm_X7_finding e48) ?_
    obtain ⟨rfl, rfl⟩ := ret_s hf
    exact x_reti (pc := 51) dX7_trip_51 rfl
  · replace hf := it_f hc hf
    refine x_iload_n (pc := 7) (x := x2) dX7_trip_7 rfl ?_
    replace hf := bd2_s hf; obtain ⟨v8, h8, e8, hf⟩ := hf
    refine x_cSi (pc := 8) (M' := mX7_isDay) (as := [.int (x2)]) (st := []) dX7_trip_8 mo_X7_isDay lk_7_103 sm_X7_isDay ⟨Nat.le_of_ble_eq_true rfl, Nat.le_of_ble_eq_true rfl⟩ rfl (Nat.le_of_ble_eq_true rfl) rfl (tm_X7_isDay e8) ?_
    refine x_if_eq (pc := 11) (tgt := 45) (x := v8) dX7_trip_11 rfl (fun hc => ?_) (fun hc => ?_)
    · replace hf := it_t hc hf
      refine x_aload_n (pc := 45) (a := x0) dX7_trip_45 rfl ?_
      refine x_ldc (pc := 46) (v := -100001) dX7_trip_46 kc_7_59 ?_
      replace hf := bd_s hf; obtain ⟨u48, i48, hf⟩ := hf
      replace hf := bd2_s hf; obtain ⟨v48, h48, e48, hf⟩ := hf
      refine x_cVi (pc := 48) (M' := mX7_finding) (as := [.int ((-100001))]) (st := []) (a := x0) (ci := 7) dX7_trip_48 mo_X7_finding lk_7_60 im_X7_finding se_X7_finding rfl ⟨Nat.le_of_ble_eq_true rfl, Nat.le_of_ble_eq_true rfl⟩ rfl (Nat.le_of_ble_eq_true rfl) rfl i48 (tm_X7_finding e48) ?_
      obtain ⟨rfl, rfl⟩ := ret_s hf
      exact x_reti (pc := 51) dX7_trip_51 rfl
    · replace hf := it_f hc hf
      refine x_iload_n (pc := 14) (x := x3) dX7_trip_14 rfl ?_
      refine x_iconst (pc := 15) (v := 1) dX7_trip_15 (by decide) ?_
      refine x_bipush (pc := 16) (v := 60) dX7_trip_16 (by decide) ?_
      replace hf := bd2_s hf; obtain ⟨v18, h18, e18, hf⟩ := hf
      refine x_cSi (pc := 18) (M' := mX7_within) (as := [.int (x3), .int (1), .int (60)]) (st := []) dX7_trip_18 mo_X7_within lk_7_55 sm_X7_within ⟨Nat.le_of_ble_eq_true rfl, Nat.le_of_ble_eq_true rfl⟩ rfl (Nat.le_of_ble_eq_true rfl) rfl (tm_X7_within e18) ?_
      refine x_if_eq (pc := 21) (tgt := 45) (x := v18) dX7_trip_21 rfl (fun hc => ?_) (fun hc => ?_)
      · replace hf := it_t hc hf
        refine x_aload_n (pc := 45) (a := x0) dX7_trip_45 rfl ?_
        refine x_ldc (pc := 46) (v := -100001) dX7_trip_46 kc_7_59 ?_
        replace hf := bd_s hf; obtain ⟨u48, i48, hf⟩ := hf
        replace hf := bd2_s hf; obtain ⟨v48, h48, e48, hf⟩ := hf
        refine x_cVi (pc := 48) (M' := mX7_finding) (as := [.int ((-100001))]) (st := []) (a := x0) (ci := 7) dX7_trip_48 mo_X7_finding lk_7_60 im_X7_finding se_X7_finding rfl ⟨Nat.le_of_ble_eq_true rfl, Nat.le_of_ble_eq_true rfl⟩ rfl (Nat.le_of_ble_eq_true rfl) rfl i48 (tm_X7_finding e48) ?_
        obtain ⟨rfl, rfl⟩ := ret_s hf
        exact x_reti (pc := 51) dX7_trip_51 rfl
      · replace hf := it_f hc hf
        refine x_iload (pc := 24) (x := x4) dX7_trip_24 rfl ?_
        refine x_iconst (pc := 26) (v := 1) dX7_trip_26 (by decide) ?_
        refine x_bipush (pc := 27) (v := 15) dX7_trip_27 (by decide) ?_
        replace hf := bd2_s hf; obtain ⟨v29, h29, e29, hf⟩ := hf
        refine x_cSi (pc := 29) (M' := mX7_within) (as := [.int (x4), .int (1), .int (15)]) (st := []) dX7_trip_29 mo_X7_within lk_7_55 sm_X7_within ⟨Nat.le_of_ble_eq_true rfl, Nat.le_of_ble_eq_true rfl⟩ rfl (Nat.le_of_ble_eq_true rfl) rfl (tm_X7_within e29) ?_
        refine x_if_eq (pc := 32) (tgt := 45) (x := v29) dX7_trip_32 rfl (fun hc => ?_) (fun hc => ?_)
        · replace hf := it_t hc hf
          refine x_aload_n (pc := 45) (a := x0) dX7_trip_45 rfl ?_
          refine x_ldc (pc := 46) (v := -100001) dX7_trip_46 kc_7_59 ?_
          replace hf := bd_s hf; obtain ⟨u48, i48, hf⟩ := hf
          replace hf := bd2_s hf; obtain ⟨v48, h48, e48, hf⟩ := hf
          refine x_cVi (pc := 48) (M' := mX7_finding) (as := [.int ((-100001))]) (st := []) (a := x0) (ci := 7) dX7_trip_48 mo_X7_finding lk_7_60 im_X7_finding se_X7_finding rfl ⟨Nat.le_of_ble_eq_true rfl, Nat.le_of_ble_eq_true rfl⟩ rfl (Nat.le_of_ble_eq_true rfl) rfl i48 (tm_X7_finding e48) ?_
          obtain ⟨rfl, rfl⟩ := ret_s hf
          exact x_reti (pc := 51) dX7_trip_51 rfl
        · replace hf := it_f hc hf
          refine x_iload (pc := 35) (x := x5) dX7_trip_35 rfl ?_
          refine x_iconst (pc := 37) (v := 0) dX7_trip_37 (by decide) ?_
          refine x_iconst (pc := 38) (v := 2) dX7_trip_38 (by decide) ?_
          replace hf := bd2_s hf; obtain ⟨v39, h39, e39, hf⟩ := hf
          refine x_cSi (pc := 39) (M' := mX7_within) (as := [.int (x5), .int (0), .int (2)]) (st := []) dX7_trip_39 mo_X7_within lk_7_55 sm_X7_within ⟨Nat.le_of_ble_eq_true rfl, Nat.le_of_ble_eq_true rfl⟩ rfl (Nat.le_of_ble_eq_true rfl) rfl (tm_X7_within e39) ?_
          refine x_if_ne (pc := 42) (tgt := 52) (x := v39) dX7_trip_42 rfl (fun hc => ?_) (fun hc => ?_)
          · replace hf := it_t hc hf
            refine x_aload_n (pc := 52) (a := x0) dX7_trip_52 rfl ?_
            replace hf := bd_s hf; obtain ⟨v53, e53, hf⟩ := hf
            refine x_getR (pc := 53) dX7_trip_53 fl_7_19 e53 ?_
            replace hf := bd_s hf; obtain ⟨u56, i56, hf⟩ := hf
            replace hf := bd2_s hf; obtain ⟨v56, h56, e56, hf⟩ := hf
            refine x_cVi (pc := 56) (M' := mX6_size) (as := []) (st := []) (a := v53) (ci := 6) dX7_trip_56 mo_X6_size lk_7_119 im_X6_size se_X6_size rfl ⟨Nat.le_of_ble_eq_true rfl, Nat.le_of_ble_eq_true rfl⟩ rfl (Nat.le_of_ble_eq_true rfl) rfl i56 (tm_X6_size e56) ?_
            refine x_istore (pc := 59) (ls' := [some (va_rf (x0)), some (.int (x1)), some (.int (x2)), some (.int (x3)), some (.int (x4)), some (.int (x5)), some (.int (v56))]) dX7_trip_59 (by decide) rfl ?_
            refine x_iload (pc := 61) (x := v56) dX7_trip_61 rfl ?_
            refine x_bipush (pc := 63) (v := 10) dX7_trip_63 (by decide) ?_
            refine x_icmp_lt (pc := 65) (tgt := 75) (x := v56) (y := 10) dX7_trip_65 rfl (fun hc => ?_) (fun hc => ?_)
            · replace hf := it_t hc hf
              refine x_aload_n (pc := 75) (a := x0) dX7_trip_75 rfl ?_
              replace hf := bd_s hf; obtain ⟨v76, e76, hf⟩ := hf
              refine x_getR (pc := 76) dX7_trip_76 fl_7_19 e76 ?_
              refine x_iload (pc := 79) (x := v56) dX7_trip_79 rfl ?_
              refine x_iconst (pc := 81) (v := 0) dX7_trip_81 (by decide) ?_
              refine x_iload_n (pc := 82) (x := x1) dX7_trip_82 rfl ?_
              replace hf := bd_s hf; obtain ⟨u83, i83, hf⟩ := hf
              replace hf := bd_s hf; obtain ⟨h83, e83, hf⟩ := hf
              refine x_cVv (pc := 83) (M' := mX6_write) (as := [.int (v56), .int (0), .int (x1)]) (st := []) (a := v76) (ci := 6) dX7_trip_83 mo_X6_write lk_7_123 im_X6_write se_X6_write rfl ⟨Nat.le_of_ble_eq_true rfl, Nat.le_of_ble_eq_true rfl⟩ rfl (Nat.le_of_ble_eq_true rfl) rfl i83 (tm_X6_write e83) ?_
              refine x_aload_n (pc := 86) (a := x0) dX7_trip_86 rfl ?_
              replace hf := bd_s hf; obtain ⟨v87, e87, hf⟩ := hf
              refine x_getR (pc := 87) dX7_trip_87 fl_7_19 e87 ?_
              refine x_iload (pc := 90) (x := v56) dX7_trip_90 rfl ?_
              refine x_iconst (pc := 92) (v := 1) dX7_trip_92 (by decide) ?_
              refine x_iload_n (pc := 93) (x := x2) dX7_trip_93 rfl ?_
              replace hf := bd_s hf; obtain ⟨u94, i94, hf⟩ := hf
              replace hf := bd_s hf; obtain ⟨h94, e94, hf⟩ := hf
              refine x_cVv (pc := 94) (M' := mX6_write) (as := [.int (v56), .int (1), .int (x2)]) (st := []) (a := v87) (ci := 6) dX7_trip_94 mo_X6_write lk_7_123 im_X6_write se_X6_write rfl ⟨Nat.le_of_ble_eq_true rfl, Nat.le_of_ble_eq_true rfl⟩ rfl (Nat.le_of_ble_eq_true rfl) rfl i94 (tm_X6_write e94) ?_
              refine x_aload_n (pc := 97) (a := x0) dX7_trip_97 rfl ?_
              replace hf := bd_s hf; obtain ⟨v98, e98, hf⟩ := hf
              refine x_getR (pc := 98) dX7_trip_98 fl_7_19 e98 ?_
              refine x_iload (pc := 101) (x := v56) dX7_trip_101 rfl ?_
              refine x_iconst (pc := 103) (v := 2) dX7_trip_103 (by decide) ?_
              refine x_iload_n (pc := 104) (x := x3) dX7_trip_104 rfl ?_
              replace hf := bd_s hf; obtain ⟨u105, i105, hf⟩ := hf
              replace hf := bd_s hf; obtain ⟨h105, e105, hf⟩ := hf
              refine x_cVv (pc := 105) (M' := mX6_write) (as := [.int (v56), .int (2), .int (x3)]) (st := []) (a := v98) (ci := 6) dX7_trip_105 mo_X6_write lk_7_123 im_X6_write se_X6_write rfl ⟨Nat.le_of_ble_eq_true rfl, Nat.le_of_ble_eq_true rfl⟩ rfl (Nat.le_of_ble_eq_true rfl) rfl i105 (tm_X6_write e105) ?_
              refine x_aload_n (pc := 108) (a := x0) dX7_trip_108 rfl ?_
              replace hf := bd_s hf; obtain ⟨v109, e109, hf⟩ := hf
              refine x_getR (pc := 109) dX7_trip_109 fl_7_19 e109 ?_
              refine x_iload (pc := 112) (x := v56) dX7_trip_112 rfl ?_
              refine x_iconst (pc := 114) (v := 3) dX7_trip_114 (by decide) ?_
              refine x_iload (pc := 115) (x := x4) dX7_trip_115 rfl ?_
              replace hf := bd_s hf; obtain ⟨u117, i117, hf⟩ := hf
              replace hf := bd_s hf; obtain ⟨h117, e117, hf⟩ := hf
              refine x_cVv (pc := 117) (M' := mX6_write) (as := [.int (v56), .int (3), .int (x4)]) (st := []) (a := v109) (ci := 6) dX7_trip_117 mo_X6_write lk_7_123 im_X6_write se_X6_write rfl ⟨Nat.le_of_ble_eq_true rfl, Nat.le_of_ble_eq_true rfl⟩ rfl (Nat.le_of_ble_eq_true rfl) rfl i117 (tm_X6_write e117) ?_
              refine x_aload_n (pc := 120) (a := x0) dX7_trip_120 rfl ?_
              replace hf := bd_s hf; obtain ⟨v121, e121, hf⟩ := hf
              refine x_getR (pc := 121) dX7_trip_121 fl_7_19 e121 ?_
              refine x_iload (pc := 124) (x := v56) dX7_trip_124 rfl ?_
              refine x_iconst (pc := 126) (v := 4) dX7_trip_126 (by decide) ?_
              refine x_iload (pc := 127) (x := x5) dX7_trip_127 rfl ?_
              replace hf := bd_s hf; obtain ⟨u129, i129, hf⟩ := hf
              replace hf := bd_s hf; obtain ⟨h129, e129, hf⟩ := hf
              refine x_cVv (pc := 129) (M' := mX6_write) (as := [.int (v56), .int (4), .int (x5)]) (st := []) (a := v121) (ci := 6) dX7_trip_129 mo_X6_write lk_7_123 im_X6_write se_X6_write rfl ⟨Nat.le_of_ble_eq_true rfl, Nat.le_of_ble_eq_true rfl⟩ rfl (Nat.le_of_ble_eq_true rfl) rfl i129 (tm_X6_write e129) ?_
              refine x_aload_n (pc := 132) (a := x0) dX7_trip_132 rfl ?_
              replace hf := bd_s hf; obtain ⟨v133, e133, hf⟩ := hf
              refine x_getR (pc := 133) dX7_trip_133 fl_7_19 e133 ?_
              refine x_iload (pc := 136) (x := v56) dX7_trip_136 rfl ?_
              replace hf := bd_s hf; obtain ⟨u138, i138, hf⟩ := hf
              replace hf := bd_s hf; obtain ⟨h138, e138, hf⟩ := hf
              refine x_cVv (pc := 138) (M' := mX6_clearNights) (as := [.int (v56)]) (st := []) (a := v133) (ci := 6) dX7_trip_138 mo_X6_clearNights lk_7_127 im_X6_clearNights se_X6_clearNights rfl ⟨Nat.le_of_ble_eq_true rfl, Nat.le_of_ble_eq_true rfl⟩ rfl (Nat.le_of_ble_eq_true rfl) rfl i138 (tm_X6_clearNights e138) ?_
              refine x_aload_n (pc := 141) (a := x0) dX7_trip_141 rfl ?_
              refine x_aload_n (pc := 142) (a := x0) dX7_trip_142 rfl ?_
              replace hf := bd_s hf; obtain ⟨v143, e143, hf⟩ := hf
              refine x_getR (pc := 143) dX7_trip_143 fl_7_19 e143 ?_
              replace hf := bd_s hf; obtain ⟨v146, e146, hf⟩ := hf
              refine x_getR (pc := 146) dX7_trip_146 fl_7_131 e146 ?_
              refine x_iconst (pc := 149) (v := 0) dX7_trip_149 (by decide) ?_
              refine x_iload (pc := 150) (x := v56) dX7_trip_150 rfl ?_
              refine x_iconst (pc := 152) (v := 1) dX7_trip_152 (by decide) ?_
              refine x_iadd (pc := 153) dX7_trip_153 ?_
              replace hf := bd_s hf; obtain ⟨u154, i154, hf⟩ := hf
              replace hf := bd2_s hf; obtain ⟨v154, h154, e154, hf⟩ := hf
              refine x_cVi (pc := 154) (M' := mX7_change) (as := [va_rf (v146), .int (0), .int (v56 + 1)]) (st := []) (a := x0) (ci := 7) dX7_trip_154 mo_X7_change lk_7_68 im_X7_change se_X7_change rfl ⟨Nat.le_of_ble_eq_true rfl, Nat.le_of_ble_eq_true rfl⟩ rfl (Nat.le_of_ble_eq_true rfl) rfl i154 (tm_X7_change e154) ?_
              obtain ⟨rfl, rfl⟩ := ret_s hf
              exact x_reti (pc := 157) dX7_trip_157 rfl
            · replace hf := it_f hc hf
              refine x_aload_n (pc := 68) (a := x0) dX7_trip_68 rfl ?_
              refine x_ldc (pc := 69) (v := -100005) dX7_trip_69 kc_7_75 ?_
              replace hf := bd_s hf; obtain ⟨u71, i71, hf⟩ := hf
              replace hf := bd2_s hf; obtain ⟨v71, h71, e71, hf⟩ := hf
              refine x_cVi (pc := 71) (M' := mX7_finding) (as := [.int ((-100005))]) (st := []) (a := x0) (ci := 7) dX7_trip_71 mo_X7_finding lk_7_60 im_X7_finding se_X7_finding rfl ⟨Nat.le_of_ble_eq_true rfl, Nat.le_of_ble_eq_true rfl⟩ rfl (Nat.le_of_ble_eq_true rfl) rfl i71 (tm_X7_finding e71) ?_
              obtain ⟨rfl, rfl⟩ := ret_s hf
              exact x_reti (pc := 74) dX7_trip_74 rfl
          · replace hf := it_n hc hf
            refine x_aload_n (pc := 45) (a := x0) dX7_trip_45 rfl ?_
            refine x_ldc (pc := 46) (v := -100001) dX7_trip_46 kc_7_59 ?_
            replace hf := bd_s hf; obtain ⟨u48, i48, hf⟩ := hf
            replace hf := bd2_s hf; obtain ⟨v48, h48, e48, hf⟩ := hf
            refine x_cVi (pc := 48) (M' := mX7_finding) (as := [.int ((-100001))]) (st := []) (a := x0) (ci := 7) dX7_trip_48 mo_X7_finding lk_7_60 im_X7_finding se_X7_finding rfl ⟨Nat.le_of_ble_eq_true rfl, Nat.le_of_ble_eq_true rfl⟩ rfl (Nat.le_of_ble_eq_true rfl) rfl i48 (tm_X7_finding e48) ?_
            obtain ⟨rfl, rfl⟩ := ret_s hf
            exact x_reti (pc := 51) dX7_trip_51 rfl

def f_X7_turn (h : AH) (x0 : Option Nat) (x1 : Int32) (x2 : Int32) : Option (Int32 × AH) :=
  bd (isO h x0 7) fun _ =>
  bd2 (f_X7_isApplicant h x0 x2) fun v2 h2 =>
  if ¬ v2 = 0 then (
    bd (gR h2 x0 7 3) fun v16 =>
    bd (isO h2 v16 0) fun _ =>
    bd (f_X0_draw h2 v16 x1) fun h20 =>
    bd (gR h20 x0 7 3) fun v24 =>
    bd (isO h20 v24 0) fun _ =>
    bd2 (f_X0_placeOf h20 v24 x2) fun v28 h28 =>
    some (v28, h28)
  ) else (
    bd (isO h2 x0 7) fun _ =>
    bd2 (f_X7_finding h2 x0 (-100001)) fun v11 h11 =>
    some (v11, h11)
  )

set_option maxRecDepth 100000 in
set_option maxHeartbeats 4000000 in
theorem tm_X7_turn {g : GT} {h : AH} {x0 : Option Nat} {x1 : Int32} {x2 : Int32} {r : Int32} {h' : AH} (hf : f_X7_turn h x0 x1 x2 = some (r, h')) : Xm g mX7_turn [va_rf (x0), .int (x1), .int (x2)] h (some (.int r)) h' := by
  refine xm_of mo_X7_turn (Nat.le_of_ble_eq_true rfl) (ls := [some (va_rf (x0)), some (.int (x1)), some (.int (x2))]) rfl ?_
  rw [f_X7_turn] at hf
  refine x_aload_n (pc := 0) (a := x0) dX7_turn_0 rfl ?_
  refine x_iload_n (pc := 1) (x := x2) dX7_turn_1 rfl ?_
  replace hf := bd_s hf; obtain ⟨u2, i2, hf⟩ := hf
  replace hf := bd2_s hf; obtain ⟨v2, h2, e2, hf⟩ := hf
  refine x_cVi (pc := 2) (M' := mX7_isApplicant) (as := [.int (x2)]) (st := []) (a := x0) (ci := 7) dX7_turn_2 mo_X7_isApplicant lk_7_207 im_X7_isApplicant se_X7_isApplicant rfl ⟨Nat.le_of_ble_eq_true rfl, Nat.le_of_ble_eq_true rfl⟩ rfl (Nat.le_of_ble_eq_true rfl) rfl i2 (tm_X7_isApplicant e2) ?_
  refine x_if_ne (pc := 5) (tgt := 15) (x := v2) dX7_turn_5 rfl (fun hc => ?_) (fun hc => ?_)
  · replace hf := it_t hc hf
    refine x_aload_n (pc := 15) (a := x0) dX7_turn_15 rfl ?_
    replace hf := bd_s hf; obtain ⟨v16, e16, hf⟩ := hf
    refine x_getR (pc := 16) dX7_turn_16 fl_7_33 e16 ?_
    refine x_iload_n (pc := 19) (x := x1) dX7_turn_19 rfl ?_
    replace hf := bd_s hf; obtain ⟨u20, i20, hf⟩ := hf
    replace hf := bd_s hf; obtain ⟨h20, e20, hf⟩ := hf
    refine x_cVv (pc := 20) (M' := mX0_draw) (as := [.int (x1)]) (st := []) (a := v16) (ci := 0) dX7_turn_20 mo_X0_draw lk_7_219 im_X0_draw se_X0_draw rfl ⟨Nat.le_of_ble_eq_true rfl, Nat.le_of_ble_eq_true rfl⟩ rfl (Nat.le_of_ble_eq_true rfl) rfl i20 (tm_X0_draw e20) ?_
    refine x_aload_n (pc := 23) (a := x0) dX7_turn_23 rfl ?_
    replace hf := bd_s hf; obtain ⟨v24, e24, hf⟩ := hf
    refine x_getR (pc := 24) dX7_turn_24 fl_7_33 e24 ?_
    refine x_iload_n (pc := 27) (x := x2) dX7_turn_27 rfl ?_
    replace hf := bd_s hf; obtain ⟨u28, i28, hf⟩ := hf
    replace hf := bd2_s hf; obtain ⟨v28, h28, e28, hf⟩ := hf
    refine x_cVi (pc := 28) (M' := mX0_placeOf) (as := [.int (x2)]) (st := []) (a := v24) (ci := 0) dX7_turn_28 mo_X0_placeOf lk_7_225 im_X0_placeOf se_X0_placeOf rfl ⟨Nat.le_of_ble_eq_true rfl, Nat.le_of_ble_eq_true rfl⟩ rfl (Nat.le_of_ble_eq_true rfl) rfl i28 (tm_X0_placeOf e28) ?_
    obtain ⟨rfl, rfl⟩ := ret_s hf
    exact x_reti (pc := 31) dX7_turn_31 rfl
  · replace hf := it_n hc hf
    refine x_aload_n (pc := 8) (a := x0) dX7_turn_8 rfl ?_
    refine x_ldc (pc := 9) (v := -100001) dX7_turn_9 kc_7_59 ?_
    replace hf := bd_s hf; obtain ⟨u11, i11, hf⟩ := hf
    replace hf := bd2_s hf; obtain ⟨v11, h11, e11, hf⟩ := hf
    refine x_cVi (pc := 11) (M' := mX7_finding) (as := [.int ((-100001))]) (st := []) (a := x0) (ci := 7) dX7_turn_11 mo_X7_finding lk_7_60 im_X7_finding se_X7_finding rfl ⟨Nat.le_of_ble_eq_true rfl, Nat.le_of_ble_eq_true rfl⟩ rfl (Nat.le_of_ble_eq_true rfl) rfl i11 (tm_X7_finding e11) ?_
    obtain ⟨rfl, rfl⟩ := ret_s hf
    exact x_reti (pc := 14) dX7_turn_14 rfl

def f_X7_undo (h : AH) (x0 : Option Nat) : Option (Int32 × AH) :=
  bd (gR h x0 7 4) fun v1 =>
  bd (isO h v1 1) fun _ =>
  bd2 (f_X1_bringBack h v1) fun v4 h4 =>
  if v4 = 0 then (
    bd (isO h4 x0 7) fun _ =>
    bd2 (f_X7_finding h4 x0 (-100006)) fun v23 h23 =>
    some (v23, h23)
  ) else (
    bd (gR h4 x0 7 4) fun v11 =>
    bd (gI h4 v11 1 2) fun v14 =>
    some (v14, h4)
  )

set_option maxRecDepth 100000 in
set_option maxHeartbeats 4000000 in
theorem tm_X7_undo {g : GT} {h : AH} {x0 : Option Nat} {r : Int32} {h' : AH} (hf : f_X7_undo h x0 = some (r, h')) : Xm g mX7_undo [va_rf (x0)] h (some (.int r)) h' := by
  refine xm_of mo_X7_undo (Nat.le_of_ble_eq_true rfl) (ls := [some (va_rf (x0))]) rfl ?_
  rw [f_X7_undo] at hf
  refine x_aload_n (pc := 0) (a := x0) dX7_undo_0 rfl ?_
  replace hf := bd_s hf; obtain ⟨v1, e1, hf⟩ := hf
  refine x_getR (pc := 1) dX7_undo_1 fl_7_40 e1 ?_
  replace hf := bd_s hf; obtain ⟨u4, i4, hf⟩ := hf
  replace hf := bd2_s hf; obtain ⟨v4, h4, e4, hf⟩ := hf
  refine x_cVi (pc := 4) (M' := mX1_bringBack) (as := []) (st := []) (a := v1) (ci := 1) dX7_undo_4 mo_X1_bringBack lk_7_264 im_X1_bringBack se_X1_bringBack rfl ⟨Nat.le_of_ble_eq_true rfl, Nat.le_of_ble_eq_true rfl⟩ rfl (Nat.le_of_ble_eq_true rfl) rfl i4 (tm_X1_bringBack e4) ?_
  refine x_if_eq (pc := 7) (tgt := 20) (x := v4) dX7_undo_7 rfl (fun hc => ?_) (fun hc => ?_)
  · replace hf := it_t hc hf
    refine x_aload_n (pc := 20) (a := x0) dX7_undo_20 rfl ?_
    refine x_ldc (pc := 21) (v := -100006) dX7_undo_21 kc_7_165 ?_
    replace hf := bd_s hf; obtain ⟨u23, i23, hf⟩ := hf
    replace hf := bd2_s hf; obtain ⟨v23, h23, e23, hf⟩ := hf
    refine x_cVi (pc := 23) (M' := mX7_finding) (as := [.int ((-100006))]) (st := []) (a := x0) (ci := 7) dX7_undo_23 mo_X7_finding lk_7_60 im_X7_finding se_X7_finding rfl ⟨Nat.le_of_ble_eq_true rfl, Nat.le_of_ble_eq_true rfl⟩ rfl (Nat.le_of_ble_eq_true rfl) rfl i23 (tm_X7_finding e23) ?_
    obtain ⟨rfl, rfl⟩ := ret_s hf
    exact x_reti (pc := 26) dX7_undo_26 rfl
  · replace hf := it_f hc hf
    refine x_aload_n (pc := 10) (a := x0) dX7_undo_10 rfl ?_
    replace hf := bd_s hf; obtain ⟨v11, e11, hf⟩ := hf
    refine x_getR (pc := 11) dX7_undo_11 fl_7_40 e11 ?_
    replace hf := bd_s hf; obtain ⟨v14, e14, hf⟩ := hf
    refine x_getI (pc := 14) dX7_undo_14 fl_7_267 e14 ?_
    refine x_goto (pc := 17) (tgt := 26) dX7_undo_17 rfl ?_
    obtain ⟨rfl, rfl⟩ := ret_s hf
    exact x_reti (pc := 26) dX7_undo_26 rfl

def f_X7_water (h : AH) (x0 : Option Nat) (x1 : Int32) (x2 : Int32) (x3 : Int32) : Option (Int32 × AH) :=
  bd2 (f_X7_isDay h x1) fun v1 h1 =>
  if v1 = 0 then (
    bd (isO h1 x0 7) fun _ =>
    bd2 (f_X7_finding h1 x0 (-100001)) fun v26 h26 =>
    some (v26, h26)
  ) else (
    bd2 (f_X7_within h1 x2 0 3) fun v10 h10 =>
    if v10 = 0 then (
      bd (isO h10 x0 7) fun _ =>
      bd2 (f_X7_finding h10 x0 (-100001)) fun v26 h26 =>
      some (v26, h26)
    ) else (
      bd2 (f_X7_isWater h10 x3) fun v17 h17 =>
      if ¬ v17 = 0 then (
        bd (gR h17 x0 7 0) fun v32 =>
        bd (gR h17 v32 4 2) fun v35 =>
        bd (isO h17 x0 7) fun _ =>
        bd2 (f_X7_change h17 x0 v35 ((x1 * 4) + x2) x3) fun v44 h44 =>
        some (v44, h44)
      ) else (
        bd (isO h17 x0 7) fun _ =>
        bd2 (f_X7_finding h17 x0 (-100001)) fun v26 h26 =>
        some (v26, h26)
      )
    )
  )

set_option maxRecDepth 100000 in
set_option maxHeartbeats 4000000 in
theorem tm_X7_water {g : GT} {h : AH} {x0 : Option Nat} {x1 : Int32} {x2 : Int32} {x3 : Int32} {r : Int32} {h' : AH} (hf : f_X7_water h x0 x1 x2 x3 = some (r, h')) : Xm g mX7_water [va_rf (x0), .int (x1), .int (x2), .int (x3)] h (some (.int r)) h' := by
  refine xm_of mo_X7_water (Nat.le_of_ble_eq_true rfl) (ls := [some (va_rf (x0)), some (.int (x1)), some (.int (x2)), some (.int (x3))]) rfl ?_
  rw [f_X7_water] at hf
  refine x_iload_n (pc := 0) (x := x1) dX7_water_0 rfl ?_
  replace hf := bd2_s hf; obtain ⟨v1, h1, e1, hf⟩ := hf
  refine x_cSi (pc := 1) (M' := mX7_isDay) (as := [.int (x1)]) (st := []) dX7_water_1 mo_X7_isDay lk_7_103 sm_X7_isDay ⟨Nat.le_of_ble_eq_true rfl, Nat.le_of_ble_eq_true rfl⟩ rfl (Nat.le_of_ble_eq_true rfl) rfl (tm_X7_isDay e1) ?_
  refine x_if_eq (pc := 4) (tgt := 23) (x := v1) dX7_water_4 rfl (fun hc => ?_) (fun hc => ?_)
  · replace hf := it_t hc hf
    refine x_aload_n (pc := 23) (a := x0) dX7_water_23 rfl ?_
    refine x_ldc (pc := 24) (v := -100001) dX7_water_24 kc_7_59 ?_
    replace hf := bd_s hf; obtain ⟨u26, i26, hf⟩ := hf
    replace hf := bd2_s hf; obtain ⟨v26, h26, e26, hf⟩ := hf
    refine x_cVi (pc := 26) (M' := mX7_finding) (as := [.int ((-100001))]) (st := []) (a := x0) (ci := 7) dX7_water_26 mo_X7_finding lk_7_60 im_X7_finding se_X7_finding rfl ⟨Nat.le_of_ble_eq_true rfl, Nat.le_of_ble_eq_true rfl⟩ rfl (Nat.le_of_ble_eq_true rfl) rfl i26 (tm_X7_finding e26) ?_
    obtain ⟨rfl, rfl⟩ := ret_s hf
    exact x_reti (pc := 29) dX7_water_29 rfl
  · replace hf := it_f hc hf
    refine x_iload_n (pc := 7) (x := x2) dX7_water_7 rfl ?_
    refine x_iconst (pc := 8) (v := 0) dX7_water_8 (by decide) ?_
    refine x_iconst (pc := 9) (v := 3) dX7_water_9 (by decide) ?_
    replace hf := bd2_s hf; obtain ⟨v10, h10, e10, hf⟩ := hf
    refine x_cSi (pc := 10) (M' := mX7_within) (as := [.int (x2), .int (0), .int (3)]) (st := []) dX7_water_10 mo_X7_within lk_7_55 sm_X7_within ⟨Nat.le_of_ble_eq_true rfl, Nat.le_of_ble_eq_true rfl⟩ rfl (Nat.le_of_ble_eq_true rfl) rfl (tm_X7_within e10) ?_
    refine x_if_eq (pc := 13) (tgt := 23) (x := v10) dX7_water_13 rfl (fun hc => ?_) (fun hc => ?_)
    · replace hf := it_t hc hf
      refine x_aload_n (pc := 23) (a := x0) dX7_water_23 rfl ?_
      refine x_ldc (pc := 24) (v := -100001) dX7_water_24 kc_7_59 ?_
      replace hf := bd_s hf; obtain ⟨u26, i26, hf⟩ := hf
      replace hf := bd2_s hf; obtain ⟨v26, h26, e26, hf⟩ := hf
      refine x_cVi (pc := 26) (M' := mX7_finding) (as := [.int ((-100001))]) (st := []) (a := x0) (ci := 7) dX7_water_26 mo_X7_finding lk_7_60 im_X7_finding se_X7_finding rfl ⟨Nat.le_of_ble_eq_true rfl, Nat.le_of_ble_eq_true rfl⟩ rfl (Nat.le_of_ble_eq_true rfl) rfl i26 (tm_X7_finding e26) ?_
      obtain ⟨rfl, rfl⟩ := ret_s hf
      exact x_reti (pc := 29) dX7_water_29 rfl
    · replace hf := it_f hc hf
      refine x_iload_n (pc := 16) (x := x3) dX7_water_16 rfl ?_
      replace hf := bd2_s hf; obtain ⟨v17, h17, e17, hf⟩ := hf
      refine x_cSi (pc := 17) (M' := mX7_isWater) (as := [.int (x3)]) (st := []) dX7_water_17 mo_X7_isWater lk_7_83 sm_X7_isWater ⟨Nat.le_of_ble_eq_true rfl, Nat.le_of_ble_eq_true rfl⟩ rfl (Nat.le_of_ble_eq_true rfl) rfl (tm_X7_isWater e17) ?_
      refine x_if_ne (pc := 20) (tgt := 30) (x := v17) dX7_water_20 rfl (fun hc => ?_) (fun hc => ?_)
      · replace hf := it_t hc hf
        refine x_aload_n (pc := 30) (a := x0) dX7_water_30 rfl ?_
        refine x_aload_n (pc := 31) (a := x0) dX7_water_31 rfl ?_
        replace hf := bd_s hf; obtain ⟨v32, e32, hf⟩ := hf
        refine x_getR (pc := 32) dX7_water_32 fl_7_10 e32 ?_
        replace hf := bd_s hf; obtain ⟨v35, e35, hf⟩ := hf
        refine x_getR (pc := 35) dX7_water_35 fl_7_106 e35 ?_
        refine x_iload_n (pc := 38) (x := x1) dX7_water_38 rfl ?_
        refine x_iconst (pc := 39) (v := 4) dX7_water_39 (by decide) ?_
        refine x_imul (pc := 40) dX7_water_40 ?_
        refine x_iload_n (pc := 41) (x := x2) dX7_water_41 rfl ?_
        refine x_iadd (pc := 42) dX7_water_42 ?_
        refine x_iload_n (pc := 43) (x := x3) dX7_water_43 rfl ?_
        replace hf := bd_s hf; obtain ⟨u44, i44, hf⟩ := hf
        replace hf := bd2_s hf; obtain ⟨v44, h44, e44, hf⟩ := hf
        refine x_cVi (pc := 44) (M' := mX7_change) (as := [va_rf (v35), .int ((x1 * 4) + x2), .int (x3)]) (st := []) (a := x0) (ci := 7) dX7_water_44 mo_X7_change lk_7_68 im_X7_change se_X7_change rfl ⟨Nat.le_of_ble_eq_true rfl, Nat.le_of_ble_eq_true rfl⟩ rfl (Nat.le_of_ble_eq_true rfl) rfl i44 (tm_X7_change e44) ?_
        obtain ⟨rfl, rfl⟩ := ret_s hf
        exact x_reti (pc := 47) dX7_water_47 rfl
      · replace hf := it_n hc hf
        refine x_aload_n (pc := 23) (a := x0) dX7_water_23 rfl ?_
        refine x_ldc (pc := 24) (v := -100001) dX7_water_24 kc_7_59 ?_
        replace hf := bd_s hf; obtain ⟨u26, i26, hf⟩ := hf
        replace hf := bd2_s hf; obtain ⟨v26, h26, e26, hf⟩ := hf
        refine x_cVi (pc := 26) (M' := mX7_finding) (as := [.int ((-100001))]) (st := []) (a := x0) (ci := 7) dX7_water_26 mo_X7_finding lk_7_60 im_X7_finding se_X7_finding rfl ⟨Nat.le_of_ble_eq_true rfl, Nat.le_of_ble_eq_true rfl⟩ rfl (Nat.le_of_ble_eq_true rfl) rfl i26 (tm_X7_finding e26) ?_
        obtain ⟨rfl, rfl⟩ := ret_s hf
        exact x_reti (pc := 29) dX7_water_29 rfl

def f_X7_waterAt (h : AH) (x0 : Option Nat) (x1 : Int32) (x2 : Int32) (x3 : Int32) : Option (Int32 × AH) :=
  bd2 (f_X7_isMile h x1) fun v1 h1 =>
  if v1 = 0 then (
    bd (isO h1 x0 7) fun _ =>
    bd2 (f_X7_finding h1 x0 (-100001)) fun v27 h27 =>
    some (v27, h27)
  ) else (
    bd2 (f_X7_isDay h1 x2) fun v8 h8 =>
    if v8 = 0 then (
      bd (isO h8 x0 7) fun _ =>
      bd2 (f_X7_finding h8 x0 (-100001)) fun v27 h27 =>
      some (v27, h27)
    ) else (
      bd2 (f_X7_within h8 x3 0 23) fun v18 h18 =>
      if ¬ v18 = 0 then (
        bd (gR h18 x0 7 0) fun v32 =>
        bd (isO h18 v32 4) fun _ =>
        bd2 (f_X4_arriving h18 v32 x1 x2 x3) fun v38 h38 =>
        some (v38, h38)
      ) else (
        bd (isO h18 x0 7) fun _ =>
        bd2 (f_X7_finding h18 x0 (-100001)) fun v27 h27 =>
        some (v27, h27)
      )
    )
  )

set_option maxRecDepth 100000 in
set_option maxHeartbeats 4000000 in
theorem tm_X7_waterAt {g : GT} {h : AH} {x0 : Option Nat} {x1 : Int32} {x2 : Int32} {x3 : Int32} {r : Int32} {h' : AH} (hf : f_X7_waterAt h x0 x1 x2 x3 = some (r, h')) : Xm g mX7_waterAt [va_rf (x0), .int (x1), .int (x2), .int (x3)] h (some (.int r)) h' := by
  refine xm_of mo_X7_waterAt (Nat.le_of_ble_eq_true rfl) (ls := [some (va_rf (x0)), some (.int (x1)), some (.int (x2)), some (.int (x3))]) rfl ?_
  rw [f_X7_waterAt] at hf
  refine x_iload_n (pc := 0) (x := x1) dX7_waterAt_0 rfl ?_
  replace hf := bd2_s hf; obtain ⟨v1, h1, e1, hf⟩ := hf
  refine x_cSi (pc := 1) (M' := mX7_isMile) (as := [.int (x1)]) (st := []) dX7_waterAt_1 mo_X7_isMile lk_7_97 sm_X7_isMile ⟨Nat.le_of_ble_eq_true rfl, Nat.le_of_ble_eq_true rfl⟩ rfl (Nat.le_of_ble_eq_true rfl) rfl (tm_X7_isMile e1) ?_
  refine x_if_eq (pc := 4) (tgt := 24) (x := v1) dX7_waterAt_4 rfl (fun hc => ?_) (fun hc => ?_)
  · replace hf := it_t hc hf
    refine x_aload_n (pc := 24) (a := x0) dX7_waterAt_24 rfl ?_
    refine x_ldc (pc := 25) (v := -100001) dX7_waterAt_25 kc_7_59 ?_
    replace hf := bd_s hf; obtain ⟨u27, i27, hf⟩ := hf
    replace hf := bd2_s hf; obtain ⟨v27, h27, e27, hf⟩ := hf
    refine x_cVi (pc := 27) (M' := mX7_finding) (as := [.int ((-100001))]) (st := []) (a := x0) (ci := 7) dX7_waterAt_27 mo_X7_finding lk_7_60 im_X7_finding se_X7_finding rfl ⟨Nat.le_of_ble_eq_true rfl, Nat.le_of_ble_eq_true rfl⟩ rfl (Nat.le_of_ble_eq_true rfl) rfl i27 (tm_X7_finding e27) ?_
    obtain ⟨rfl, rfl⟩ := ret_s hf
    exact x_reti (pc := 30) dX7_waterAt_30 rfl
  · replace hf := it_f hc hf
    refine x_iload_n (pc := 7) (x := x2) dX7_waterAt_7 rfl ?_
    replace hf := bd2_s hf; obtain ⟨v8, h8, e8, hf⟩ := hf
    refine x_cSi (pc := 8) (M' := mX7_isDay) (as := [.int (x2)]) (st := []) dX7_waterAt_8 mo_X7_isDay lk_7_103 sm_X7_isDay ⟨Nat.le_of_ble_eq_true rfl, Nat.le_of_ble_eq_true rfl⟩ rfl (Nat.le_of_ble_eq_true rfl) rfl (tm_X7_isDay e8) ?_
    refine x_if_eq (pc := 11) (tgt := 24) (x := v8) dX7_waterAt_11 rfl (fun hc => ?_) (fun hc => ?_)
    · replace hf := it_t hc hf
      refine x_aload_n (pc := 24) (a := x0) dX7_waterAt_24 rfl ?_
      refine x_ldc (pc := 25) (v := -100001) dX7_waterAt_25 kc_7_59 ?_
      replace hf := bd_s hf; obtain ⟨u27, i27, hf⟩ := hf
      replace hf := bd2_s hf; obtain ⟨v27, h27, e27, hf⟩ := hf
      refine x_cVi (pc := 27) (M' := mX7_finding) (as := [.int ((-100001))]) (st := []) (a := x0) (ci := 7) dX7_waterAt_27 mo_X7_finding lk_7_60 im_X7_finding se_X7_finding rfl ⟨Nat.le_of_ble_eq_true rfl, Nat.le_of_ble_eq_true rfl⟩ rfl (Nat.le_of_ble_eq_true rfl) rfl i27 (tm_X7_finding e27) ?_
      obtain ⟨rfl, rfl⟩ := ret_s hf
      exact x_reti (pc := 30) dX7_waterAt_30 rfl
    · replace hf := it_f hc hf
      refine x_iload_n (pc := 14) (x := x3) dX7_waterAt_14 rfl ?_
      refine x_iconst (pc := 15) (v := 0) dX7_waterAt_15 (by decide) ?_
      refine x_bipush (pc := 16) (v := 23) dX7_waterAt_16 (by decide) ?_
      replace hf := bd2_s hf; obtain ⟨v18, h18, e18, hf⟩ := hf
      refine x_cSi (pc := 18) (M' := mX7_within) (as := [.int (x3), .int (0), .int (23)]) (st := []) dX7_waterAt_18 mo_X7_within lk_7_55 sm_X7_within ⟨Nat.le_of_ble_eq_true rfl, Nat.le_of_ble_eq_true rfl⟩ rfl (Nat.le_of_ble_eq_true rfl) rfl (tm_X7_within e18) ?_
      refine x_if_ne (pc := 21) (tgt := 31) (x := v18) dX7_waterAt_21 rfl (fun hc => ?_) (fun hc => ?_)
      · replace hf := it_t hc hf
        refine x_aload_n (pc := 31) (a := x0) dX7_waterAt_31 rfl ?_
        replace hf := bd_s hf; obtain ⟨v32, e32, hf⟩ := hf
        refine x_getR (pc := 32) dX7_waterAt_32 fl_7_10 e32 ?_
        refine x_iload_n (pc := 35) (x := x1) dX7_waterAt_35 rfl ?_
        refine x_iload_n (pc := 36) (x := x2) dX7_waterAt_36 rfl ?_
        refine x_iload_n (pc := 37) (x := x3) dX7_waterAt_37 rfl ?_
        replace hf := bd_s hf; obtain ⟨u38, i38, hf⟩ := hf
        replace hf := bd2_s hf; obtain ⟨v38, h38, e38, hf⟩ := hf
        refine x_cVi (pc := 38) (M' := mX4_arriving) (as := [.int (x1), .int (x2), .int (x3)]) (st := []) (a := v32) (ci := 4) dX7_waterAt_38 mo_X4_arriving lk_7_109 im_X4_arriving se_X4_arriving rfl ⟨Nat.le_of_ble_eq_true rfl, Nat.le_of_ble_eq_true rfl⟩ rfl (Nat.le_of_ble_eq_true rfl) rfl i38 (tm_X4_arriving e38) ?_
        obtain ⟨rfl, rfl⟩ := ret_s hf
        exact x_reti (pc := 41) dX7_waterAt_41 rfl
      · replace hf := it_n hc hf
        refine x_aload_n (pc := 24) (a := x0) dX7_waterAt_24 rfl ?_
        refine x_ldc (pc := 25) (v := -100001) dX7_waterAt_25 kc_7_59 ?_
        replace hf := bd_s hf; obtain ⟨u27, i27, hf⟩ := hf
        replace hf := bd2_s hf; obtain ⟨v27, h27, e27, hf⟩ := hf
        refine x_cVi (pc := 27) (M' := mX7_finding) (as := [.int ((-100001))]) (st := []) (a := x0) (ci := 7) dX7_waterAt_27 mo_X7_finding lk_7_60 im_X7_finding se_X7_finding rfl ⟨Nat.le_of_ble_eq_true rfl, Nat.le_of_ble_eq_true rfl⟩ rfl (Nat.le_of_ble_eq_true rfl) rfl i27 (tm_X7_finding e27) ?_
        obtain ⟨rfl, rfl⟩ := ret_s hf
        exact x_reti (pc := 30) dX7_waterAt_30 rfl

def f_X7_weigh (h : AH) (x0 : Option Nat) (x1 : Int32) (x2 : Int32) : Option (Int32 × AH) :=
  bd (isO h x0 7) fun _ =>
  bd2 (f_X7_isApplicant h x0 x1) fun v2 h2 =>
  if v2 = 0 then (
    bd (isO h2 x0 7) fun _ =>
    bd2 (f_X7_finding h2 x0 (-100001)) fun v21 h21 =>
    some (v21, h21)
  ) else (
    bd2 (f_X7_within h2 x2 1 99) fun v12 h12 =>
    if ¬ v12 = 0 then (
      bd (gR h12 x0 7 3) fun v27 =>
      bd (gR h12 v27 0 1) fun v30 =>
      bd (isO h12 x0 7) fun _ =>
      bd2 (f_X7_change h12 x0 v30 x1 x2) fun v35 h35 =>
      some (v35, h35)
    ) else (
      bd (isO h12 x0 7) fun _ =>
      bd2 (f_X7_finding h12 x0 (-100001)) fun v21 h21 =>
      some (v21, h21)
    )
  )

set_option maxRecDepth 100000 in
set_option maxHeartbeats 4000000 in
theorem tm_X7_weigh {g : GT} {h : AH} {x0 : Option Nat} {x1 : Int32} {x2 : Int32} {r : Int32} {h' : AH} (hf : f_X7_weigh h x0 x1 x2 = some (r, h')) : Xm g mX7_weigh [va_rf (x0), .int (x1), .int (x2)] h (some (.int r)) h' := by
  refine xm_of mo_X7_weigh (Nat.le_of_ble_eq_true rfl) (ls := [some (va_rf (x0)), some (.int (x1)), some (.int (x2))]) rfl ?_
  rw [f_X7_weigh] at hf
  refine x_aload_n (pc := 0) (a := x0) dX7_weigh_0 rfl ?_
  refine x_iload_n (pc := 1) (x := x1) dX7_weigh_1 rfl ?_
  replace hf := bd_s hf; obtain ⟨u2, i2, hf⟩ := hf
  replace hf := bd2_s hf; obtain ⟨v2, h2, e2, hf⟩ := hf
  refine x_cVi (pc := 2) (M' := mX7_isApplicant) (as := [.int (x1)]) (st := []) (a := x0) (ci := 7) dX7_weigh_2 mo_X7_isApplicant lk_7_207 im_X7_isApplicant se_X7_isApplicant rfl ⟨Nat.le_of_ble_eq_true rfl, Nat.le_of_ble_eq_true rfl⟩ rfl (Nat.le_of_ble_eq_true rfl) rfl i2 (tm_X7_isApplicant e2) ?_
  refine x_if_eq (pc := 5) (tgt := 18) (x := v2) dX7_weigh_5 rfl (fun hc => ?_) (fun hc => ?_)
  · replace hf := it_t hc hf
    refine x_aload_n (pc := 18) (a := x0) dX7_weigh_18 rfl ?_
    refine x_ldc (pc := 19) (v := -100001) dX7_weigh_19 kc_7_59 ?_
    replace hf := bd_s hf; obtain ⟨u21, i21, hf⟩ := hf
    replace hf := bd2_s hf; obtain ⟨v21, h21, e21, hf⟩ := hf
    refine x_cVi (pc := 21) (M' := mX7_finding) (as := [.int ((-100001))]) (st := []) (a := x0) (ci := 7) dX7_weigh_21 mo_X7_finding lk_7_60 im_X7_finding se_X7_finding rfl ⟨Nat.le_of_ble_eq_true rfl, Nat.le_of_ble_eq_true rfl⟩ rfl (Nat.le_of_ble_eq_true rfl) rfl i21 (tm_X7_finding e21) ?_
    obtain ⟨rfl, rfl⟩ := ret_s hf
    exact x_reti (pc := 24) dX7_weigh_24 rfl
  · replace hf := it_f hc hf
    refine x_iload_n (pc := 8) (x := x2) dX7_weigh_8 rfl ?_
    refine x_iconst (pc := 9) (v := 1) dX7_weigh_9 (by decide) ?_
    refine x_bipush (pc := 10) (v := 99) dX7_weigh_10 (by decide) ?_
    replace hf := bd2_s hf; obtain ⟨v12, h12, e12, hf⟩ := hf
    refine x_cSi (pc := 12) (M' := mX7_within) (as := [.int (x2), .int (1), .int (99)]) (st := []) dX7_weigh_12 mo_X7_within lk_7_55 sm_X7_within ⟨Nat.le_of_ble_eq_true rfl, Nat.le_of_ble_eq_true rfl⟩ rfl (Nat.le_of_ble_eq_true rfl) rfl (tm_X7_within e12) ?_
    refine x_if_ne (pc := 15) (tgt := 25) (x := v12) dX7_weigh_15 rfl (fun hc => ?_) (fun hc => ?_)
    · replace hf := it_t hc hf
      refine x_aload_n (pc := 25) (a := x0) dX7_weigh_25 rfl ?_
      refine x_aload_n (pc := 26) (a := x0) dX7_weigh_26 rfl ?_
      replace hf := bd_s hf; obtain ⟨v27, e27, hf⟩ := hf
      refine x_getR (pc := 27) dX7_weigh_27 fl_7_33 e27 ?_
      replace hf := bd_s hf; obtain ⟨v30, e30, hf⟩ := hf
      refine x_getR (pc := 30) dX7_weigh_30 fl_7_203 e30 ?_
      refine x_iload_n (pc := 33) (x := x1) dX7_weigh_33 rfl ?_
      refine x_iload_n (pc := 34) (x := x2) dX7_weigh_34 rfl ?_
      replace hf := bd_s hf; obtain ⟨u35, i35, hf⟩ := hf
      replace hf := bd2_s hf; obtain ⟨v35, h35, e35, hf⟩ := hf
      refine x_cVi (pc := 35) (M' := mX7_change) (as := [va_rf (v30), .int (x1), .int (x2)]) (st := []) (a := x0) (ci := 7) dX7_weigh_35 mo_X7_change lk_7_68 im_X7_change se_X7_change rfl ⟨Nat.le_of_ble_eq_true rfl, Nat.le_of_ble_eq_true rfl⟩ rfl (Nat.le_of_ble_eq_true rfl) rfl i35 (tm_X7_change e35) ?_
      obtain ⟨rfl, rfl⟩ := ret_s hf
      exact x_reti (pc := 38) dX7_weigh_38 rfl
    · replace hf := it_n hc hf
      refine x_aload_n (pc := 18) (a := x0) dX7_weigh_18 rfl ?_
      refine x_ldc (pc := 19) (v := -100001) dX7_weigh_19 kc_7_59 ?_
      replace hf := bd_s hf; obtain ⟨u21, i21, hf⟩ := hf
      replace hf := bd2_s hf; obtain ⟨v21, h21, e21, hf⟩ := hf
      refine x_cVi (pc := 21) (M' := mX7_finding) (as := [.int ((-100001))]) (st := []) (a := x0) (ci := 7) dX7_weigh_21 mo_X7_finding lk_7_60 im_X7_finding se_X7_finding rfl ⟨Nat.le_of_ble_eq_true rfl, Nat.le_of_ble_eq_true rfl⟩ rfl (Nat.le_of_ble_eq_true rfl) rfl i21 (tm_X7_finding e21) ?_
      obtain ⟨rfl, rfl⟩ := ret_s hf
      exact x_reti (pc := 24) dX7_weigh_24 rfl

def f_X7_who (h : AH) (x0 : Option Nat) (x1 : Int32) (x2 : Int32) : Option (Int32 × AH) :=
  bd (isO h x0 7) fun _ =>
  bd2 (f_X7_isCamp h x0 x1) fun v2 h2 =>
  if v2 = 0 then (
    bd (isO h2 x0 7) fun _ =>
    bd2 (f_X7_finding h2 x0 (-100001)) fun v18 h18 =>
    some (v18, h18)
  ) else (
    bd2 (f_X7_isDay h2 x2) fun v9 h9 =>
    if ¬ v9 = 0 then (
      bd (gR h9 x0 7 1) fun v23 =>
      bd (isO h9 v23 6) fun _ =>
      bd2 (f_X6_guest h9 v23 x1 x2) fun v28 h28 =>
      if ¬ v28 = (-1) then (
        some (v28, h28)
      ) else (
        bd (isO h28 x0 7) fun _ =>
        bd2 (f_X7_finding h28 x0 (-100006)) fun v40 h40 =>
        some (v40, h40)
      )
    ) else (
      bd (isO h9 x0 7) fun _ =>
      bd2 (f_X7_finding h9 x0 (-100001)) fun v18 h18 =>
      some (v18, h18)
    )
  )

set_option maxRecDepth 100000 in
set_option maxHeartbeats 4000000 in
theorem tm_X7_who {g : GT} {h : AH} {x0 : Option Nat} {x1 : Int32} {x2 : Int32} {r : Int32} {h' : AH} (hf : f_X7_who h x0 x1 x2 = some (r, h')) : Xm g mX7_who [va_rf (x0), .int (x1), .int (x2)] h (some (.int r)) h' := by
  refine xm_of mo_X7_who (Nat.le_of_ble_eq_true rfl) (ls := [some (va_rf (x0)), some (.int (x1)), some (.int (x2)), none]) rfl ?_
  rw [f_X7_who] at hf
  refine x_aload_n (pc := 0) (a := x0) dX7_who_0 rfl ?_
  refine x_iload_n (pc := 1) (x := x1) dX7_who_1 rfl ?_
  replace hf := bd_s hf; obtain ⟨u2, i2, hf⟩ := hf
  replace hf := bd2_s hf; obtain ⟨v2, h2, e2, hf⟩ := hf
  refine x_cVi (pc := 2) (M' := mX7_isCamp) (as := [.int (x1)]) (st := []) (a := x0) (ci := 7) dX7_who_2 mo_X7_isCamp lk_7_152 im_X7_isCamp se_X7_isCamp rfl ⟨Nat.le_of_ble_eq_true rfl, Nat.le_of_ble_eq_true rfl⟩ rfl (Nat.le_of_ble_eq_true rfl) rfl i2 (tm_X7_isCamp e2) ?_
  refine x_if_eq (pc := 5) (tgt := 15) (x := v2) dX7_who_5 rfl (fun hc => ?_) (fun hc => ?_)
  · replace hf := it_t hc hf
    refine x_aload_n (pc := 15) (a := x0) dX7_who_15 rfl ?_
    refine x_ldc (pc := 16) (v := -100001) dX7_who_16 kc_7_59 ?_
    replace hf := bd_s hf; obtain ⟨u18, i18, hf⟩ := hf
    replace hf := bd2_s hf; obtain ⟨v18, h18, e18, hf⟩ := hf
    refine x_cVi (pc := 18) (M' := mX7_finding) (as := [.int ((-100001))]) (st := []) (a := x0) (ci := 7) dX7_who_18 mo_X7_finding lk_7_60 im_X7_finding se_X7_finding rfl ⟨Nat.le_of_ble_eq_true rfl, Nat.le_of_ble_eq_true rfl⟩ rfl (Nat.le_of_ble_eq_true rfl) rfl i18 (tm_X7_finding e18) ?_
    obtain ⟨rfl, rfl⟩ := ret_s hf
    exact x_reti (pc := 21) dX7_who_21 rfl
  · replace hf := it_f hc hf
    refine x_iload_n (pc := 8) (x := x2) dX7_who_8 rfl ?_
    replace hf := bd2_s hf; obtain ⟨v9, h9, e9, hf⟩ := hf
    refine x_cSi (pc := 9) (M' := mX7_isDay) (as := [.int (x2)]) (st := []) dX7_who_9 mo_X7_isDay lk_7_103 sm_X7_isDay ⟨Nat.le_of_ble_eq_true rfl, Nat.le_of_ble_eq_true rfl⟩ rfl (Nat.le_of_ble_eq_true rfl) rfl (tm_X7_isDay e9) ?_
    refine x_if_ne (pc := 12) (tgt := 22) (x := v9) dX7_who_12 rfl (fun hc => ?_) (fun hc => ?_)
    · replace hf := it_t hc hf
      refine x_aload_n (pc := 22) (a := x0) dX7_who_22 rfl ?_
      replace hf := bd_s hf; obtain ⟨v23, e23, hf⟩ := hf
      refine x_getR (pc := 23) dX7_who_23 fl_7_19 e23 ?_
      refine x_iload_n (pc := 26) (x := x1) dX7_who_26 rfl ?_
      refine x_iload_n (pc := 27) (x := x2) dX7_who_27 rfl ?_
      replace hf := bd_s hf; obtain ⟨u28, i28, hf⟩ := hf
      replace hf := bd2_s hf; obtain ⟨v28, h28, e28, hf⟩ := hf
      refine x_cVi (pc := 28) (M' := mX6_guest) (as := [.int (x1), .int (x2)]) (st := []) (a := v23) (ci := 6) dX7_who_28 mo_X6_guest lk_7_155 im_X6_guest se_X6_guest rfl ⟨Nat.le_of_ble_eq_true rfl, Nat.le_of_ble_eq_true rfl⟩ rfl (Nat.le_of_ble_eq_true rfl) rfl i28 (tm_X6_guest e28) ?_
      refine x_istore_n (pc := 31) (ls' := [some (va_rf (x0)), some (.int (x1)), some (.int (x2)), some (.int (v28))]) dX7_who_31 (by decide) rfl ?_
      refine x_iload_n (pc := 32) (x := v28) dX7_who_32 rfl ?_
      refine x_iconst (pc := 33) (v := -1) dX7_who_33 (by decide) ?_
      refine x_icmp_ne (pc := 34) (tgt := 46) (x := v28) (y := (-1)) dX7_who_34 rfl (fun hc => ?_) (fun hc => ?_)
      · replace hf := it_t hc hf
        refine x_iload_n (pc := 46) (x := v28) dX7_who_46 rfl ?_
        obtain ⟨rfl, rfl⟩ := ret_s hf
        exact x_reti (pc := 47) dX7_who_47 rfl
      · replace hf := it_n hc hf
        refine x_aload_n (pc := 37) (a := x0) dX7_who_37 rfl ?_
        refine x_ldc (pc := 38) (v := -100006) dX7_who_38 kc_7_165 ?_
        replace hf := bd_s hf; obtain ⟨u40, i40, hf⟩ := hf
        replace hf := bd2_s hf; obtain ⟨v40, h40, e40, hf⟩ := hf
        refine x_cVi (pc := 40) (M' := mX7_finding) (as := [.int ((-100006))]) (st := []) (a := x0) (ci := 7) dX7_who_40 mo_X7_finding lk_7_60 im_X7_finding se_X7_finding rfl ⟨Nat.le_of_ble_eq_true rfl, Nat.le_of_ble_eq_true rfl⟩ rfl (Nat.le_of_ble_eq_true rfl) rfl i40 (tm_X7_finding e40) ?_
        refine x_goto (pc := 43) (tgt := 47) dX7_who_43 rfl ?_
        obtain ⟨rfl, rfl⟩ := ret_s hf
        exact x_reti (pc := 47) dX7_who_47 rfl
    · replace hf := it_n hc hf
      refine x_aload_n (pc := 15) (a := x0) dX7_who_15 rfl ?_
      refine x_ldc (pc := 16) (v := -100001) dX7_who_16 kc_7_59 ?_
      replace hf := bd_s hf; obtain ⟨u18, i18, hf⟩ := hf
      replace hf := bd2_s hf; obtain ⟨v18, h18, e18, hf⟩ := hf
      refine x_cVi (pc := 18) (M' := mX7_finding) (as := [.int ((-100001))]) (st := []) (a := x0) (ci := 7) dX7_who_18 mo_X7_finding lk_7_60 im_X7_finding se_X7_finding rfl ⟨Nat.le_of_ble_eq_true rfl, Nat.le_of_ble_eq_true rfl⟩ rfl (Nat.le_of_ble_eq_true rfl) rfl i18 (tm_X7_finding e18) ?_
      obtain ⟨rfl, rfl⟩ := ret_s hf
      exact x_reti (pc := 21) dX7_who_21 rfl

def f_X8_finding (h : AH) (x0 : Option Nat) (x1 : Int32) : Option (Int32 × AH) :=
  bd (gI h x0 8 6) fun v2 =>
  bd (pI h x0 8 6 (v2 + 1)) fun h7 =>
  some (x1, h7)

set_option maxRecDepth 100000 in
set_option maxHeartbeats 4000000 in
theorem tm_X8_finding {g : GT} {h : AH} {x0 : Option Nat} {x1 : Int32} {r : Int32} {h' : AH} (hf : f_X8_finding h x0 x1 = some (r, h')) : Xm g mX8_finding [va_rf (x0), .int (x1)] h (some (.int r)) h' := by
  refine xm_of mo_X8_finding (Nat.le_of_ble_eq_true rfl) (ls := [some (va_rf (x0)), some (.int (x1))]) rfl ?_
  rw [f_X8_finding] at hf
  refine x_aload_n (pc := 0) (a := x0) dX8_finding_0 rfl ?_
  refine x_dup (pc := 1) dX8_finding_1 ?_
  replace hf := bd_s hf; obtain ⟨v2, e2, hf⟩ := hf
  refine x_getI (pc := 2) dX8_finding_2 fl_8_44 e2 ?_
  refine x_iconst (pc := 5) (v := 1) dX8_finding_5 (by decide) ?_
  refine x_iadd (pc := 6) dX8_finding_6 ?_
  replace hf := bd_s hf; obtain ⟨h7, e7, hf⟩ := hf
  refine x_putI (pc := 7) dX8_finding_7 fl_8_44 (fW_no rfl) e7 ?_
  refine x_iload_n (pc := 10) (x := x1) dX8_finding_10 rfl ?_
  obtain ⟨rfl, rfl⟩ := ret_s hf
  exact x_reti (pc := 11) dX8_finding_11 rfl

def f_X8_all (h : AH) (x0 : Option Nat) (x1 : Int32) : Option (Int32 × AH) :=
  if x1 = 0 then (
    bd (gR h x0 8 0) fun v41 =>
    bd (ldI h v41 2) fun v45 =>
    some (v45, h)
  ) else
  if x1 = 1 then (
    bd (gR h x0 8 0) fun v48 =>
    bd (ldI h v48 3) fun v52 =>
    some (v52, h)
  ) else
  if x1 = 2 then (
    bd (gR h x0 8 0) fun v55 =>
    bd (ldI h v55 4) fun v59 =>
    some (v59, h)
  ) else
  if x1 = 3 then (
    bd (gR h x0 8 0) fun v62 =>
    bd (ldI h v62 5) fun v66 =>
    some (v66, h)
  ) else
  if x1 = 4 then (
    bd (gR h x0 8 0) fun v69 =>
    bd (ldI h v69 6) fun v74 =>
    some (v74, h)
  ) else
  if x1 = 5 then (
    bd (gI h x0 8 6) fun v77 =>
    some (v77, h)
  ) else
  (
    bd (isO h x0 8) fun _ =>
    bd2 (f_X8_finding h x0 (-100001)) fun v84 h84 =>
    some (v84, h84)
  )

set_option maxRecDepth 100000 in
set_option maxHeartbeats 4000000 in
theorem tm_X8_all {g : GT} {h : AH} {x0 : Option Nat} {x1 : Int32} {r : Int32} {h' : AH} (hf : f_X8_all h x0 x1 = some (r, h')) : Xm g mX8_all [va_rf (x0), .int (x1)] h (some (.int r)) h' := by
  refine xm_of mo_X8_all (Nat.le_of_ble_eq_true rfl) (ls := [some (va_rf (x0)), some (.int (x1))]) rfl ?_
  rw [f_X8_all] at hf
  refine x_iload_n (pc := 0) (x := x1) dX8_all_0 rfl ?_
  by_cases hc0 : x1 = 0
  · replace hf := it_t hc0 hf
    refine x_tabK (pc := 1) (k := 0) (tgt := 40) dX8_all_1 hc0 (by decide) (by decide) (by rfl) rfl ?_
    refine x_aload_n (pc := 40) (a := x0) dX8_all_40 rfl ?_
    replace hf := bd_s hf; obtain ⟨v41, e41, hf⟩ := hf
    refine x_getR (pc := 41) dX8_all_41 fl_8_7 e41 ?_
    refine x_iconst (pc := 44) (v := 2) dX8_all_44 (by decide) ?_
    replace hf := bd_s hf; obtain ⟨v45, e45, hf⟩ := hf
    refine x_ldI (pc := 45) dX8_all_45 e45 ?_
    obtain ⟨rfl, rfl⟩ := ret_s hf
    exact x_reti (pc := 46) dX8_all_46 rfl
  replace hf := it_f hc0 hf
  by_cases hc1 : x1 = 1
  · replace hf := it_t hc1 hf
    refine x_tabK (pc := 1) (k := 1) (tgt := 47) dX8_all_1 hc1 (by decide) (by decide) (by rfl) rfl ?_
    refine x_aload_n (pc := 47) (a := x0) dX8_all_47 rfl ?_
    replace hf := bd_s hf; obtain ⟨v48, e48, hf⟩ := hf
    refine x_getR (pc := 48) dX8_all_48 fl_8_7 e48 ?_
    refine x_iconst (pc := 51) (v := 3) dX8_all_51 (by decide) ?_
    replace hf := bd_s hf; obtain ⟨v52, e52, hf⟩ := hf
    refine x_ldI (pc := 52) dX8_all_52 e52 ?_
    obtain ⟨rfl, rfl⟩ := ret_s hf
    exact x_reti (pc := 53) dX8_all_53 rfl
  replace hf := it_f hc1 hf
  by_cases hc2 : x1 = 2
  · replace hf := it_t hc2 hf
    refine x_tabK (pc := 1) (k := 2) (tgt := 54) dX8_all_1 hc2 (by decide) (by decide) (by rfl) rfl ?_
    refine x_aload_n (pc := 54) (a := x0) dX8_all_54 rfl ?_
    replace hf := bd_s hf; obtain ⟨v55, e55, hf⟩ := hf
    refine x_getR (pc := 55) dX8_all_55 fl_8_7 e55 ?_
    refine x_iconst (pc := 58) (v := 4) dX8_all_58 (by decide) ?_
    replace hf := bd_s hf; obtain ⟨v59, e59, hf⟩ := hf
    refine x_ldI (pc := 59) dX8_all_59 e59 ?_
    obtain ⟨rfl, rfl⟩ := ret_s hf
    exact x_reti (pc := 60) dX8_all_60 rfl
  replace hf := it_f hc2 hf
  by_cases hc3 : x1 = 3
  · replace hf := it_t hc3 hf
    refine x_tabK (pc := 1) (k := 3) (tgt := 61) dX8_all_1 hc3 (by decide) (by decide) (by rfl) rfl ?_
    refine x_aload_n (pc := 61) (a := x0) dX8_all_61 rfl ?_
    replace hf := bd_s hf; obtain ⟨v62, e62, hf⟩ := hf
    refine x_getR (pc := 62) dX8_all_62 fl_8_7 e62 ?_
    refine x_iconst (pc := 65) (v := 5) dX8_all_65 (by decide) ?_
    replace hf := bd_s hf; obtain ⟨v66, e66, hf⟩ := hf
    refine x_ldI (pc := 66) dX8_all_66 e66 ?_
    obtain ⟨rfl, rfl⟩ := ret_s hf
    exact x_reti (pc := 67) dX8_all_67 rfl
  replace hf := it_f hc3 hf
  by_cases hc4 : x1 = 4
  · replace hf := it_t hc4 hf
    refine x_tabK (pc := 1) (k := 4) (tgt := 68) dX8_all_1 hc4 (by decide) (by decide) (by rfl) rfl ?_
    refine x_aload_n (pc := 68) (a := x0) dX8_all_68 rfl ?_
    replace hf := bd_s hf; obtain ⟨v69, e69, hf⟩ := hf
    refine x_getR (pc := 69) dX8_all_69 fl_8_7 e69 ?_
    refine x_bipush (pc := 72) (v := 6) dX8_all_72 (by decide) ?_
    replace hf := bd_s hf; obtain ⟨v74, e74, hf⟩ := hf
    refine x_ldI (pc := 74) dX8_all_74 e74 ?_
    obtain ⟨rfl, rfl⟩ := ret_s hf
    exact x_reti (pc := 75) dX8_all_75 rfl
  replace hf := it_f hc4 hf
  by_cases hc5 : x1 = 5
  · replace hf := it_t hc5 hf
    refine x_tabK (pc := 1) (k := 5) (tgt := 76) dX8_all_1 hc5 (by decide) (by decide) (by rfl) rfl ?_
    refine x_aload_n (pc := 76) (a := x0) dX8_all_76 rfl ?_
    replace hf := bd_s hf; obtain ⟨v77, e77, hf⟩ := hf
    refine x_getI (pc := 77) dX8_all_77 fl_8_44 e77 ?_
    obtain ⟨rfl, rfl⟩ := ret_s hf
    exact x_reti (pc := 80) dX8_all_80 rfl
  replace hf := it_f hc5 hf
  refine x_tabD (pc := 1) (n := 5) (tgt := 81) dX8_all_1 (fun k hk => match k, hk with
    | 0, _ => hc0
    | 1, _ => hc1
    | 2, _ => hc2
    | 3, _ => hc3
    | 4, _ => hc4
    | 5, _ => hc5
    | k + 6, hk => absurd hk (by omega)) (by decide) rfl ?_
  refine x_aload_n (pc := 81) (a := x0) dX8_all_81 rfl ?_
  refine x_ldc (pc := 82) (v := -100001) dX8_all_82 kc_8_67 ?_
  replace hf := bd_s hf; obtain ⟨u84, i84, hf⟩ := hf
  replace hf := bd2_s hf; obtain ⟨v84, h84, e84, hf⟩ := hf
  refine x_cVi (pc := 84) (M' := mX8_finding) (as := [.int ((-100001))]) (st := []) (a := x0) (ci := 8) dX8_all_84 mo_X8_finding lk_8_56 im_X8_finding se_X8_finding rfl ⟨Nat.le_of_ble_eq_true rfl, Nat.le_of_ble_eq_true rfl⟩ rfl (Nat.le_of_ble_eq_true rfl) rfl i84 (tm_X8_finding e84) ?_
  obtain ⟨rfl, rfl⟩ := ret_s hf
  exact x_reti (pc := 87) dX8_all_87 rfl

def f_X8_isIn (h : AH) (x0 : Int32) (x1 : Int32) (x2 : Int32) : Option (Int32 × AH) :=
  if x0 < x1 then (
    some (0, h)
  ) else (
    if x2 < x0 then (
      some (0, h)
    ) else (
      some (1, h)
    )
  )

set_option maxRecDepth 100000 in
set_option maxHeartbeats 4000000 in
theorem tm_X8_isIn {g : GT} {h : AH} {x0 : Int32} {x1 : Int32} {x2 : Int32} {r : Int32} {h' : AH} (hf : f_X8_isIn h x0 x1 x2 = some (r, h')) : Xm g mX8_isIn [.int (x0), .int (x1), .int (x2)] h (some (.int r)) h' := by
  refine xm_of mo_X8_isIn (Nat.le_of_ble_eq_true rfl) (ls := [some (.int (x0)), some (.int (x1)), some (.int (x2))]) rfl ?_
  rw [f_X8_isIn] at hf
  refine x_iload_n (pc := 0) (x := x0) dX8_isIn_0 rfl ?_
  refine x_iload_n (pc := 1) (x := x1) dX8_isIn_1 rfl ?_
  refine x_icmp_lt (pc := 2) (tgt := 14) (x := x0) (y := x1) dX8_isIn_2 rfl (fun hc => ?_) (fun hc => ?_)
  · replace hf := it_t hc hf
    refine x_iconst (pc := 14) (v := 0) dX8_isIn_14 (by decide) ?_
    obtain ⟨rfl, rfl⟩ := ret_s hf
    exact x_retz (pc := 15) dX8_isIn_15 rfl (by decide)
  · replace hf := it_f hc hf
    refine x_iload_n (pc := 5) (x := x0) dX8_isIn_5 rfl ?_
    refine x_iload_n (pc := 6) (x := x2) dX8_isIn_6 rfl ?_
    refine x_icmp_gt (pc := 7) (tgt := 14) (x := x0) (y := x2) dX8_isIn_7 rfl (fun hc => ?_) (fun hc => ?_)
    · replace hf := it_t hc hf
      refine x_iconst (pc := 14) (v := 0) dX8_isIn_14 (by decide) ?_
      obtain ⟨rfl, rfl⟩ := ret_s hf
      exact x_retz (pc := 15) dX8_isIn_15 rfl (by decide)
    · replace hf := it_f hc hf
      refine x_iconst (pc := 10) (v := 1) dX8_isIn_10 (by decide) ?_
      refine x_goto (pc := 11) (tgt := 15) dX8_isIn_11 rfl ?_
      obtain ⟨rfl, rfl⟩ := ret_s hf
      exact x_retz (pc := 15) dX8_isIn_15 rfl (by decide)

def g_X8_keep_52 : Nat → AH → Option Nat → Int32 → Option AH
  | 0, _, _, _ => none
  | n + 1, h, x0, x1 =>
    if 556 ≤ x1 then (
      bd (gI h x0 8 2) fun v88 =>
      bd (pI h x0 8 2 (v88 + 1)) fun h93 =>
      some h93
    ) else (
      bd (gR h x0 8 1) fun v60 =>
      bd (gI h x0 8 2) fun v67 =>
      bd (gR h x0 8 0) fun v74 =>
      bd (ldI h v74 x1) fun v78 =>
      bd (stI h v60 ((556 * v67) + x1) v78) fun h79 =>
      g_X8_keep_52  n h79 x0 (x1 + 1)
    )

set_option maxRecDepth 100000 in
set_option maxHeartbeats 4000000 in
theorem tg_X8_keep_52 {g : GT} : ∀ (n : Nat) {h : AH} {x0 : Option Nat} {x1 : Int32} {h' : AH}, g_X8_keep_52 n h x0 x1 = some h' → Xj g mX8_keep h 52 [some (va_rf (x0)), some (.int (x1))] [] none h' := by
  intro n
  induction n with
  | zero =>
    intros
    rename_i z
    cases z
  | succ n ih =>
    intro h x0 x1 h' hf
    rw [g_X8_keep_52] at hf
    refine x_iload_n (pc := 52) (x := x1) dX8_keep_52 rfl ?_
    refine x_sipush (pc := 53) (v := 556) dX8_keep_53 (by decide) ?_
    refine x_icmp_ge (pc := 56) (tgt := 86) (x := x1) (y := 556) dX8_keep_56 rfl (fun hc => ?_) (fun hc => ?_)
    · replace hf := it_t hc hf
      refine x_aload_n (pc := 86) (a := x0) dX8_keep_86 rfl ?_
      refine x_dup (pc := 87) dX8_keep_87 ?_
      replace hf := bd_s hf; obtain ⟨v88, e88, hf⟩ := hf
      refine x_getI (pc := 88) dX8_keep_88 fl_8_52 e88 ?_
      refine x_iconst (pc := 91) (v := 1) dX8_keep_91 (by decide) ?_
      refine x_iadd (pc := 92) dX8_keep_92 ?_
      replace hf := bd_s hf; obtain ⟨h93, e93, hf⟩ := hf
      refine x_putI (pc := 93) dX8_keep_93 fl_8_52 (fW_no rfl) e93 ?_
      obtain rfl := Option.some.inj hf
      exact x_vret (pc := 96) dX8_keep_96 rfl
    · replace hf := it_f hc hf
      refine x_aload_n (pc := 59) (a := x0) dX8_keep_59 rfl ?_
      replace hf := bd_s hf; obtain ⟨v60, e60, hf⟩ := hf
      refine x_getR (pc := 60) dX8_keep_60 fl_8_13 e60 ?_
      refine x_sipush (pc := 63) (v := 556) dX8_keep_63 (by decide) ?_
      refine x_aload_n (pc := 66) (a := x0) dX8_keep_66 rfl ?_
      replace hf := bd_s hf; obtain ⟨v67, e67, hf⟩ := hf
      refine x_getI (pc := 67) dX8_keep_67 fl_8_52 e67 ?_
      refine x_imul (pc := 70) dX8_keep_70 ?_
      refine x_iload_n (pc := 71) (x := x1) dX8_keep_71 rfl ?_
      refine x_iadd (pc := 72) dX8_keep_72 ?_
      refine x_aload_n (pc := 73) (a := x0) dX8_keep_73 rfl ?_
      replace hf := bd_s hf; obtain ⟨v74, e74, hf⟩ := hf
      refine x_getR (pc := 74) dX8_keep_74 fl_8_7 e74 ?_
      refine x_iload_n (pc := 77) (x := x1) dX8_keep_77 rfl ?_
      replace hf := bd_s hf; obtain ⟨v78, e78, hf⟩ := hf
      refine x_ldI (pc := 78) dX8_keep_78 e78 ?_
      replace hf := bd_s hf; obtain ⟨h79, e79, hf⟩ := hf
      refine x_stI (pc := 79) dX8_keep_79 e79 ?_
      refine x_iinc (pc := 80) (x := x1) (v := x1 + 1) (ls' := [some (va_rf (x0)), some (.int (x1 + 1))]) dX8_keep_80 rfl rfl (by decide) rfl ?_
      refine x_goto (pc := 83) (tgt := 52) dX8_keep_83 rfl ?_
      exact ih hf

def g_X8_keep_11 : Nat → AH → Option Nat → Int32 → Option AH
  | 0, _, _, _ => none
  | n + 1, h, x0, x1 =>
    if 10564 ≤ x1 then (
      bd (gI h x0 8 2) fun v42 =>
      bd (pI h x0 8 2 (v42 - 1)) fun h47 =>
      g_X8_keep_52  NN h47 x0 0
    ) else (
      bd (gR h x0 8 1) fun v19 =>
      bd (gR h x0 8 1) fun v24 =>
      bd (ldI h v24 (x1 + 556)) fun v32 =>
      bd (stI h v19 x1 v32) fun h33 =>
      g_X8_keep_11  n h33 x0 (x1 + 1)
    )

set_option maxRecDepth 100000 in
set_option maxHeartbeats 4000000 in
theorem tg_X8_keep_11 {g : GT} : ∀ (n : Nat) {h : AH} {x0 : Option Nat} {x1 : Int32} {h' : AH}, g_X8_keep_11 n h x0 x1 = some h' → Xj g mX8_keep h 11 [some (va_rf (x0)), some (.int (x1))] [] none h' := by
  intro n
  induction n with
  | zero =>
    intros
    rename_i z
    cases z
  | succ n ih =>
    intro h x0 x1 h' hf
    rw [g_X8_keep_11] at hf
    refine x_iload_n (pc := 11) (x := x1) dX8_keep_11 rfl ?_
    refine x_sipush (pc := 12) (v := 10564) dX8_keep_12 (by decide) ?_
    refine x_icmp_ge (pc := 15) (tgt := 40) (x := x1) (y := 10564) dX8_keep_15 rfl (fun hc => ?_) (fun hc => ?_)
    · replace hf := it_t hc hf
      refine x_aload_n (pc := 40) (a := x0) dX8_keep_40 rfl ?_
      refine x_dup (pc := 41) dX8_keep_41 ?_
      replace hf := bd_s hf; obtain ⟨v42, e42, hf⟩ := hf
      refine x_getI (pc := 42) dX8_keep_42 fl_8_52 e42 ?_
      refine x_iconst (pc := 45) (v := 1) dX8_keep_45 (by decide) ?_
      refine x_isub (pc := 46) dX8_keep_46 ?_
      replace hf := bd_s hf; obtain ⟨h47, e47, hf⟩ := hf
      refine x_putI (pc := 47) dX8_keep_47 fl_8_52 (fW_no rfl) e47 ?_
      refine x_iconst (pc := 50) (v := 0) dX8_keep_50 (by decide) ?_
      refine x_istore_n (pc := 51) (ls' := [some (va_rf (x0)), some (.int (0))]) dX8_keep_51 (by decide) rfl ?_
      exact tg_X8_keep_52  NN hf
    · replace hf := it_f hc hf
      refine x_aload_n (pc := 18) (a := x0) dX8_keep_18 rfl ?_
      replace hf := bd_s hf; obtain ⟨v19, e19, hf⟩ := hf
      refine x_getR (pc := 19) dX8_keep_19 fl_8_13 e19 ?_
      refine x_iload_n (pc := 22) (x := x1) dX8_keep_22 rfl ?_
      refine x_aload_n (pc := 23) (a := x0) dX8_keep_23 rfl ?_
      replace hf := bd_s hf; obtain ⟨v24, e24, hf⟩ := hf
      refine x_getR (pc := 24) dX8_keep_24 fl_8_13 e24 ?_
      refine x_iload_n (pc := 27) (x := x1) dX8_keep_27 rfl ?_
      refine x_sipush (pc := 28) (v := 556) dX8_keep_28 (by decide) ?_
      refine x_iadd (pc := 31) dX8_keep_31 ?_
      replace hf := bd_s hf; obtain ⟨v32, e32, hf⟩ := hf
      refine x_ldI (pc := 32) dX8_keep_32 e32 ?_
      replace hf := bd_s hf; obtain ⟨h33, e33, hf⟩ := hf
      refine x_stI (pc := 33) dX8_keep_33 e33 ?_
      refine x_iinc (pc := 34) (x := x1) (v := x1 + 1) (ls' := [some (va_rf (x0)), some (.int (x1 + 1))]) dX8_keep_34 rfl rfl (by decide) rfl ?_
      refine x_goto (pc := 37) (tgt := 11) dX8_keep_37 rfl ?_
      exact ih hf

def f_X8_keep (h : AH) (x0 : Option Nat) : Option AH :=
  bd (gI h x0 8 2) fun v1 =>
  if ¬ v1 = 20 then (
    g_X8_keep_52  NN h x0 0
  ) else (
    g_X8_keep_11  NN h x0 0
  )

set_option maxRecDepth 100000 in
set_option maxHeartbeats 4000000 in
theorem tm_X8_keep {g : GT} {h : AH} {x0 : Option Nat} {h' : AH} (hf : f_X8_keep h x0 = some h') : Xm g mX8_keep [va_rf (x0)] h none h' := by
  refine xm_of mo_X8_keep (Nat.le_of_ble_eq_true rfl) (ls := [some (va_rf (x0)), none]) rfl ?_
  rw [f_X8_keep] at hf
  refine x_aload_n (pc := 0) (a := x0) dX8_keep_0 rfl ?_
  replace hf := bd_s hf; obtain ⟨v1, e1, hf⟩ := hf
  refine x_getI (pc := 1) dX8_keep_1 fl_8_52 e1 ?_
  refine x_bipush (pc := 4) (v := 20) dX8_keep_4 (by decide) ?_
  refine x_icmp_ne (pc := 6) (tgt := 50) (x := v1) (y := 20) dX8_keep_6 rfl (fun hc => ?_) (fun hc => ?_)
  · replace hf := it_t hc hf
    refine x_iconst (pc := 50) (v := 0) dX8_keep_50 (by decide) ?_
    refine x_istore_n (pc := 51) (ls' := [some (va_rf (x0)), some (.int (0))]) dX8_keep_51 (by decide) rfl ?_
    exact tg_X8_keep_52  NN hf
  · replace hf := it_n hc hf
    refine x_iconst (pc := 9) (v := 0) dX8_keep_9 (by decide) ?_
    refine x_istore_n (pc := 10) (ls' := [some (va_rf (x0)), some (.int (0))]) dX8_keep_10 (by decide) rfl ?_
    exact tg_X8_keep_11  NN hf

def f_X8_becomes (h : AH) (x0 : Option Nat) (x1 : Int32) (x2 : Int32) : Option (Int32 × AH) :=
  bd (isO h x0 8) fun _ =>
  bd (f_X8_keep h x0) fun h1 =>
  bd (gR h1 x0 8 0) fun v5 =>
  bd (ldI h1 v5 x1) fun v9 =>
  bd (gR h1 x0 8 0) fun v12 =>
  bd (stI h1 v12 x1 x2) fun h17 =>
  some (v9, h17)

set_option maxRecDepth 100000 in
set_option maxHeartbeats 4000000 in
theorem tm_X8_becomes {g : GT} {h : AH} {x0 : Option Nat} {x1 : Int32} {x2 : Int32} {r : Int32} {h' : AH} (hf : f_X8_becomes h x0 x1 x2 = some (r, h')) : Xm g mX8_becomes [va_rf (x0), .int (x1), .int (x2)] h (some (.int r)) h' := by
  refine xm_of mo_X8_becomes (Nat.le_of_ble_eq_true rfl) (ls := [some (va_rf (x0)), some (.int (x1)), some (.int (x2)), none]) rfl ?_
  rw [f_X8_becomes] at hf
  refine x_aload_n (pc := 0) (a := x0) dX8_becomes_0 rfl ?_
  replace hf := bd_s hf; obtain ⟨u1, i1, hf⟩ := hf
  replace hf := bd_s hf; obtain ⟨h1, e1, hf⟩ := hf
  refine x_cVv (pc := 1) (M' := mX8_keep) (as := []) (st := []) (a := x0) (ci := 8) dX8_becomes_1 mo_X8_keep lk_8_60 im_X8_keep se_X8_keep rfl ⟨Nat.le_of_ble_eq_true rfl, Nat.le_of_ble_eq_true rfl⟩ rfl (Nat.le_of_ble_eq_true rfl) rfl i1 (tm_X8_keep e1) ?_
  refine x_aload_n (pc := 4) (a := x0) dX8_becomes_4 rfl ?_
  replace hf := bd_s hf; obtain ⟨v5, e5, hf⟩ := hf
  refine x_getR (pc := 5) dX8_becomes_5 fl_8_7 e5 ?_
  refine x_iload_n (pc := 8) (x := x1) dX8_becomes_8 rfl ?_
  replace hf := bd_s hf; obtain ⟨v9, e9, hf⟩ := hf
  refine x_ldI (pc := 9) dX8_becomes_9 e9 ?_
  refine x_istore_n (pc := 10) (ls' := [some (va_rf (x0)), some (.int (x1)), some (.int (x2)), some (.int (v9))]) dX8_becomes_10 (by decide) rfl ?_
  refine x_aload_n (pc := 11) (a := x0) dX8_becomes_11 rfl ?_
  replace hf := bd_s hf; obtain ⟨v12, e12, hf⟩ := hf
  refine x_getR (pc := 12) dX8_becomes_12 fl_8_7 e12 ?_
  refine x_iload_n (pc := 15) (x := x1) dX8_becomes_15 rfl ?_
  refine x_iload_n (pc := 16) (x := x2) dX8_becomes_16 rfl ?_
  replace hf := bd_s hf; obtain ⟨h17, e17, hf⟩ := hf
  refine x_stI (pc := 17) dX8_becomes_17 e17 ?_
  refine x_iload_n (pc := 18) (x := v9) dX8_becomes_18 rfl ?_
  obtain ⟨rfl, rfl⟩ := ret_s hf
  exact x_reti (pc := 19) dX8_becomes_19 rfl

def f_X8_applicant (h : AH) (x0 : Option Nat) (x1 : Int32) : Option (Int32 × AH) :=
  bd2 (f_X8_isIn h x1 1 99) fun v4 h4 =>
  if ¬ v4 = 0 then (
    bd (gR h4 x0 8 0) fun v18 =>
    bd (ldI h4 v18 6) fun v23 =>
    if ¬ v23 = 12 then (
      bd (gR h4 x0 8 0) fun v40 =>
      bd (ldI h4 v40 6) fun v45 =>
      bd (isO h4 x0 8) fun _ =>
      bd2 (f_X8_becomes h4 x0 6 (v45 + 1)) fun v48 h48 =>
      bd (gR h48 x0 8 0) fun v53 =>
      bd (stI h48 v53 (544 + v48) x1) fun h62 =>
      some (v48, h62)
    ) else (
      bd (isO h4 x0 8) fun _ =>
      bd2 (f_X8_finding h4 x0 (-100005)) fun v32 h32 =>
      some (v32, h32)
    )
  ) else (
    bd (isO h4 x0 8) fun _ =>
    bd2 (f_X8_finding h4 x0 (-100001)) fun v13 h13 =>
    some (v13, h13)
  )

set_option maxRecDepth 100000 in
set_option maxHeartbeats 4000000 in
theorem tm_X8_applicant {g : GT} {h : AH} {x0 : Option Nat} {x1 : Int32} {r : Int32} {h' : AH} (hf : f_X8_applicant h x0 x1 = some (r, h')) : Xm g mX8_applicant [va_rf (x0), .int (x1)] h (some (.int r)) h' := by
  refine xm_of mo_X8_applicant (Nat.le_of_ble_eq_true rfl) (ls := [some (va_rf (x0)), some (.int (x1)), none]) rfl ?_
  rw [f_X8_applicant] at hf
  refine x_iload_n (pc := 0) (x := x1) dX8_applicant_0 rfl ?_
  refine x_iconst (pc := 1) (v := 1) dX8_applicant_1 (by decide) ?_
  refine x_bipush (pc := 2) (v := 99) dX8_applicant_2 (by decide) ?_
  replace hf := bd2_s hf; obtain ⟨v4, h4, e4, hf⟩ := hf
  refine x_cSi (pc := 4) (M' := mX8_isIn) (as := [.int (x1), .int (1), .int (99)]) (st := []) dX8_applicant_4 mo_X8_isIn lk_8_48 sm_X8_isIn ⟨Nat.le_of_ble_eq_true rfl, Nat.le_of_ble_eq_true rfl⟩ rfl (Nat.le_of_ble_eq_true rfl) rfl (tm_X8_isIn e4) ?_
  refine x_if_ne (pc := 7) (tgt := 17) (x := v4) dX8_applicant_7 rfl (fun hc => ?_) (fun hc => ?_)
  · replace hf := it_t hc hf
    refine x_aload_n (pc := 17) (a := x0) dX8_applicant_17 rfl ?_
    replace hf := bd_s hf; obtain ⟨v18, e18, hf⟩ := hf
    refine x_getR (pc := 18) dX8_applicant_18 fl_8_7 e18 ?_
    refine x_bipush (pc := 21) (v := 6) dX8_applicant_21 (by decide) ?_
    replace hf := bd_s hf; obtain ⟨v23, e23, hf⟩ := hf
    refine x_ldI (pc := 23) dX8_applicant_23 e23 ?_
    refine x_bipush (pc := 24) (v := 12) dX8_applicant_24 (by decide) ?_
    refine x_icmp_ne (pc := 26) (tgt := 36) (x := v23) (y := 12) dX8_applicant_26 rfl (fun hc => ?_) (fun hc => ?_)
    · replace hf := it_t hc hf
      refine x_aload_n (pc := 36) (a := x0) dX8_applicant_36 rfl ?_
      refine x_bipush (pc := 37) (v := 6) dX8_applicant_37 (by decide) ?_
      refine x_aload_n (pc := 39) (a := x0) dX8_applicant_39 rfl ?_
      replace hf := bd_s hf; obtain ⟨v40, e40, hf⟩ := hf
      refine x_getR (pc := 40) dX8_applicant_40 fl_8_7 e40 ?_
      refine x_bipush (pc := 43) (v := 6) dX8_applicant_43 (by decide) ?_
      replace hf := bd_s hf; obtain ⟨v45, e45, hf⟩ := hf
      refine x_ldI (pc := 45) dX8_applicant_45 e45 ?_
      refine x_iconst (pc := 46) (v := 1) dX8_applicant_46 (by decide) ?_
      refine x_iadd (pc := 47) dX8_applicant_47 ?_
      replace hf := bd_s hf; obtain ⟨u48, i48, hf⟩ := hf
      replace hf := bd2_s hf; obtain ⟨v48, h48, e48, hf⟩ := hf
      refine x_cVi (pc := 48) (M' := mX8_becomes) (as := [.int (6), .int (v45 + 1)]) (st := []) (a := x0) (ci := 8) dX8_applicant_48 mo_X8_becomes lk_8_63 im_X8_becomes se_X8_becomes rfl ⟨Nat.le_of_ble_eq_true rfl, Nat.le_of_ble_eq_true rfl⟩ rfl (Nat.le_of_ble_eq_true rfl) rfl i48 (tm_X8_becomes e48) ?_
      refine x_istore_n (pc := 51) (ls' := [some (va_rf (x0)), some (.int (x1)), some (.int (v48))]) dX8_applicant_51 (by decide) rfl ?_
      refine x_aload_n (pc := 52) (a := x0) dX8_applicant_52 rfl ?_
      replace hf := bd_s hf; obtain ⟨v53, e53, hf⟩ := hf
      refine x_getR (pc := 53) dX8_applicant_53 fl_8_7 e53 ?_
      refine x_sipush (pc := 56) (v := 544) dX8_applicant_56 (by decide) ?_
      refine x_iload_n (pc := 59) (x := v48) dX8_applicant_59 rfl ?_
      refine x_iadd (pc := 60) dX8_applicant_60 ?_
      refine x_iload_n (pc := 61) (x := x1) dX8_applicant_61 rfl ?_
      replace hf := bd_s hf; obtain ⟨h62, e62, hf⟩ := hf
      refine x_stI (pc := 62) dX8_applicant_62 e62 ?_
      refine x_iload_n (pc := 63) (x := v48) dX8_applicant_63 rfl ?_
      obtain ⟨rfl, rfl⟩ := ret_s hf
      exact x_reti (pc := 64) dX8_applicant_64 rfl
    · replace hf := it_n hc hf
      refine x_aload_n (pc := 29) (a := x0) dX8_applicant_29 rfl ?_
      refine x_ldc (pc := 30) (v := -100005) dX8_applicant_30 kc_8_68 ?_
      replace hf := bd_s hf; obtain ⟨u32, i32, hf⟩ := hf
      replace hf := bd2_s hf; obtain ⟨v32, h32, e32, hf⟩ := hf
      refine x_cVi (pc := 32) (M' := mX8_finding) (as := [.int ((-100005))]) (st := []) (a := x0) (ci := 8) dX8_applicant_32 mo_X8_finding lk_8_56 im_X8_finding se_X8_finding rfl ⟨Nat.le_of_ble_eq_true rfl, Nat.le_of_ble_eq_true rfl⟩ rfl (Nat.le_of_ble_eq_true rfl) rfl i32 (tm_X8_finding e32) ?_
      obtain ⟨rfl, rfl⟩ := ret_s hf
      exact x_reti (pc := 35) dX8_applicant_35 rfl
  · replace hf := it_n hc hf
    refine x_aload_n (pc := 10) (a := x0) dX8_applicant_10 rfl ?_
    refine x_ldc (pc := 11) (v := -100001) dX8_applicant_11 kc_8_67 ?_
    replace hf := bd_s hf; obtain ⟨u13, i13, hf⟩ := hf
    replace hf := bd2_s hf; obtain ⟨v13, h13, e13, hf⟩ := hf
    refine x_cVi (pc := 13) (M' := mX8_finding) (as := [.int ((-100001))]) (st := []) (a := x0) (ci := 8) dX8_applicant_13 mo_X8_finding lk_8_56 im_X8_finding se_X8_finding rfl ⟨Nat.le_of_ble_eq_true rfl, Nat.le_of_ble_eq_true rfl⟩ rfl (Nat.le_of_ble_eq_true rfl) rfl i13 (tm_X8_finding e13) ?_
    obtain ⟨rfl, rfl⟩ := ret_s hf
    exact x_reti (pc := 16) dX8_applicant_16 rfl

def f_X8_isTrip (h : AH) (x0 : Option Nat) (x1 : Int32) : Option (Int32 × AH) :=
  if x1 < 0 then (
    some (0, h)
  ) else (
    bd (gR h x0 8 0) fun v6 =>
    bd (ldI h v6 5) fun v10 =>
    if v10 ≤ x1 then (
      some (0, h)
    ) else (
      some (1, h)
    )
  )

set_option maxRecDepth 100000 in
set_option maxHeartbeats 4000000 in
theorem tm_X8_isTrip {g : GT} {h : AH} {x0 : Option Nat} {x1 : Int32} {r : Int32} {h' : AH} (hf : f_X8_isTrip h x0 x1 = some (r, h')) : Xm g mX8_isTrip [va_rf (x0), .int (x1)] h (some (.int r)) h' := by
  refine xm_of mo_X8_isTrip (Nat.le_of_ble_eq_true rfl) (ls := [some (va_rf (x0)), some (.int (x1))]) rfl ?_
  rw [f_X8_isTrip] at hf
  refine x_iload_n (pc := 0) (x := x1) dX8_isTrip_0 rfl ?_
  refine x_if_lt (pc := 1) (tgt := 18) (x := x1) dX8_isTrip_1 rfl (fun hc => ?_) (fun hc => ?_)
  · replace hf := it_t hc hf
    refine x_iconst (pc := 18) (v := 0) dX8_isTrip_18 (by decide) ?_
    obtain ⟨rfl, rfl⟩ := ret_s hf
    exact x_retz (pc := 19) dX8_isTrip_19 rfl (by decide)
  · replace hf := it_f hc hf
    refine x_iload_n (pc := 4) (x := x1) dX8_isTrip_4 rfl ?_
    refine x_aload_n (pc := 5) (a := x0) dX8_isTrip_5 rfl ?_
    replace hf := bd_s hf; obtain ⟨v6, e6, hf⟩ := hf
    refine x_getR (pc := 6) dX8_isTrip_6 fl_8_7 e6 ?_
    refine x_iconst (pc := 9) (v := 5) dX8_isTrip_9 (by decide) ?_
    replace hf := bd_s hf; obtain ⟨v10, e10, hf⟩ := hf
    refine x_ldI (pc := 10) dX8_isTrip_10 e10 ?_
    refine x_icmp_ge (pc := 11) (tgt := 18) (x := x1) (y := v10) dX8_isTrip_11 rfl (fun hc => ?_) (fun hc => ?_)
    · replace hf := it_t hc hf
      refine x_iconst (pc := 18) (v := 0) dX8_isTrip_18 (by decide) ?_
      obtain ⟨rfl, rfl⟩ := ret_s hf
      exact x_retz (pc := 19) dX8_isTrip_19 rfl (by decide)
    · replace hf := it_f hc hf
      refine x_iconst (pc := 14) (v := 1) dX8_isTrip_14 (by decide) ?_
      refine x_goto (pc := 15) (tgt := 19) dX8_isTrip_15 rfl ?_
      obtain ⟨rfl, rfl⟩ := ret_s hf
      exact x_retz (pc := 19) dX8_isTrip_19 rfl (by decide)

def f_X8_told (h : AH) (x0 : Option Nat) (x1 : Int32) (x2 : Int32) : Option (Int32 × AH) :=
  bd (gR h x0 8 0) fun v1 =>
  bd (ldI h v1 ((194 + (5 * x1)) + x2)) fun v13 =>
  some (v13, h)

set_option maxRecDepth 100000 in
set_option maxHeartbeats 4000000 in
theorem tm_X8_told {g : GT} {h : AH} {x0 : Option Nat} {x1 : Int32} {x2 : Int32} {r : Int32} {h' : AH} (hf : f_X8_told h x0 x1 x2 = some (r, h')) : Xm g mX8_told [va_rf (x0), .int (x1), .int (x2)] h (some (.int r)) h' := by
  refine xm_of mo_X8_told (Nat.le_of_ble_eq_true rfl) (ls := [some (va_rf (x0)), some (.int (x1)), some (.int (x2))]) rfl ?_
  rw [f_X8_told] at hf
  refine x_aload_n (pc := 0) (a := x0) dX8_told_0 rfl ?_
  replace hf := bd_s hf; obtain ⟨v1, e1, hf⟩ := hf
  refine x_getR (pc := 1) dX8_told_1 fl_8_7 e1 ?_
  refine x_sipush (pc := 4) (v := 194) dX8_told_4 (by decide) ?_
  refine x_iconst (pc := 7) (v := 5) dX8_told_7 (by decide) ?_
  refine x_iload_n (pc := 8) (x := x1) dX8_told_8 rfl ?_
  refine x_imul (pc := 9) dX8_told_9 ?_
  refine x_iadd (pc := 10) dX8_told_10 ?_
  refine x_iload_n (pc := 11) (x := x2) dX8_told_11 rfl ?_
  refine x_iadd (pc := 12) dX8_told_12 ?_
  replace hf := bd_s hf; obtain ⟨v13, e13, hf⟩ := hf
  refine x_ldI (pc := 13) dX8_told_13 e13 ?_
  obtain ⟨rfl, rfl⟩ := ret_s hf
  exact x_reti (pc := 14) dX8_told_14 rfl
