def f_X7_copy (h : AH) (x0 : Option Nat) (x1 : Int32) (x2 : Int32) (x3 : Int32) (x4 : Int32) (x5 : Int32) : Option (Int32 × AH) :=
  bd2 (f_X7_isSheet h x1) fun v1 h1 =>
  if v1 = 0 then (
    bd (isO h1 x0 7) fun _ =>
    bd2 (f_X7_finding h1 x0 (-100001)) fun v17 h17 =>
    some (v17, h17)
  ) else (
    bd2 (f_X7_isSheet h1 x3) fun v8 h8 =>
    if ¬ v8 = 0 then (
      bd (gR h8 x0 7 5) fun v22 =>
      bd (ldR h8 v22 2 x1) fun v26 =>
      bd (gR h8 x0 7 5) fun v30 =>
      bd (ldR h8 v30 2 x3) fun v34 =>
      bd (isO h8 v26 5) fun _ =>
      bd2 (f_X5_isMissing h8 v26) fun v39 h39 =>
      if ¬ v39 = 0 then (
        bd (isO h39 x0 7) fun _ =>
        bd2 (f_X7_finding h39 x0 (-100002)) fun v56 h56 =>
        some (v56, h56)
      ) else (
        bd (isO h39 v34 5) fun _ =>
        bd2 (f_X5_isMissing h39 v34) fun v47 h47 =>
        if v47 = 0 then (
          bd (gI h47 v26 5 0) fun v62 =>
          bd (gI h47 v34 5 0) fun v67 =>
          if v62 = v67 then (
            bd (isO h47 v26 5) fun _ =>
            bd2 (f_X5_has h47 v26 x2 x5) fun v85 h85 =>
            if v85 = 0 then (
              bd (isO h85 x0 7) fun _ =>
              bd2 (f_X7_finding h85 x0 (-100001)) fun v106 h106 =>
              some (v106, h106)
            ) else (
              bd (isO h85 v34 5) fun _ =>
              bd2 (f_X5_has h85 v34 x4 x5) fun v97 h97 =>
              if ¬ v97 = 0 then (
                bd (gR h97 v26 5 2) fun v112 =>
                bd (gR h97 v34 5 2) fun v118 =>
                bd (cpI h97 v112 x2 v118 x4 x5) fun h125 =>
                some (x5, h125)
              ) else (
                bd (isO h97 x0 7) fun _ =>
                bd2 (f_X7_finding h97 x0 (-100001)) fun v106 h106 =>
                some (v106, h106)
              )
            )
          ) else (
            bd (isO h47 x0 7) fun _ =>
            bd2 (f_X7_finding h47 x0 (-100004)) fun v76 h76 =>
            some (v76, h76)
          )
        ) else (
          bd (isO h47 x0 7) fun _ =>
          bd2 (f_X7_finding h47 x0 (-100002)) fun v56 h56 =>
          some (v56, h56)
        )
      )
    ) else (
      bd (isO h8 x0 7) fun _ =>
      bd2 (f_X7_finding h8 x0 (-100001)) fun v17 h17 =>
      some (v17, h17)
    )
  )

set_option maxRecDepth 100000 in
set_option maxHeartbeats 4000000 in
theorem tm_X7_copy {g : GT} {h : AH} {x0 : Option Nat} {x1 : Int32} {x2 : Int32} {x3 : Int32} {x4 : Int32} {x5 : Int32} {r : Int32} {h' : AH} (hf : f_X7_copy h x0 x1 x2 x3 x4 x5 = some (r, h')) : Xm g mX7_copy [va_rf (x0), .int (x1), .int (x2), .int (x3), .int (x4), .int (x5)] h (some (.int r)) h' := by
  refine xm_of mo_X7_copy (Nat.le_of_ble_eq_true rfl) (ls := [some (va_rf (x0)), some (.int (x1)), some (.int (x2)), some (.int (x3)), some (.int (x4)), some (.int (x5)), none, none]) rfl ?_
  rw [f_X7_copy] at hf
  refine x_iload_n (pc := 0) (x := x1) dX7_copy_0 rfl ?_
  replace hf := bd2_s hf; obtain ⟨v1, h1, e1, hf⟩ := hf
  refine x_cSi (pc := 1) (M' := mX7_isSheet) (as := [.int (x1)]) (st := []) dX7_copy_1 mo_X7_isSheet lk_7_228 sm_X7_isSheet ⟨Nat.le_of_ble_eq_true rfl, Nat.le_of_ble_eq_true rfl⟩ rfl (Nat.le_of_ble_eq_true rfl) rfl (tm_X7_isSheet e1) ?_
  refine x_if_eq (pc := 4) (tgt := 14) (x := v1) dX7_copy_4 rfl (fun hc => ?_) (fun hc => ?_)
  · replace hf := it_t hc hf
    refine x_aload_n (pc := 14) (a := x0) dX7_copy_14 rfl ?_
    refine x_ldc (pc := 15) (v := -100001) dX7_copy_15 kc_7_59 ?_
    replace hf := bd_s hf; obtain ⟨u17, i17, hf⟩ := hf
    replace hf := bd2_s hf; obtain ⟨v17, h17, e17, hf⟩ := hf
    refine x_cVi (pc := 17) (M' := mX7_finding) (as := [.int ((-100001))]) (st := []) (a := x0) (ci := 7) dX7_copy_17 mo_X7_finding lk_7_60 im_X7_finding se_X7_finding rfl ⟨Nat.le_of_ble_eq_true rfl, Nat.le_of_ble_eq_true rfl⟩ rfl (Nat.le_of_ble_eq_true rfl) rfl i17 (tm_X7_finding e17) ?_
    obtain ⟨rfl, rfl⟩ := ret_s hf
    exact x_reti (pc := 20) dX7_copy_20 rfl
  · replace hf := it_f hc hf
    refine x_iload_n (pc := 7) (x := x3) dX7_copy_7 rfl ?_
    replace hf := bd2_s hf; obtain ⟨v8, h8, e8, hf⟩ := hf
    refine x_cSi (pc := 8) (M' := mX7_isSheet) (as := [.int (x3)]) (st := []) dX7_copy_8 mo_X7_isSheet lk_7_228 sm_X7_isSheet ⟨Nat.le_of_ble_eq_true rfl, Nat.le_of_ble_eq_true rfl⟩ rfl (Nat.le_of_ble_eq_true rfl) rfl (tm_X7_isSheet e8) ?_
    refine x_if_ne (pc := 11) (tgt := 21) (x := v8) dX7_copy_11 rfl (fun hc => ?_) (fun hc => ?_)
    · replace hf := it_t hc hf
      refine x_aload_n (pc := 21) (a := x0) dX7_copy_21 rfl ?_
      replace hf := bd_s hf; obtain ⟨v22, e22, hf⟩ := hf
      refine x_getR (pc := 22) dX7_copy_22 fl_7_46 e22 ?_
      refine x_iload_n (pc := 25) (x := x1) dX7_copy_25 rfl ?_
      replace hf := bd_s hf; obtain ⟨v26, e26, hf⟩ := hf
      refine x_ldR (pc := 26) (by decide) dX7_copy_26 e26 ?_
      refine x_astore (pc := 27) (ls' := [some (va_rf (x0)), some (.int (x1)), some (.int (x2)), some (.int (x3)), some (.int (x4)), some (.int (x5)), some (va_rf (v26)), none]) dX7_copy_27 (by decide) rfl ?_
      refine x_aload_n (pc := 29) (a := x0) dX7_copy_29 rfl ?_
      replace hf := bd_s hf; obtain ⟨v30, e30, hf⟩ := hf
      refine x_getR (pc := 30) dX7_copy_30 fl_7_46 e30 ?_
      refine x_iload_n (pc := 33) (x := x3) dX7_copy_33 rfl ?_
      replace hf := bd_s hf; obtain ⟨v34, e34, hf⟩ := hf
      refine x_ldR (pc := 34) (by decide) dX7_copy_34 e34 ?_
      refine x_astore (pc := 35) (ls' := [some (va_rf (x0)), some (.int (x1)), some (.int (x2)), some (.int (x3)), some (.int (x4)), some (.int (x5)), some (va_rf (v26)), some (va_rf (v34))]) dX7_copy_35 (by decide) rfl ?_
      refine x_aload (pc := 37) (a := v26) dX7_copy_37 rfl ?_
      replace hf := bd_s hf; obtain ⟨u39, i39, hf⟩ := hf
      replace hf := bd2_s hf; obtain ⟨v39, h39, e39, hf⟩ := hf
      refine x_cVi (pc := 39) (M' := mX5_isMissing) (as := []) (st := []) (a := v26) (ci := 5) dX7_copy_39 mo_X5_isMissing lk_7_234 im_X5_isMissing se_X5_isMissing rfl ⟨Nat.le_of_ble_eq_true rfl, Nat.le_of_ble_eq_true rfl⟩ rfl (Nat.le_of_ble_eq_true rfl) rfl i39 (tm_X5_isMissing e39) ?_
      refine x_if_ne (pc := 42) (tgt := 53) (x := v39) dX7_copy_42 rfl (fun hc => ?_) (fun hc => ?_)
      · replace hf := it_t hc hf
        refine x_aload_n (pc := 53) (a := x0) dX7_copy_53 rfl ?_
        refine x_ldc (pc := 54) (v := -100002) dX7_copy_54 kc_7_238 ?_
        replace hf := bd_s hf; obtain ⟨u56, i56, hf⟩ := hf
        replace hf := bd2_s hf; obtain ⟨v56, h56, e56, hf⟩ := hf
        refine x_cVi (pc := 56) (M' := mX7_finding) (as := [.int ((-100002))]) (st := []) (a := x0) (ci := 7) dX7_copy_56 mo_X7_finding lk_7_60 im_X7_finding se_X7_finding rfl ⟨Nat.le_of_ble_eq_true rfl, Nat.le_of_ble_eq_true rfl⟩ rfl (Nat.le_of_ble_eq_true rfl) rfl i56 (tm_X7_finding e56) ?_
        obtain ⟨rfl, rfl⟩ := ret_s hf
        exact x_reti (pc := 59) dX7_copy_59 rfl
      · replace hf := it_n hc hf
        refine x_aload (pc := 45) (a := v34) dX7_copy_45 rfl ?_
        replace hf := bd_s hf; obtain ⟨u47, i47, hf⟩ := hf
        replace hf := bd2_s hf; obtain ⟨v47, h47, e47, hf⟩ := hf
        refine x_cVi (pc := 47) (M' := mX5_isMissing) (as := []) (st := []) (a := v34) (ci := 5) dX7_copy_47 mo_X5_isMissing lk_7_234 im_X5_isMissing se_X5_isMissing rfl ⟨Nat.le_of_ble_eq_true rfl, Nat.le_of_ble_eq_true rfl⟩ rfl (Nat.le_of_ble_eq_true rfl) rfl i47 (tm_X5_isMissing e47) ?_
        refine x_if_eq (pc := 50) (tgt := 60) (x := v47) dX7_copy_50 rfl (fun hc => ?_) (fun hc => ?_)
        · replace hf := it_t hc hf
          refine x_aload (pc := 60) (a := v26) dX7_copy_60 rfl ?_
          replace hf := bd_s hf; obtain ⟨v62, e62, hf⟩ := hf
          refine x_getI (pc := 62) dX7_copy_62 fl_7_247 e62 ?_
          refine x_aload (pc := 65) (a := v34) dX7_copy_65 rfl ?_
          replace hf := bd_s hf; obtain ⟨v67, e67, hf⟩ := hf
          refine x_getI (pc := 67) dX7_copy_67 fl_7_247 e67 ?_
          refine x_icmp_eq (pc := 70) (tgt := 80) (x := v62) (y := v67) dX7_copy_70 rfl (fun hc => ?_) (fun hc => ?_)
          · replace hf := it_t hc hf
            refine x_aload (pc := 80) (a := v26) dX7_copy_80 rfl ?_
            refine x_iload_n (pc := 82) (x := x2) dX7_copy_82 rfl ?_
            refine x_iload (pc := 83) (x := x5) dX7_copy_83 rfl ?_
            replace hf := bd_s hf; obtain ⟨u85, i85, hf⟩ := hf
            replace hf := bd2_s hf; obtain ⟨v85, h85, e85, hf⟩ := hf
            refine x_cVi (pc := 85) (M' := mX5_has) (as := [.int (x2), .int (x5)]) (st := []) (a := v26) (ci := 5) dX7_copy_85 mo_X5_has lk_7_250 im_X5_has se_X5_has rfl ⟨Nat.le_of_ble_eq_true rfl, Nat.le_of_ble_eq_true rfl⟩ rfl (Nat.le_of_ble_eq_true rfl) rfl i85 (tm_X5_has e85) ?_
            refine x_if_eq (pc := 88) (tgt := 103) (x := v85) dX7_copy_88 rfl (fun hc => ?_) (fun hc => ?_)
            · replace hf := it_t hc hf
              refine x_aload_n (pc := 103) (a := x0) dX7_copy_103 rfl ?_
              refine x_ldc (pc := 104) (v := -100001) dX7_copy_104 kc_7_59 ?_
              replace hf := bd_s hf; obtain ⟨u106, i106, hf⟩ := hf
              replace hf := bd2_s hf; obtain ⟨v106, h106, e106, hf⟩ := hf
              refine x_cVi (pc := 106) (M' := mX7_finding) (as := [.int ((-100001))]) (st := []) (a := x0) (ci := 7) dX7_copy_106 mo_X7_finding lk_7_60 im_X7_finding se_X7_finding rfl ⟨Nat.le_of_ble_eq_true rfl, Nat.le_of_ble_eq_true rfl⟩ rfl (Nat.le_of_ble_eq_true rfl) rfl i106 (tm_X7_finding e106) ?_
              obtain ⟨rfl, rfl⟩ := ret_s hf
              exact x_reti (pc := 109) dX7_copy_109 rfl
            · replace hf := it_f hc hf
              refine x_aload (pc := 91) (a := v34) dX7_copy_91 rfl ?_
              refine x_iload (pc := 93) (x := x4) dX7_copy_93 rfl ?_
              refine x_iload (pc := 95) (x := x5) dX7_copy_95 rfl ?_
              replace hf := bd_s hf; obtain ⟨u97, i97, hf⟩ := hf
              replace hf := bd2_s hf; obtain ⟨v97, h97, e97, hf⟩ := hf
              refine x_cVi (pc := 97) (M' := mX5_has) (as := [.int (x4), .int (x5)]) (st := []) (a := v34) (ci := 5) dX7_copy_97 mo_X5_has lk_7_250 im_X5_has se_X5_has rfl ⟨Nat.le_of_ble_eq_true rfl, Nat.le_of_ble_eq_true rfl⟩ rfl (Nat.le_of_ble_eq_true rfl) rfl i97 (tm_X5_has e97) ?_
              refine x_if_ne (pc := 100) (tgt := 110) (x := v97) dX7_copy_100 rfl (fun hc => ?_) (fun hc => ?_)
              · replace hf := it_t hc hf
                refine x_aload (pc := 110) (a := v26) dX7_copy_110 rfl ?_
                replace hf := bd_s hf; obtain ⟨v112, e112, hf⟩ := hf
                refine x_getR (pc := 112) dX7_copy_112 fl_7_241 e112 ?_
                refine x_iload_n (pc := 115) (x := x2) dX7_copy_115 rfl ?_
                refine x_aload (pc := 116) (a := v34) dX7_copy_116 rfl ?_
                replace hf := bd_s hf; obtain ⟨v118, e118, hf⟩ := hf
                refine x_getR (pc := 118) dX7_copy_118 fl_7_241 e118 ?_
                refine x_iload (pc := 121) (x := x4) dX7_copy_121 rfl ?_
                refine x_iload (pc := 123) (x := x5) dX7_copy_123 rfl ?_
                replace hf := bd_s hf; obtain ⟨h125, e125, hf⟩ := hf
                refine x_copy (pc := 125) dX7_copy_125 la_7_254 cp_1 cp_2 cp_3 (Nat.le_of_ble_eq_true rfl) (Nat.le_of_ble_eq_true rfl) e125 ?_
                refine x_iload (pc := 128) (x := x5) dX7_copy_128 rfl ?_
                obtain ⟨rfl, rfl⟩ := ret_s hf
                exact x_reti (pc := 130) dX7_copy_130 rfl
              · replace hf := it_n hc hf
                refine x_aload_n (pc := 103) (a := x0) dX7_copy_103 rfl ?_
                refine x_ldc (pc := 104) (v := -100001) dX7_copy_104 kc_7_59 ?_
                replace hf := bd_s hf; obtain ⟨u106, i106, hf⟩ := hf
                replace hf := bd2_s hf; obtain ⟨v106, h106, e106, hf⟩ := hf
                refine x_cVi (pc := 106) (M' := mX7_finding) (as := [.int ((-100001))]) (st := []) (a := x0) (ci := 7) dX7_copy_106 mo_X7_finding lk_7_60 im_X7_finding se_X7_finding rfl ⟨Nat.le_of_ble_eq_true rfl, Nat.le_of_ble_eq_true rfl⟩ rfl (Nat.le_of_ble_eq_true rfl) rfl i106 (tm_X7_finding e106) ?_
                obtain ⟨rfl, rfl⟩ := ret_s hf
                exact x_reti (pc := 109) dX7_copy_109 rfl
          · replace hf := it_f hc hf
            refine x_aload_n (pc := 73) (a := x0) dX7_copy_73 rfl ?_
            refine x_ldc (pc := 74) (v := -100004) dX7_copy_74 kc_7_144 ?_
            replace hf := bd_s hf; obtain ⟨u76, i76, hf⟩ := hf
            replace hf := bd2_s hf; obtain ⟨v76, h76, e76, hf⟩ := hf
            refine x_cVi (pc := 76) (M' := mX7_finding) (as := [.int ((-100004))]) (st := []) (a := x0) (ci := 7) dX7_copy_76 mo_X7_finding lk_7_60 im_X7_finding se_X7_finding rfl ⟨Nat.le_of_ble_eq_true rfl, Nat.le_of_ble_eq_true rfl⟩ rfl (Nat.le_of_ble_eq_true rfl) rfl i76 (tm_X7_finding e76) ?_
            obtain ⟨rfl, rfl⟩ := ret_s hf
            exact x_reti (pc := 79) dX7_copy_79 rfl
        · replace hf := it_f hc hf
          refine x_aload_n (pc := 53) (a := x0) dX7_copy_53 rfl ?_
          refine x_ldc (pc := 54) (v := -100002) dX7_copy_54 kc_7_238 ?_
          replace hf := bd_s hf; obtain ⟨u56, i56, hf⟩ := hf
          replace hf := bd2_s hf; obtain ⟨v56, h56, e56, hf⟩ := hf
          refine x_cVi (pc := 56) (M' := mX7_finding) (as := [.int ((-100002))]) (st := []) (a := x0) (ci := 7) dX7_copy_56 mo_X7_finding lk_7_60 im_X7_finding se_X7_finding rfl ⟨Nat.le_of_ble_eq_true rfl, Nat.le_of_ble_eq_true rfl⟩ rfl (Nat.le_of_ble_eq_true rfl) rfl i56 (tm_X7_finding e56) ?_
          obtain ⟨rfl, rfl⟩ := ret_s hf
          exact x_reti (pc := 59) dX7_copy_59 rfl
    · replace hf := it_n hc hf
      refine x_aload_n (pc := 14) (a := x0) dX7_copy_14 rfl ?_
      refine x_ldc (pc := 15) (v := -100001) dX7_copy_15 kc_7_59 ?_
      replace hf := bd_s hf; obtain ⟨u17, i17, hf⟩ := hf
      replace hf := bd2_s hf; obtain ⟨v17, h17, e17, hf⟩ := hf
      refine x_cVi (pc := 17) (M' := mX7_finding) (as := [.int ((-100001))]) (st := []) (a := x0) (ci := 7) dX7_copy_17 mo_X7_finding lk_7_60 im_X7_finding se_X7_finding rfl ⟨Nat.le_of_ble_eq_true rfl, Nat.le_of_ble_eq_true rfl⟩ rfl (Nat.le_of_ble_eq_true rfl) rfl i17 (tm_X7_finding e17) ?_
      obtain ⟨rfl, rfl⟩ := ret_s hf
      exact x_reti (pc := 20) dX7_copy_20 rfl

def f_X7_drawn (h : AH) (x0 : Option Nat) (x1 : Int32) (x2 : Int32) : Option (Int32 × AH) :=
  bd (isO h x0 7) fun _ =>
  bd2 (f_X7_isApplicant h x0 x2) fun v2 h2 =>
  if ¬ v2 = 0 then (
    bd (gR h2 x0 7 3) fun v16 =>
    bd (isO h2 v16 0) fun _ =>
    bd (f_X0_draw h2 v16 x1) fun h20 =>
    bd (gR h20 x0 7 3) fun v24 =>
    bd (gR h20 v24 0 2) fun v27 =>
    bd (ldI h20 v27 x2) fun v31 =>
    some (v31, h20)
  ) else (
    bd (isO h2 x0 7) fun _ =>
    bd2 (f_X7_finding h2 x0 (-100001)) fun v11 h11 =>
    some (v11, h11)
  )

set_option maxRecDepth 100000 in
set_option maxHeartbeats 4000000 in
theorem tm_X7_drawn {g : GT} {h : AH} {x0 : Option Nat} {x1 : Int32} {x2 : Int32} {r : Int32} {h' : AH} (hf : f_X7_drawn h x0 x1 x2 = some (r, h')) : Xm g mX7_drawn [va_rf (x0), .int (x1), .int (x2)] h (some (.int r)) h' := by
  refine xm_of mo_X7_drawn (Nat.le_of_ble_eq_true rfl) (ls := [some (va_rf (x0)), some (.int (x1)), some (.int (x2))]) rfl ?_
  rw [f_X7_drawn] at hf
  refine x_aload_n (pc := 0) (a := x0) dX7_drawn_0 rfl ?_
  refine x_iload_n (pc := 1) (x := x2) dX7_drawn_1 rfl ?_
  replace hf := bd_s hf; obtain ⟨u2, i2, hf⟩ := hf
  replace hf := bd2_s hf; obtain ⟨v2, h2, e2, hf⟩ := hf
  refine x_cVi (pc := 2) (M' := mX7_isApplicant) (as := [.int (x2)]) (st := []) (a := x0) (ci := 7) dX7_drawn_2 mo_X7_isApplicant lk_7_207 im_X7_isApplicant se_X7_isApplicant rfl ⟨Nat.le_of_ble_eq_true rfl, Nat.le_of_ble_eq_true rfl⟩ rfl (Nat.le_of_ble_eq_true rfl) rfl i2 (tm_X7_isApplicant e2) ?_
  refine x_if_ne (pc := 5) (tgt := 15) (x := v2) dX7_drawn_5 rfl (fun hc => ?_) (fun hc => ?_)
  · replace hf := it_t hc hf
    refine x_aload_n (pc := 15) (a := x0) dX7_drawn_15 rfl ?_
    replace hf := bd_s hf; obtain ⟨v16, e16, hf⟩ := hf
    refine x_getR (pc := 16) dX7_drawn_16 fl_7_33 e16 ?_
    refine x_iload_n (pc := 19) (x := x1) dX7_drawn_19 rfl ?_
    replace hf := bd_s hf; obtain ⟨u20, i20, hf⟩ := hf
    replace hf := bd_s hf; obtain ⟨h20, e20, hf⟩ := hf
    refine x_cVv (pc := 20) (M' := mX0_draw) (as := [.int (x1)]) (st := []) (a := v16) (ci := 0) dX7_drawn_20 mo_X0_draw lk_7_219 im_X0_draw se_X0_draw rfl ⟨Nat.le_of_ble_eq_true rfl, Nat.le_of_ble_eq_true rfl⟩ rfl (Nat.le_of_ble_eq_true rfl) rfl i20 (tm_X0_draw e20) ?_
    refine x_aload_n (pc := 23) (a := x0) dX7_drawn_23 rfl ?_
    replace hf := bd_s hf; obtain ⟨v24, e24, hf⟩ := hf
    refine x_getR (pc := 24) dX7_drawn_24 fl_7_33 e24 ?_
    replace hf := bd_s hf; obtain ⟨v27, e27, hf⟩ := hf
    refine x_getR (pc := 27) dX7_drawn_27 fl_7_222 e27 ?_
    refine x_iload_n (pc := 30) (x := x2) dX7_drawn_30 rfl ?_
    replace hf := bd_s hf; obtain ⟨v31, e31, hf⟩ := hf
    refine x_ldI (pc := 31) dX7_drawn_31 e31 ?_
    obtain ⟨rfl, rfl⟩ := ret_s hf
    exact x_reti (pc := 32) dX7_drawn_32 rfl
  · replace hf := it_n hc hf
    refine x_aload_n (pc := 8) (a := x0) dX7_drawn_8 rfl ?_
    refine x_ldc (pc := 9) (v := -100001) dX7_drawn_9 kc_7_59 ?_
    replace hf := bd_s hf; obtain ⟨u11, i11, hf⟩ := hf
    replace hf := bd2_s hf; obtain ⟨v11, h11, e11, hf⟩ := hf
    refine x_cVi (pc := 11) (M' := mX7_finding) (as := [.int ((-100001))]) (st := []) (a := x0) (ci := 7) dX7_drawn_11 mo_X7_finding lk_7_60 im_X7_finding se_X7_finding rfl ⟨Nat.le_of_ble_eq_true rfl, Nat.le_of_ble_eq_true rfl⟩ rfl (Nat.le_of_ble_eq_true rfl) rfl i11 (tm_X7_finding e11) ?_
    obtain ⟨rfl, rfl⟩ := ret_s hf
    exact x_reti (pc := 14) dX7_drawn_14 rfl

def f_X7_end (h : AH) (x0 : Option Nat) (x1 : Int32) : Option (Int32 × AH) :=
  bd2 (f_X7_within h x1 1 250) fun v5 h5 =>
  if ¬ v5 = 0 then (
    bd (gR h5 x0 7 0) fun v20 =>
    bd (gR h5 v20 4 0) fun v23 =>
    bd (isO h5 x0 7) fun _ =>
    bd2 (f_X7_change h5 x0 v23 0 x1) fun v28 h28 =>
    some (v28, h28)
  ) else (
    bd (isO h5 x0 7) fun _ =>
    bd2 (f_X7_finding h5 x0 (-100001)) fun v14 h14 =>
    some (v14, h14)
  )

set_option maxRecDepth 100000 in
set_option maxHeartbeats 4000000 in
theorem tm_X7_end {g : GT} {h : AH} {x0 : Option Nat} {x1 : Int32} {r : Int32} {h' : AH} (hf : f_X7_end h x0 x1 = some (r, h')) : Xm g mX7_end [va_rf (x0), .int (x1)] h (some (.int r)) h' := by
  refine xm_of mo_X7_end (Nat.le_of_ble_eq_true rfl) (ls := [some (va_rf (x0)), some (.int (x1))]) rfl ?_
  rw [f_X7_end] at hf
  refine x_iload_n (pc := 0) (x := x1) dX7_end_0 rfl ?_
  refine x_iconst (pc := 1) (v := 1) dX7_end_1 (by decide) ?_
  refine x_sipush (pc := 2) (v := 250) dX7_end_2 (by decide) ?_
  replace hf := bd2_s hf; obtain ⟨v5, h5, e5, hf⟩ := hf
  refine x_cSi (pc := 5) (M' := mX7_within) (as := [.int (x1), .int (1), .int (250)]) (st := []) dX7_end_5 mo_X7_within lk_7_55 sm_X7_within ⟨Nat.le_of_ble_eq_true rfl, Nat.le_of_ble_eq_true rfl⟩ rfl (Nat.le_of_ble_eq_true rfl) rfl (tm_X7_within e5) ?_
  refine x_if_ne (pc := 8) (tgt := 18) (x := v5) dX7_end_8 rfl (fun hc => ?_) (fun hc => ?_)
  · replace hf := it_t hc hf
    refine x_aload_n (pc := 18) (a := x0) dX7_end_18 rfl ?_
    refine x_aload_n (pc := 19) (a := x0) dX7_end_19 rfl ?_
    replace hf := bd_s hf; obtain ⟨v20, e20, hf⟩ := hf
    refine x_getR (pc := 20) dX7_end_20 fl_7_10 e20 ?_
    replace hf := bd_s hf; obtain ⟨v23, e23, hf⟩ := hf
    refine x_getR (pc := 23) dX7_end_23 fl_7_64 e23 ?_
    refine x_iconst (pc := 26) (v := 0) dX7_end_26 (by decide) ?_
    refine x_iload_n (pc := 27) (x := x1) dX7_end_27 rfl ?_
    replace hf := bd_s hf; obtain ⟨u28, i28, hf⟩ := hf
    replace hf := bd2_s hf; obtain ⟨v28, h28, e28, hf⟩ := hf
    refine x_cVi (pc := 28) (M' := mX7_change) (as := [va_rf (v23), .int (0), .int (x1)]) (st := []) (a := x0) (ci := 7) dX7_end_28 mo_X7_change lk_7_68 im_X7_change se_X7_change rfl ⟨Nat.le_of_ble_eq_true rfl, Nat.le_of_ble_eq_true rfl⟩ rfl (Nat.le_of_ble_eq_true rfl) rfl i28 (tm_X7_change e28) ?_
    obtain ⟨rfl, rfl⟩ := ret_s hf
    exact x_reti (pc := 31) dX7_end_31 rfl
  · replace hf := it_n hc hf
    refine x_aload_n (pc := 11) (a := x0) dX7_end_11 rfl ?_
    refine x_ldc (pc := 12) (v := -100001) dX7_end_12 kc_7_59 ?_
    replace hf := bd_s hf; obtain ⟨u14, i14, hf⟩ := hf
    replace hf := bd2_s hf; obtain ⟨v14, h14, e14, hf⟩ := hf
    refine x_cVi (pc := 14) (M' := mX7_finding) (as := [.int ((-100001))]) (st := []) (a := x0) (ci := 7) dX7_end_14 mo_X7_finding lk_7_60 im_X7_finding se_X7_finding rfl ⟨Nat.le_of_ble_eq_true rfl, Nat.le_of_ble_eq_true rfl⟩ rfl (Nat.le_of_ble_eq_true rfl) rfl i14 (tm_X7_finding e14) ?_
    obtain ⟨rfl, rfl⟩ := ret_s hf
    exact x_reti (pc := 17) dX7_end_17 rfl

def f_X7_keepTrips (h : AH) (x0 : Option Nat) (x1 : Int32) (x2 : Int32) : Option AH :=
  bd (gR h x0 7 4) fun v1 =>
  bd (gR h x0 7 1) fun v5 =>
  bd (gR h v5 6 1) fun v8 =>
  bd (gR h x0 7 1) fun v12 =>
  bd (isO h v12 6) fun _ =>
  bd2 (f_X6_index h v12 x1 0) fun v17 h17 =>
  bd (isO h17 v1 1) fun _ =>
  bd (f_X1_keep h17 v1 v8 v17 (x2 * 35)) fun h24 =>
  some h24

set_option maxRecDepth 100000 in
set_option maxHeartbeats 4000000 in
theorem tm_X7_keepTrips {g : GT} {h : AH} {x0 : Option Nat} {x1 : Int32} {x2 : Int32} {h' : AH} (hf : f_X7_keepTrips h x0 x1 x2 = some h') : Xm g mX7_keepTrips [va_rf (x0), .int (x1), .int (x2)] h none h' := by
  refine xm_of mo_X7_keepTrips (Nat.le_of_ble_eq_true rfl) (ls := [some (va_rf (x0)), some (.int (x1)), some (.int (x2))]) rfl ?_
  rw [f_X7_keepTrips] at hf
  refine x_aload_n (pc := 0) (a := x0) dX7_keepTrips_0 rfl ?_
  replace hf := bd_s hf; obtain ⟨v1, e1, hf⟩ := hf
  refine x_getR (pc := 1) dX7_keepTrips_1 fl_7_40 e1 ?_
  refine x_aload_n (pc := 4) (a := x0) dX7_keepTrips_4 rfl ?_
  replace hf := bd_s hf; obtain ⟨v5, e5, hf⟩ := hf
  refine x_getR (pc := 5) dX7_keepTrips_5 fl_7_19 e5 ?_
  replace hf := bd_s hf; obtain ⟨v8, e8, hf⟩ := hf
  refine x_getR (pc := 8) dX7_keepTrips_8 fl_7_159 e8 ?_
  refine x_aload_n (pc := 11) (a := x0) dX7_keepTrips_11 rfl ?_
  replace hf := bd_s hf; obtain ⟨v12, e12, hf⟩ := hf
  refine x_getR (pc := 12) dX7_keepTrips_12 fl_7_19 e12 ?_
  refine x_iload_n (pc := 15) (x := x1) dX7_keepTrips_15 rfl ?_
  refine x_iconst (pc := 16) (v := 0) dX7_keepTrips_16 (by decide) ?_
  replace hf := bd_s hf; obtain ⟨u17, i17, hf⟩ := hf
  replace hf := bd2_s hf; obtain ⟨v17, h17, e17, hf⟩ := hf
  refine x_cVi (pc := 17) (M' := mX6_index) (as := [.int (x1), .int (0)]) (st := [va_rf (v8), va_rf (v1)]) (a := v12) (ci := 6) dX7_keepTrips_17 mo_X6_index lk_7_162 im_X6_index se_X6_index rfl ⟨Nat.le_of_ble_eq_true rfl, Nat.le_of_ble_eq_true rfl⟩ rfl (Nat.le_of_ble_eq_true rfl) rfl i17 (tm_X6_index e17) ?_
  refine x_iload_n (pc := 20) (x := x2) dX7_keepTrips_20 rfl ?_
  refine x_bipush (pc := 21) (v := 35) dX7_keepTrips_21 (by decide) ?_
  refine x_imul (pc := 23) dX7_keepTrips_23 ?_
  replace hf := bd_s hf; obtain ⟨u24, i24, hf⟩ := hf
  replace hf := bd_s hf; obtain ⟨h24, e24, hf⟩ := hf
  refine x_cVv (pc := 24) (M' := mX1_keep) (as := [va_rf (v8), .int (v17), .int (x2 * 35)]) (st := []) (a := v1) (ci := 1) dX7_keepTrips_24 mo_X1_keep lk_7_260 im_X1_keep se_X1_keep rfl ⟨Nat.le_of_ble_eq_true rfl, Nat.le_of_ble_eq_true rfl⟩ rfl (Nat.le_of_ble_eq_true rfl) rfl i24 (tm_X1_keep e24) ?_
  obtain rfl := Option.some.inj hf
  exact x_vret (pc := 27) dX7_keepTrips_27 rfl

def f_X7_fill (h : AH) (x0 : Option Nat) (x1 : Int32) : Option (Int32 × AH) :=
  bd (isO h x0 7) fun _ =>
  bd2 (f_X7_isSet h x0 x1) fun v2 h2 =>
  if ¬ v2 = 0 then (
    bd (gR h2 x0 7 1) fun v18 =>
    bd (isO h2 v18 6) fun _ =>
    bd2 (f_X6_size h2 v18) fun v21 h21 =>
    bd (isO h21 x0 7) fun _ =>
    bd (f_X7_keepTrips h21 x0 0 v21) fun h24 =>
    bd (gR h24 x0 7 2) fun v28 =>
    bd (gR h24 x0 7 0) fun v32 =>
    bd (gR h24 x0 7 1) fun v36 =>
    bd (isO h24 v28 3) fun _ =>
    bd2 (f_X3_schedule h24 v28 v32 v36 x1) fun v40 h40 =>
    some (v40, h40)
  ) else (
    bd (isO h2 x0 7) fun _ =>
    bd2 (f_X7_finding h2 x0 (-100001)) fun v11 h11 =>
    some (v11, h11)
  )

set_option maxRecDepth 100000 in
set_option maxHeartbeats 4000000 in
theorem tm_X7_fill {g : GT} {h : AH} {x0 : Option Nat} {x1 : Int32} {r : Int32} {h' : AH} (hf : f_X7_fill h x0 x1 = some (r, h')) : Xm g mX7_fill [va_rf (x0), .int (x1)] h (some (.int r)) h' := by
  refine xm_of mo_X7_fill (Nat.le_of_ble_eq_true rfl) (ls := [some (va_rf (x0)), some (.int (x1))]) rfl ?_
  rw [f_X7_fill] at hf
  refine x_aload_n (pc := 0) (a := x0) dX7_fill_0 rfl ?_
  refine x_iload_n (pc := 1) (x := x1) dX7_fill_1 rfl ?_
  replace hf := bd_s hf; obtain ⟨u2, i2, hf⟩ := hf
  replace hf := bd2_s hf; obtain ⟨v2, h2, e2, hf⟩ := hf
  refine x_cVi (pc := 2) (M' := mX7_isSet) (as := [.int (x1)]) (st := []) (a := x0) (ci := 7) dX7_fill_2 mo_X7_isSet lk_7_180 im_X7_isSet se_X7_isSet rfl ⟨Nat.le_of_ble_eq_true rfl, Nat.le_of_ble_eq_true rfl⟩ rfl (Nat.le_of_ble_eq_true rfl) rfl i2 (tm_X7_isSet e2) ?_
  refine x_if_ne (pc := 5) (tgt := 15) (x := v2) dX7_fill_5 rfl (fun hc => ?_) (fun hc => ?_)
  · replace hf := it_t hc hf
    refine x_aload_n (pc := 15) (a := x0) dX7_fill_15 rfl ?_
    refine x_iconst (pc := 16) (v := 0) dX7_fill_16 (by decide) ?_
    refine x_aload_n (pc := 17) (a := x0) dX7_fill_17 rfl ?_
    replace hf := bd_s hf; obtain ⟨v18, e18, hf⟩ := hf
    refine x_getR (pc := 18) dX7_fill_18 fl_7_19 e18 ?_
    replace hf := bd_s hf; obtain ⟨u21, i21, hf⟩ := hf
    replace hf := bd2_s hf; obtain ⟨v21, h21, e21, hf⟩ := hf
    refine x_cVi (pc := 21) (M' := mX6_size) (as := []) (st := [.int (0), va_rf (x0)]) (a := v18) (ci := 6) dX7_fill_21 mo_X6_size lk_7_119 im_X6_size se_X6_size rfl ⟨Nat.le_of_ble_eq_true rfl, Nat.le_of_ble_eq_true rfl⟩ rfl (Nat.le_of_ble_eq_true rfl) rfl i21 (tm_X6_size e21) ?_
    replace hf := bd_s hf; obtain ⟨u24, i24, hf⟩ := hf
    replace hf := bd_s hf; obtain ⟨h24, e24, hf⟩ := hf
    refine x_cVv (pc := 24) (M' := mX7_keepTrips) (as := [.int (0), .int (v21)]) (st := []) (a := x0) (ci := 7) dX7_fill_24 mo_X7_keepTrips lk_7_148 im_X7_keepTrips se_X7_keepTrips rfl ⟨Nat.le_of_ble_eq_true rfl, Nat.le_of_ble_eq_true rfl⟩ rfl (Nat.le_of_ble_eq_true rfl) rfl i24 (tm_X7_keepTrips e24) ?_
    refine x_aload_n (pc := 27) (a := x0) dX7_fill_27 rfl ?_
    replace hf := bd_s hf; obtain ⟨v28, e28, hf⟩ := hf
    refine x_getR (pc := 28) dX7_fill_28 fl_7_26 e28 ?_
    refine x_aload_n (pc := 31) (a := x0) dX7_fill_31 rfl ?_
    replace hf := bd_s hf; obtain ⟨v32, e32, hf⟩ := hf
    refine x_getR (pc := 32) dX7_fill_32 fl_7_10 e32 ?_
    refine x_aload_n (pc := 35) (a := x0) dX7_fill_35 rfl ?_
    replace hf := bd_s hf; obtain ⟨v36, e36, hf⟩ := hf
    refine x_getR (pc := 36) dX7_fill_36 fl_7_19 e36 ?_
    refine x_iload_n (pc := 39) (x := x1) dX7_fill_39 rfl ?_
    replace hf := bd_s hf; obtain ⟨u40, i40, hf⟩ := hf
    replace hf := bd2_s hf; obtain ⟨v40, h40, e40, hf⟩ := hf
    refine x_cVi (pc := 40) (M' := mX3_schedule) (as := [va_rf (v32), va_rf (v36), .int (x1)]) (st := []) (a := v28) (ci := 3) dX7_fill_40 mo_X3_schedule lk_7_186 im_X3_schedule se_X3_schedule rfl ⟨Nat.le_of_ble_eq_true rfl, Nat.le_of_ble_eq_true rfl⟩ rfl (Nat.le_of_ble_eq_true rfl) rfl i40 (tm_X3_schedule e40) ?_
    obtain ⟨rfl, rfl⟩ := ret_s hf
    exact x_reti (pc := 43) dX7_fill_43 rfl
  · replace hf := it_n hc hf
    refine x_aload_n (pc := 8) (a := x0) dX7_fill_8 rfl ?_
    refine x_ldc (pc := 9) (v := -100001) dX7_fill_9 kc_7_59 ?_
    replace hf := bd_s hf; obtain ⟨u11, i11, hf⟩ := hf
    replace hf := bd2_s hf; obtain ⟨v11, h11, e11, hf⟩ := hf
    refine x_cVi (pc := 11) (M' := mX7_finding) (as := [.int ((-100001))]) (st := []) (a := x0) (ci := 7) dX7_fill_11 mo_X7_finding lk_7_60 im_X7_finding se_X7_finding rfl ⟨Nat.le_of_ble_eq_true rfl, Nat.le_of_ble_eq_true rfl⟩ rfl (Nat.le_of_ble_eq_true rfl) rfl i11 (tm_X7_finding e11) ?_
    obtain ⟨rfl, rfl⟩ := ret_s hf
    exact x_reti (pc := 14) dX7_fill_14 rfl

def f_X7_isMile (h : AH) (x0 : Int32) : Option (Int32 × AH) :=
  bd2 (f_X7_within h x0 0 250) fun v5 h5 =>
  bd (bl v5) fun v8 =>
  some (v8, h5)

set_option maxRecDepth 100000 in
set_option maxHeartbeats 4000000 in
theorem tm_X7_isMile {g : GT} {h : AH} {x0 : Int32} {r : Int32} {h' : AH} (hf : f_X7_isMile h x0 = some (r, h')) : Xm g mX7_isMile [.int (x0)] h (some (.int r)) h' := by
  refine xm_of mo_X7_isMile (Nat.le_of_ble_eq_true rfl) (ls := [some (.int (x0))]) rfl ?_
  rw [f_X7_isMile] at hf
  refine x_iload_n (pc := 0) (x := x0) dX7_isMile_0 rfl ?_
  refine x_iconst (pc := 1) (v := 0) dX7_isMile_1 (by decide) ?_
  refine x_sipush (pc := 2) (v := 250) dX7_isMile_2 (by decide) ?_
  replace hf := bd2_s hf; obtain ⟨v5, h5, e5, hf⟩ := hf
  refine x_cSi (pc := 5) (M' := mX7_within) (as := [.int (x0), .int (0), .int (250)]) (st := []) dX7_isMile_5 mo_X7_within lk_7_55 sm_X7_within ⟨Nat.le_of_ble_eq_true rfl, Nat.le_of_ble_eq_true rfl⟩ rfl (Nat.le_of_ble_eq_true rfl) rfl (tm_X7_within e5) ?_
  replace hf := bd_s hf; obtain ⟨v8, e8, hf⟩ := hf
  obtain ⟨z8, q8⟩ := bl_s e8
  obtain ⟨rfl, rfl⟩ := ret_s hf
  rw [q8]
  exact x_retz (pc := 8) dX7_isMile_8 rfl z8

def j_X7_hurt_52 (h : AH) (x0 : Option Nat) (y0 : Option Nat) (y1 : Int32) (y2 : Int32) : Option (Int32 × AH) :=
  bd (isO h y0 4) fun _ =>
  bd2 (f_X4_minutesOut h y0 y1 y2) fun v52 h52 =>
  if ¬ v52 = 15001 then (
    some (v52, h52)
  ) else (
    bd (isO h52 x0 7) fun _ =>
    bd2 (f_X7_finding h52 x0 (-100006)) fun v68 h68 =>
    some (v68, h68)
  )

set_option maxRecDepth 100000 in
set_option maxHeartbeats 4000000 in
theorem tj_X7_hurt_52 {g : GT} {h : AH} {x0 : Option Nat} {y0 : Option Nat} {y1 : Int32} {y2 : Int32} {r : Int32} {h' : AH} (hf : j_X7_hurt_52 h x0 y0 y1 y2 = some (r, h')) : Xj g mX7_hurt h 52 [some (va_rf (x0)), none, none, none, none] [.int (y2), .int (y1), va_rf (y0)] (some (.int r)) h' := by
  rw [j_X7_hurt_52] at hf
  replace hf := bd_s hf; obtain ⟨u52, i52, hf⟩ := hf
  replace hf := bd2_s hf; obtain ⟨v52, h52, e52, hf⟩ := hf
  refine x_cVi (pc := 52) (M' := mX4_minutesOut) (as := [.int (y1), .int (y2)]) (st := []) (a := y0) (ci := 4) dX7_hurt_52 mo_X4_minutesOut lk_7_198 im_X4_minutesOut se_X4_minutesOut rfl ⟨Nat.le_of_ble_eq_true rfl, Nat.le_of_ble_eq_true rfl⟩ rfl (Nat.le_of_ble_eq_true rfl) rfl i52 (tm_X4_minutesOut e52) ?_
  refine x_istore (pc := 55) (ls' := [some (va_rf (x0)), none, none, none, some (.int (v52))]) dX7_hurt_55 (by decide) rfl ?_
  refine x_iload (pc := 57) (x := v52) dX7_hurt_57 rfl ?_
  refine x_sipush (pc := 59) (v := 15001) dX7_hurt_59 (by decide) ?_
  refine x_icmp_ne (pc := 62) (tgt := 74) (x := v52) (y := 15001) dX7_hurt_62 rfl (fun hc => ?_) (fun hc => ?_)
  · replace hf := it_t hc hf
    refine x_iload (pc := 74) (x := v52) dX7_hurt_74 rfl ?_
    obtain ⟨rfl, rfl⟩ := ret_s hf
    exact x_reti (pc := 76) dX7_hurt_76 rfl
  · replace hf := it_n hc hf
    refine x_aload_n (pc := 65) (a := x0) dX7_hurt_65 rfl ?_
    refine x_ldc (pc := 66) (v := -100006) dX7_hurt_66 kc_7_165 ?_
    replace hf := bd_s hf; obtain ⟨u68, i68, hf⟩ := hf
    replace hf := bd2_s hf; obtain ⟨v68, h68, e68, hf⟩ := hf
    refine x_cVi (pc := 68) (M' := mX7_finding) (as := [.int ((-100006))]) (st := []) (a := x0) (ci := 7) dX7_hurt_68 mo_X7_finding lk_7_60 im_X7_finding se_X7_finding rfl ⟨Nat.le_of_ble_eq_true rfl, Nat.le_of_ble_eq_true rfl⟩ rfl (Nat.le_of_ble_eq_true rfl) rfl i68 (tm_X7_finding e68) ?_
    refine x_goto (pc := 71) (tgt := 76) dX7_hurt_71 rfl ?_
    obtain ⟨rfl, rfl⟩ := ret_s hf
    exact x_reti (pc := 76) dX7_hurt_76 rfl

def j_X7_hurt_47 (h : AH) (x0 : Option Nat) (y0 : Option Nat) (y1 : Int32) : Option (Int32 × AH) :=
  j_X7_hurt_52  h x0 y0 y1 1

set_option maxRecDepth 100000 in
set_option maxHeartbeats 4000000 in
theorem tj_X7_hurt_47 {g : GT} {h : AH} {x0 : Option Nat} {y0 : Option Nat} {y1 : Int32} {r : Int32} {h' : AH} (hf : j_X7_hurt_47 h x0 y0 y1 = some (r, h')) : Xj g mX7_hurt h 47 [some (va_rf (x0)), none, none, none, none] [.int (y1), va_rf (y0)] (some (.int r)) h' := by
  rw [j_X7_hurt_47] at hf
  refine x_iconst (pc := 47) (v := 1) dX7_hurt_47 (by decide) ?_
  refine x_goto (pc := 48) (tgt := 52) dX7_hurt_48 rfl ?_
  exact tj_X7_hurt_52  hf

def f_X7_hurt (h : AH) (x0 : Option Nat) (x1 : Int32) (x2 : Int32) : Option (Int32 × AH) :=
  bd (isO h x0 7) fun _ =>
  bd2 (f_X7_isTrip h x0 x1) fun v2 h2 =>
  if v2 = 0 then (
    bd (isO h2 x0 7) fun _ =>
    bd2 (f_X7_finding h2 x0 (-100001)) fun v18 h18 =>
    some (v18, h18)
  ) else (
    bd2 (f_X7_isMile h2 x2) fun v9 h9 =>
    if ¬ v9 = 0 then (
      bd (gR h9 x0 7 1) fun v23 =>
      bd (isO h9 v23 6) fun _ =>
      bd2 (f_X6_read h9 v23 x1 0) fun v28 h28 =>
      bd (gR h28 x0 7 0) fun v33 =>
      if v28 = 1 then (
        j_X7_hurt_47  h28 x0 v33 x2
      ) else (
        if ¬ v28 = 3 then (
          j_X7_hurt_52  h28 x0 v33 x2 0
        ) else (
          j_X7_hurt_47  h28 x0 v33 x2
        )
      )
    ) else (
      bd (isO h9 x0 7) fun _ =>
      bd2 (f_X7_finding h9 x0 (-100001)) fun v18 h18 =>
      some (v18, h18)
    )
  )

set_option maxRecDepth 100000 in
set_option maxHeartbeats 4000000 in
theorem tm_X7_hurt {g : GT} {h : AH} {x0 : Option Nat} {x1 : Int32} {x2 : Int32} {r : Int32} {h' : AH} (hf : f_X7_hurt h x0 x1 x2 = some (r, h')) : Xm g mX7_hurt [va_rf (x0), .int (x1), .int (x2)] h (some (.int r)) h' := by
  refine xm_of mo_X7_hurt (Nat.le_of_ble_eq_true rfl) (ls := [some (va_rf (x0)), some (.int (x1)), some (.int (x2)), none, none]) rfl ?_
  rw [f_X7_hurt] at hf
  refine x_aload_n (pc := 0) (a := x0) dX7_hurt_0 rfl ?_
  refine x_iload_n (pc := 1) (x := x1) dX7_hurt_1 rfl ?_
  replace hf := bd_s hf; obtain ⟨u2, i2, hf⟩ := hf
  replace hf := bd2_s hf; obtain ⟨v2, h2, e2, hf⟩ := hf
  refine x_cVi (pc := 2) (M' := mX7_isTrip) (as := [.int (x1)]) (st := []) (a := x0) (ci := 7) dX7_hurt_2 mo_X7_isTrip lk_7_134 im_X7_isTrip se_X7_isTrip rfl ⟨Nat.le_of_ble_eq_true rfl, Nat.le_of_ble_eq_true rfl⟩ rfl (Nat.le_of_ble_eq_true rfl) rfl i2 (tm_X7_isTrip e2) ?_
  refine x_if_eq (pc := 5) (tgt := 15) (x := v2) dX7_hurt_5 rfl (fun hc => ?_) (fun hc => ?_)
  · replace hf := it_t hc hf
    refine x_aload_n (pc := 15) (a := x0) dX7_hurt_15 rfl ?_
    refine x_ldc (pc := 16) (v := -100001) dX7_hurt_16 kc_7_59 ?_
    replace hf := bd_s hf; obtain ⟨u18, i18, hf⟩ := hf
    replace hf := bd2_s hf; obtain ⟨v18, h18, e18, hf⟩ := hf
    refine x_cVi (pc := 18) (M' := mX7_finding) (as := [.int ((-100001))]) (st := []) (a := x0) (ci := 7) dX7_hurt_18 mo_X7_finding lk_7_60 im_X7_finding se_X7_finding rfl ⟨Nat.le_of_ble_eq_true rfl, Nat.le_of_ble_eq_true rfl⟩ rfl (Nat.le_of_ble_eq_true rfl) rfl i18 (tm_X7_finding e18) ?_
    obtain ⟨rfl, rfl⟩ := ret_s hf
    exact x_reti (pc := 21) dX7_hurt_21 rfl
  · replace hf := it_f hc hf
    refine x_iload_n (pc := 8) (x := x2) dX7_hurt_8 rfl ?_
    replace hf := bd2_s hf; obtain ⟨v9, h9, e9, hf⟩ := hf
    refine x_cSi (pc := 9) (M' := mX7_isMile) (as := [.int (x2)]) (st := []) dX7_hurt_9 mo_X7_isMile lk_7_97 sm_X7_isMile ⟨Nat.le_of_ble_eq_true rfl, Nat.le_of_ble_eq_true rfl⟩ rfl (Nat.le_of_ble_eq_true rfl) rfl (tm_X7_isMile e9) ?_
    refine x_if_ne (pc := 12) (tgt := 22) (x := v9) dX7_hurt_12 rfl (fun hc => ?_) (fun hc => ?_)
    · replace hf := it_t hc hf
      refine x_aload_n (pc := 22) (a := x0) dX7_hurt_22 rfl ?_
      replace hf := bd_s hf; obtain ⟨v23, e23, hf⟩ := hf
      refine x_getR (pc := 23) dX7_hurt_23 fl_7_19 e23 ?_
      refine x_iload_n (pc := 26) (x := x1) dX7_hurt_26 rfl ?_
      refine x_iconst (pc := 27) (v := 0) dX7_hurt_27 (by decide) ?_
      replace hf := bd_s hf; obtain ⟨u28, i28, hf⟩ := hf
      replace hf := bd2_s hf; obtain ⟨v28, h28, e28, hf⟩ := hf
      refine x_cVi (pc := 28) (M' := mX6_read) (as := [.int (x1), .int (0)]) (st := []) (a := v23) (ci := 6) dX7_hurt_28 mo_X6_read lk_7_137 im_X6_read se_X6_read rfl ⟨Nat.le_of_ble_eq_true rfl, Nat.le_of_ble_eq_true rfl⟩ rfl (Nat.le_of_ble_eq_true rfl) rfl i28 (tm_X6_read e28) ?_
      refine x_istore_n (pc := 31) (ls' := [some (va_rf (x0)), some (.int (x1)), some (.int (x2)), some (.int (v28)), none]) dX7_hurt_31 (by decide) rfl ?_
      refine x_aload_n (pc := 32) (a := x0) dX7_hurt_32 rfl ?_
      replace hf := bd_s hf; obtain ⟨v33, e33, hf⟩ := hf
      refine x_getR (pc := 33) dX7_hurt_33 fl_7_10 e33 ?_
      refine x_iload_n (pc := 36) (x := x2) dX7_hurt_36 rfl ?_
      refine x_iload_n (pc := 37) (x := v28) dX7_hurt_37 rfl ?_
      refine x_iconst (pc := 38) (v := 1) dX7_hurt_38 (by decide) ?_
      refine x_icmp_eq (pc := 39) (tgt := 47) (x := v28) (y := 1) dX7_hurt_39 rfl (fun hc => ?_) (fun hc => ?_)
      · replace hf := it_t hc hf
        refine x_mask [true, false, false, false, false] rfl ?_
        exact tj_X7_hurt_47  hf
      · replace hf := it_f hc hf
        refine x_iload_n (pc := 42) (x := v28) dX7_hurt_42 rfl ?_
        refine x_iconst (pc := 43) (v := 3) dX7_hurt_43 (by decide) ?_
        refine x_icmp_ne (pc := 44) (tgt := 51) (x := v28) (y := 3) dX7_hurt_44 rfl (fun hc => ?_) (fun hc => ?_)
        · replace hf := it_t hc hf
          refine x_iconst (pc := 51) (v := 0) dX7_hurt_51 (by decide) ?_
          refine x_mask [true, false, false, false, false] rfl ?_
          exact tj_X7_hurt_52  hf
        · replace hf := it_n hc hf
          refine x_mask [true, false, false, false, false] rfl ?_
          exact tj_X7_hurt_47  hf
    · replace hf := it_n hc hf
      refine x_aload_n (pc := 15) (a := x0) dX7_hurt_15 rfl ?_
      refine x_ldc (pc := 16) (v := -100001) dX7_hurt_16 kc_7_59 ?_
      replace hf := bd_s hf; obtain ⟨u18, i18, hf⟩ := hf
      replace hf := bd2_s hf; obtain ⟨v18, h18, e18, hf⟩ := hf
      refine x_cVi (pc := 18) (M' := mX7_finding) (as := [.int ((-100001))]) (st := []) (a := x0) (ci := 7) dX7_hurt_18 mo_X7_finding lk_7_60 im_X7_finding se_X7_finding rfl ⟨Nat.le_of_ble_eq_true rfl, Nat.le_of_ble_eq_true rfl⟩ rfl (Nat.le_of_ble_eq_true rfl) rfl i18 (tm_X7_finding e18) ?_
      obtain ⟨rfl, rfl⟩ := ret_s hf
      exact x_reti (pc := 21) dX7_hurt_21 rfl

def g_X7_init_74 : Nat → AH → Option Nat → Int32 → Option AH
  | 0, _, _, _ => none
  | n + 1, h, x0, x1 =>
    if 4 ≤ x1 then (
      some h
    ) else (
      bd (gR h x0 7 5) fun v80 =>
      bd (nO h 5 3) fun h84 =>
      bd (f_X5_init h84 (hn h)) fun h88 =>
      bd (stR h88 v80 2 5 x1 (some (hn h))) fun h91 =>
      g_X7_init_74  n h91 x0 (x1 + 1)
    )

set_option maxRecDepth 100000 in
set_option maxHeartbeats 4000000 in
theorem tg_X7_init_74 {g : GT} : ∀ (n : Nat) {h : AH} {x0 : Option Nat} {x1 : Int32} {h' : AH}, g_X7_init_74 n h x0 x1 = some h' → Xj g mX7_init h 74 [some (va_rf (x0)), some (.int (x1))] [] none h' := by
  intro n
  induction n with
  | zero =>
    intros
    rename_i z
    cases z
  | succ n ih =>
    intro h x0 x1 h' hf
    rw [g_X7_init_74] at hf
    refine x_iload_n (pc := 74) (x := x1) dX7_init_74 rfl ?_
    refine x_iconst (pc := 75) (v := 4) dX7_init_75 (by decide) ?_
    refine x_icmp_ge (pc := 76) (tgt := 98) (x := x1) (y := 4) dX7_init_76 rfl (fun hc => ?_) (fun hc => ?_)
    · replace hf := it_t hc hf
      obtain rfl := Option.some.inj hf
      exact x_vret (pc := 98) dX7_init_98 rfl
    · replace hf := it_f hc hf
      refine x_aload_n (pc := 79) (a := x0) dX7_init_79 rfl ?_
      replace hf := bd_s hf; obtain ⟨v80, e80, hf⟩ := hf
      refine x_getR (pc := 80) dX7_init_80 fl_7_46 e80 ?_
      refine x_iload_n (pc := 83) (x := x1) dX7_init_83 rfl ?_
      replace hf := bd_s hf; obtain ⟨h84, e84, hf⟩ := hf
      refine x_nO (pc := 84) dX7_init_84 nl_7_44 e84 ?_
      refine x_dup (pc := 87) dX7_init_87 ?_
      replace hf := bd_s hf; obtain ⟨h88, e88, hf⟩ := hf
      refine x_cIN (pc := 88) (M' := mX5_init) (as := []) (st := [va_rf (some (hn h)), .int (x1), va_rf (v80)]) (a := (hn h)) dX7_init_88 mo_X5_init lk_7_54 im_X5_init rfl rfl ⟨Nat.le_of_ble_eq_true rfl, Nat.le_of_ble_eq_true rfl⟩ rfl (Nat.le_of_ble_eq_true rfl) rfl (tm_X5_init e88) ?_
      replace hf := bd_s hf; obtain ⟨h91, e91, hf⟩ := hf
      refine x_stR (pc := 91) (by decide) dX7_init_91 e91 ?_
      refine x_iinc (pc := 92) (x := x1) (v := x1 + 1) (ls' := [some (va_rf (x0)), some (.int (x1 + 1))]) dX7_init_92 rfl rfl (by decide) rfl ?_
      refine x_goto (pc := 95) (tgt := 74) dX7_init_95 rfl ?_
      exact ih hf

def f_X7_init (h : AH) (x0 : Nat) : Option AH :=
  bd (nO h 4 9) fun h5 =>
  bd (f_X4_init h5 (hn h)) fun h9 =>
  bd (pR h9 (some x0) 7 0 (some (hn h))) fun h12 =>
  bd (nO h12 6 3) fun h16 =>
  bd (f_X6_init h16 (hn h12)) fun h20 =>
  bd (pR h20 (some x0) 7 1 (some (hn h12))) fun h23 =>
  bd (nO h23 3 5) fun h27 =>
  bd (f_X3_init h27 (hn h23)) fun h31 =>
  bd (pR h31 (some x0) 7 2 (some (hn h23))) fun h34 =>
  bd (nO h34 0 3) fun h38 =>
  bd (f_X0_init h38 (hn h34)) fun h42 =>
  bd (pR h42 (some x0) 7 3 (some (hn h34))) fun h45 =>
  bd (nO h45 1 3) fun h49 =>
  bd (f_X1_init h49 (hn h45)) fun h53 =>
  bd (pR h53 (some x0) 7 4 (some (hn h45))) fun h56 =>
  bd2 (nA h56 2 4) fun v61 h61 =>
  bd (pR h61 (some x0) 7 5 v61) fun h64 =>
  bd (pI h64 (some x0) 7 6 0) fun h69 =>
  g_X7_init_74  NN h69 (some x0) 0

set_option maxRecDepth 100000 in
set_option maxHeartbeats 4000000 in
theorem tm_X7_init {g : GT} {h : AH} {x0 : Nat} {h' : AH} (hf : f_X7_init h x0 = some h') : Xm g mX7_init [va_rf (some x0)] h none h' := by
  refine xm_of mo_X7_init (Nat.le_of_ble_eq_true rfl) (ls := [some (va_rf (some x0)), none]) rfl ?_
  rw [f_X7_init] at hf
  refine x_aload_n (pc := 0) (a := some x0) dX7_init_0 rfl ?_
  refine x_objInit (pc := 1) dX7_init_1 lo_7_1 oi_1 oi_2 (Nat.le_of_ble_eq_true rfl) (Nat.le_of_ble_eq_true rfl) ?_
  refine x_aload_n (pc := 4) (a := some x0) dX7_init_4 rfl ?_
  replace hf := bd_s hf; obtain ⟨h5, e5, hf⟩ := hf
  refine x_nO (pc := 5) dX7_init_5 nl_7_7 e5 ?_
  refine x_dup (pc := 8) dX7_init_8 ?_
  replace hf := bd_s hf; obtain ⟨h9, e9, hf⟩ := hf
  refine x_cI (pc := 9) (M' := mX4_init) (as := []) (st := [va_rf (some (hn h)), va_rf (some x0)]) (a := (hn h)) dX7_init_9 mo_X4_init lk_7_9 im_X4_init rfl rfl ⟨Nat.le_of_ble_eq_true rfl, Nat.le_of_ble_eq_true rfl⟩ rfl (Nat.le_of_ble_eq_true rfl) rfl (tm_X4_init e9) ?_
  replace hf := bd_s hf; obtain ⟨h12, e12, hf⟩ := hf
  refine x_putR (pc := 12) dX7_init_12 fl_7_10 (fW_in rfl rfl) e12 ?_
  refine x_aload_n (pc := 15) (a := some x0) dX7_init_15 rfl ?_
  replace hf := bd_s hf; obtain ⟨h16, e16, hf⟩ := hf
  refine x_nO (pc := 16) dX7_init_16 nl_7_16 e16 ?_
  refine x_dup (pc := 19) dX7_init_19 ?_
  replace hf := bd_s hf; obtain ⟨h20, e20, hf⟩ := hf
  refine x_cIN (pc := 20) (M' := mX6_init) (as := []) (st := [va_rf (some (hn h12)), va_rf (some x0)]) (a := (hn h12)) dX7_init_20 mo_X6_init lk_7_18 im_X6_init rfl rfl ⟨Nat.le_of_ble_eq_true rfl, Nat.le_of_ble_eq_true rfl⟩ rfl (Nat.le_of_ble_eq_true rfl) rfl (tm_X6_init e20) ?_
  replace hf := bd_s hf; obtain ⟨h23, e23, hf⟩ := hf
  refine x_putR (pc := 23) dX7_init_23 fl_7_19 (fW_in rfl rfl) e23 ?_
  refine x_aload_n (pc := 26) (a := some x0) dX7_init_26 rfl ?_
  replace hf := bd_s hf; obtain ⟨h27, e27, hf⟩ := hf
  refine x_nO (pc := 27) dX7_init_27 nl_7_23 e27 ?_
  refine x_dup (pc := 30) dX7_init_30 ?_
  replace hf := bd_s hf; obtain ⟨h31, e31, hf⟩ := hf
  refine x_cIN (pc := 31) (M' := mX3_init) (as := []) (st := [va_rf (some (hn h23)), va_rf (some x0)]) (a := (hn h23)) dX7_init_31 mo_X3_init lk_7_25 im_X3_init rfl rfl ⟨Nat.le_of_ble_eq_true rfl, Nat.le_of_ble_eq_true rfl⟩ rfl (Nat.le_of_ble_eq_true rfl) rfl (tm_X3_init e31) ?_
  replace hf := bd_s hf; obtain ⟨h34, e34, hf⟩ := hf
  refine x_putR (pc := 34) dX7_init_34 fl_7_26 (fW_in rfl rfl) e34 ?_
  refine x_aload_n (pc := 37) (a := some x0) dX7_init_37 rfl ?_
  replace hf := bd_s hf; obtain ⟨h38, e38, hf⟩ := hf
  refine x_nO (pc := 38) dX7_init_38 nl_7_30 e38 ?_
  refine x_dup (pc := 41) dX7_init_41 ?_
  replace hf := bd_s hf; obtain ⟨h42, e42, hf⟩ := hf
  refine x_cIN (pc := 42) (M' := mX0_init) (as := []) (st := [va_rf (some (hn h34)), va_rf (some x0)]) (a := (hn h34)) dX7_init_42 mo_X0_init lk_7_32 im_X0_init rfl rfl ⟨Nat.le_of_ble_eq_true rfl, Nat.le_of_ble_eq_true rfl⟩ rfl (Nat.le_of_ble_eq_true rfl) rfl (tm_X0_init e42) ?_
  replace hf := bd_s hf; obtain ⟨h45, e45, hf⟩ := hf
  refine x_putR (pc := 45) dX7_init_45 fl_7_33 (fW_in rfl rfl) e45 ?_
  refine x_aload_n (pc := 48) (a := some x0) dX7_init_48 rfl ?_
  replace hf := bd_s hf; obtain ⟨h49, e49, hf⟩ := hf
  refine x_nO (pc := 49) dX7_init_49 nl_7_37 e49 ?_
  refine x_dup (pc := 52) dX7_init_52 ?_
  replace hf := bd_s hf; obtain ⟨h53, e53, hf⟩ := hf
  refine x_cI (pc := 53) (M' := mX1_init) (as := []) (st := [va_rf (some (hn h45)), va_rf (some x0)]) (a := (hn h45)) dX7_init_53 mo_X1_init lk_7_39 im_X1_init rfl rfl ⟨Nat.le_of_ble_eq_true rfl, Nat.le_of_ble_eq_true rfl⟩ rfl (Nat.le_of_ble_eq_true rfl) rfl (tm_X1_init e53) ?_
  replace hf := bd_s hf; obtain ⟨h56, e56, hf⟩ := hf
  refine x_putR (pc := 56) dX7_init_56 fl_7_40 (fW_in rfl rfl) e56 ?_
  refine x_aload_n (pc := 59) (a := some x0) dX7_init_59 rfl ?_
  refine x_iconst (pc := 60) (v := 4) dX7_init_60 (by decide) ?_
  replace hf := bd2_s hf; obtain ⟨v61, h61, e61, hf⟩ := hf
  refine x_nR (pc := 61) (t := 2) (ci := 5) (q := (RX5, TX5, 3)) (by decide) dX7_init_61 (cl_7_44) e61 ?_
  replace hf := bd_s hf; obtain ⟨h64, e64, hf⟩ := hf
  refine x_putR (pc := 64) dX7_init_64 fl_7_46 (fW_in rfl rfl) e64 ?_
  refine x_aload_n (pc := 67) (a := some x0) dX7_init_67 rfl ?_
  refine x_iconst (pc := 68) (v := 0) dX7_init_68 (by decide) ?_
  replace hf := bd_s hf; obtain ⟨h69, e69, hf⟩ := hf
  refine x_putI (pc := 69) dX7_init_69 fl_7_50 (fW_no rfl) e69 ?_
  refine x_iconst (pc := 72) (v := 0) dX7_init_72 (by decide) ?_
  refine x_istore_n (pc := 73) (ls' := [some (va_rf (some x0)), some (.int (0))]) dX7_init_73 (by decide) rfl ?_
  exact tg_X7_init_74  NN hf

def f_X7_isCamp (h : AH) (x0 : Option Nat) (x1 : Int32) : Option (Int32 × AH) :=
  bd (gR h x0 7 0) fun v3 =>
  bd (gR h v3 4 1) fun v6 =>
  bd (ldI h v6 0) fun v10 =>
  bd2 (f_X7_within h x1 0 (v10 - 1)) fun v13 h13 =>
  bd (bl v13) fun v16 =>
  some (v16, h13)

set_option maxRecDepth 100000 in
set_option maxHeartbeats 4000000 in
theorem tm_X7_isCamp {g : GT} {h : AH} {x0 : Option Nat} {x1 : Int32} {r : Int32} {h' : AH} (hf : f_X7_isCamp h x0 x1 = some (r, h')) : Xm g mX7_isCamp [va_rf (x0), .int (x1)] h (some (.int r)) h' := by
  refine xm_of mo_X7_isCamp (Nat.le_of_ble_eq_true rfl) (ls := [some (va_rf (x0)), some (.int (x1))]) rfl ?_
  rw [f_X7_isCamp] at hf
  refine x_iload_n (pc := 0) (x := x1) dX7_isCamp_0 rfl ?_
  refine x_iconst (pc := 1) (v := 0) dX7_isCamp_1 (by decide) ?_
  refine x_aload_n (pc := 2) (a := x0) dX7_isCamp_2 rfl ?_
  replace hf := bd_s hf; obtain ⟨v3, e3, hf⟩ := hf
  refine x_getR (pc := 3) dX7_isCamp_3 fl_7_10 e3 ?_
  replace hf := bd_s hf; obtain ⟨v6, e6, hf⟩ := hf
  refine x_getR (pc := 6) dX7_isCamp_6 fl_7_72 e6 ?_
  refine x_iconst (pc := 9) (v := 0) dX7_isCamp_9 (by decide) ?_
  replace hf := bd_s hf; obtain ⟨v10, e10, hf⟩ := hf
  refine x_ldI (pc := 10) dX7_isCamp_10 e10 ?_
  refine x_iconst (pc := 11) (v := 1) dX7_isCamp_11 (by decide) ?_
  refine x_isub (pc := 12) dX7_isCamp_12 ?_
  replace hf := bd2_s hf; obtain ⟨v13, h13, e13, hf⟩ := hf
  refine x_cSi (pc := 13) (M' := mX7_within) (as := [.int (x1), .int (0), .int (v10 - 1)]) (st := []) dX7_isCamp_13 mo_X7_within lk_7_55 sm_X7_within ⟨Nat.le_of_ble_eq_true rfl, Nat.le_of_ble_eq_true rfl⟩ rfl (Nat.le_of_ble_eq_true rfl) rfl (tm_X7_within e13) ?_
  replace hf := bd_s hf; obtain ⟨v16, e16, hf⟩ := hf
  obtain ⟨z16, q16⟩ := bl_s e16
  obtain ⟨rfl, rfl⟩ := ret_s hf
  rw [q16]
  exact x_retz (pc := 16) dX7_isCamp_16 rfl z16

def f_X7_isWater (h : AH) (x0 : Int32) : Option (Int32 × AH) :=
  bd2 (f_X7_within h x0 0 999) fun v5 h5 =>
  bd (bl v5) fun v8 =>
  some (v8, h5)

set_option maxRecDepth 100000 in
set_option maxHeartbeats 4000000 in
theorem tm_X7_isWater {g : GT} {h : AH} {x0 : Int32} {r : Int32} {h' : AH} (hf : f_X7_isWater h x0 = some (r, h')) : Xm g mX7_isWater [.int (x0)] h (some (.int r)) h' := by
  refine xm_of mo_X7_isWater (Nat.le_of_ble_eq_true rfl) (ls := [some (.int (x0))]) rfl ?_
  rw [f_X7_isWater] at hf
  refine x_iload_n (pc := 0) (x := x0) dX7_isWater_0 rfl ?_
  refine x_iconst (pc := 1) (v := 0) dX7_isWater_1 (by decide) ?_
  refine x_sipush (pc := 2) (v := 999) dX7_isWater_2 (by decide) ?_
  replace hf := bd2_s hf; obtain ⟨v5, h5, e5, hf⟩ := hf
  refine x_cSi (pc := 5) (M' := mX7_within) (as := [.int (x0), .int (0), .int (999)]) (st := []) dX7_isWater_5 mo_X7_within lk_7_55 sm_X7_within ⟨Nat.le_of_ble_eq_true rfl, Nat.le_of_ble_eq_true rfl⟩ rfl (Nat.le_of_ble_eq_true rfl) rfl (tm_X7_within e5) ?_
  replace hf := bd_s hf; obtain ⟨v8, e8, hf⟩ := hf
  obtain ⟨z8, q8⟩ := bl_s e8
  obtain ⟨rfl, rfl⟩ := ret_s hf
  rw [q8]
  exact x_retz (pc := 8) dX7_isWater_8 rfl z8

def f_X7_landing (h : AH) (x0 : Option Nat) (x1 : Int32) : Option (Int32 × AH) :=
  bd2 (f_X7_isMile h x1) fun v1 h1 =>
  if ¬ v1 = 0 then (
    bd (gR h1 x0 7 0) fun v15 =>
    bd (gR h1 v15 4 1) fun v18 =>
    bd (ldI h1 v18 2) fun v22 =>
    if v22 < 8 then (
      bd (gR h1 x0 7 0) fun v38 =>
      bd (gR h1 v38 4 8) fun v41 =>
      bd (stI h1 v41 v22 x1) fun h46 =>
      bd (gR h46 x0 7 0) fun v49 =>
      bd (gR h46 v49 4 1) fun v52 =>
      bd (isO h46 x0 7) fun _ =>
      bd2 (f_X7_change h46 x0 v52 2 (v22 + 1)) fun v59 h59 =>
      some (v59 + 1, h59)
    ) else (
      bd (isO h1 x0 7) fun _ =>
      bd2 (f_X7_finding h1 x0 (-100005)) fun v33 h33 =>
      some (v33, h33)
    )
  ) else (
    bd (isO h1 x0 7) fun _ =>
    bd2 (f_X7_finding h1 x0 (-100001)) fun v10 h10 =>
    some (v10, h10)
  )

set_option maxRecDepth 100000 in
set_option maxHeartbeats 4000000 in
theorem tm_X7_landing {g : GT} {h : AH} {x0 : Option Nat} {x1 : Int32} {r : Int32} {h' : AH} (hf : f_X7_landing h x0 x1 = some (r, h')) : Xm g mX7_landing [va_rf (x0), .int (x1)] h (some (.int r)) h' := by
  refine xm_of mo_X7_landing (Nat.le_of_ble_eq_true rfl) (ls := [some (va_rf (x0)), some (.int (x1)), none]) rfl ?_
  rw [f_X7_landing] at hf
  refine x_iload_n (pc := 0) (x := x1) dX7_landing_0 rfl ?_
  replace hf := bd2_s hf; obtain ⟨v1, h1, e1, hf⟩ := hf
  refine x_cSi (pc := 1) (M' := mX7_isMile) (as := [.int (x1)]) (st := []) dX7_landing_1 mo_X7_isMile lk_7_97 sm_X7_isMile ⟨Nat.le_of_ble_eq_true rfl, Nat.le_of_ble_eq_true rfl⟩ rfl (Nat.le_of_ble_eq_true rfl) rfl (tm_X7_isMile e1) ?_
  refine x_if_ne (pc := 4) (tgt := 14) (x := v1) dX7_landing_4 rfl (fun hc => ?_) (fun hc => ?_)
  · replace hf := it_t hc hf
    refine x_aload_n (pc := 14) (a := x0) dX7_landing_14 rfl ?_
    replace hf := bd_s hf; obtain ⟨v15, e15, hf⟩ := hf
    refine x_getR (pc := 15) dX7_landing_15 fl_7_10 e15 ?_
    replace hf := bd_s hf; obtain ⟨v18, e18, hf⟩ := hf
    refine x_getR (pc := 18) dX7_landing_18 fl_7_72 e18 ?_
    refine x_iconst (pc := 21) (v := 2) dX7_landing_21 (by decide) ?_
    replace hf := bd_s hf; obtain ⟨v22, e22, hf⟩ := hf
    refine x_ldI (pc := 22) dX7_landing_22 e22 ?_
    refine x_istore_n (pc := 23) (ls' := [some (va_rf (x0)), some (.int (x1)), some (.int (v22))]) dX7_landing_23 (by decide) rfl ?_
    refine x_iload_n (pc := 24) (x := v22) dX7_landing_24 rfl ?_
    refine x_bipush (pc := 25) (v := 8) dX7_landing_25 (by decide) ?_
    refine x_icmp_lt (pc := 27) (tgt := 37) (x := v22) (y := 8) dX7_landing_27 rfl (fun hc => ?_) (fun hc => ?_)
    · replace hf := it_t hc hf
      refine x_aload_n (pc := 37) (a := x0) dX7_landing_37 rfl ?_
      replace hf := bd_s hf; obtain ⟨v38, e38, hf⟩ := hf
      refine x_getR (pc := 38) dX7_landing_38 fl_7_10 e38 ?_
      replace hf := bd_s hf; obtain ⟨v41, e41, hf⟩ := hf
      refine x_getR (pc := 41) dX7_landing_41 fl_7_100 e41 ?_
      refine x_iload_n (pc := 44) (x := v22) dX7_landing_44 rfl ?_
      refine x_iload_n (pc := 45) (x := x1) dX7_landing_45 rfl ?_
      replace hf := bd_s hf; obtain ⟨h46, e46, hf⟩ := hf
      refine x_stI (pc := 46) dX7_landing_46 e46 ?_
      refine x_aload_n (pc := 47) (a := x0) dX7_landing_47 rfl ?_
      refine x_aload_n (pc := 48) (a := x0) dX7_landing_48 rfl ?_
      replace hf := bd_s hf; obtain ⟨v49, e49, hf⟩ := hf
      refine x_getR (pc := 49) dX7_landing_49 fl_7_10 e49 ?_
      replace hf := bd_s hf; obtain ⟨v52, e52, hf⟩ := hf
      refine x_getR (pc := 52) dX7_landing_52 fl_7_72 e52 ?_
      refine x_iconst (pc := 55) (v := 2) dX7_landing_55 (by decide) ?_
      refine x_iload_n (pc := 56) (x := v22) dX7_landing_56 rfl ?_
      refine x_iconst (pc := 57) (v := 1) dX7_landing_57 (by decide) ?_
      refine x_iadd (pc := 58) dX7_landing_58 ?_
      replace hf := bd_s hf; obtain ⟨u59, i59, hf⟩ := hf
      replace hf := bd2_s hf; obtain ⟨v59, h59, e59, hf⟩ := hf
      refine x_cVi (pc := 59) (M' := mX7_change) (as := [va_rf (v52), .int (2), .int (v22 + 1)]) (st := []) (a := x0) (ci := 7) dX7_landing_59 mo_X7_change lk_7_68 im_X7_change se_X7_change rfl ⟨Nat.le_of_ble_eq_true rfl, Nat.le_of_ble_eq_true rfl⟩ rfl (Nat.le_of_ble_eq_true rfl) rfl i59 (tm_X7_change e59) ?_
      refine x_iconst (pc := 62) (v := 1) dX7_landing_62 (by decide) ?_
      refine x_iadd (pc := 63) dX7_landing_63 ?_
      obtain ⟨rfl, rfl⟩ := ret_s hf
      exact x_reti (pc := 64) dX7_landing_64 rfl
    · replace hf := it_f hc hf
      refine x_aload_n (pc := 30) (a := x0) dX7_landing_30 rfl ?_
      refine x_ldc (pc := 31) (v := -100005) dX7_landing_31 kc_7_75 ?_
      replace hf := bd_s hf; obtain ⟨u33, i33, hf⟩ := hf
      replace hf := bd2_s hf; obtain ⟨v33, h33, e33, hf⟩ := hf
      refine x_cVi (pc := 33) (M' := mX7_finding) (as := [.int ((-100005))]) (st := []) (a := x0) (ci := 7) dX7_landing_33 mo_X7_finding lk_7_60 im_X7_finding se_X7_finding rfl ⟨Nat.le_of_ble_eq_true rfl, Nat.le_of_ble_eq_true rfl⟩ rfl (Nat.le_of_ble_eq_true rfl) rfl i33 (tm_X7_finding e33) ?_
      obtain ⟨rfl, rfl⟩ := ret_s hf
      exact x_reti (pc := 36) dX7_landing_36 rfl
  · replace hf := it_n hc hf
    refine x_aload_n (pc := 7) (a := x0) dX7_landing_7 rfl ?_
    refine x_ldc (pc := 8) (v := -100001) dX7_landing_8 kc_7_59 ?_
    replace hf := bd_s hf; obtain ⟨u10, i10, hf⟩ := hf
    replace hf := bd2_s hf; obtain ⟨v10, h10, e10, hf⟩ := hf
    refine x_cVi (pc := 10) (M' := mX7_finding) (as := [.int ((-100001))]) (st := []) (a := x0) (ci := 7) dX7_landing_10 mo_X7_finding lk_7_60 im_X7_finding se_X7_finding rfl ⟨Nat.le_of_ble_eq_true rfl, Nat.le_of_ble_eq_true rfl⟩ rfl (Nat.le_of_ble_eq_true rfl) rfl i10 (tm_X7_finding e10) ?_
    obtain ⟨rfl, rfl⟩ := ret_s hf
    exact x_reti (pc := 13) dX7_landing_13 rfl

def f_X7_launch (h : AH) (x0 : Option Nat) (x1 : Int32) (x2 : Int32) : Option (Int32 × AH) :=
  bd (isO h x0 7) fun _ =>
  bd2 (f_X7_isTrip h x0 x1) fun v2 h2 =>
  if v2 = 0 then (
    bd (isO h2 x0 7) fun _ =>
    bd2 (f_X7_finding h2 x0 (-100001)) fun v18 h18 =>
    some (v18, h18)
  ) else (
    bd2 (f_X7_isDay h2 x2) fun v9 h9 =>
    if ¬ v9 = 0 then (
      bd (isO h9 x0 7) fun _ =>
      bd (f_X7_keepTrips h9 x0 x1 1) fun h25 =>
      bd (gR h25 x0 7 1) fun v29 =>
      bd (isO h25 v29 6) fun _ =>
      bd2 (f_X6_read h25 v29 x1 1) fun v34 h34 =>
      bd (gR h34 x0 7 1) fun v39 =>
      bd (isO h34 v39 6) fun _ =>
      bd (f_X6_write h34 v39 x1 1 x2) fun h45 =>
      bd (gR h45 x0 7 1) fun v49 =>
      bd (isO h45 v49 6) fun _ =>
      bd (f_X6_clearNights h45 v49 x1) fun h53 =>
      some (v34, h53)
    ) else (
      bd (isO h9 x0 7) fun _ =>
      bd2 (f_X7_finding h9 x0 (-100001)) fun v18 h18 =>
      some (v18, h18)
    )
  )

set_option maxRecDepth 100000 in
set_option maxHeartbeats 4000000 in
theorem tm_X7_launch {g : GT} {h : AH} {x0 : Option Nat} {x1 : Int32} {x2 : Int32} {r : Int32} {h' : AH} (hf : f_X7_launch h x0 x1 x2 = some (r, h')) : Xm g mX7_launch [va_rf (x0), .int (x1), .int (x2)] h (some (.int r)) h' := by
  refine xm_of mo_X7_launch (Nat.le_of_ble_eq_true rfl) (ls := [some (va_rf (x0)), some (.int (x1)), some (.int (x2)), none]) rfl ?_
  rw [f_X7_launch] at hf
  refine x_aload_n (pc := 0) (a := x0) dX7_launch_0 rfl ?_
  refine x_iload_n (pc := 1) (x := x1) dX7_launch_1 rfl ?_
  replace hf := bd_s hf; obtain ⟨u2, i2, hf⟩ := hf
  replace hf := bd2_s hf; obtain ⟨v2, h2, e2, hf⟩ := hf
  refine x_cVi (pc := 2) (M' := mX7_isTrip) (as := [.int (x1)]) (st := []) (a := x0) (ci := 7) dX7_launch_2 mo_X7_isTrip lk_7_134 im_X7_isTrip se_X7_isTrip rfl ⟨Nat.le_of_ble_eq_true rfl, Nat.le_of_ble_eq_true rfl⟩ rfl (Nat.le_of_ble_eq_true rfl) rfl i2 (tm_X7_isTrip e2) ?_
  refine x_if_eq (pc := 5) (tgt := 15) (x := v2) dX7_launch_5 rfl (fun hc => ?_) (fun hc => ?_)
  · replace hf := it_t hc hf
    refine x_aload_n (pc := 15) (a := x0) dX7_launch_15 rfl ?_
    refine x_ldc (pc := 16) (v := -100001) dX7_launch_16 kc_7_59 ?_
    replace hf := bd_s hf; obtain ⟨u18, i18, hf⟩ := hf
    replace hf := bd2_s hf; obtain ⟨v18, h18, e18, hf⟩ := hf
    refine x_cVi (pc := 18) (M' := mX7_finding) (as := [.int ((-100001))]) (st := []) (a := x0) (ci := 7) dX7_launch_18 mo_X7_finding lk_7_60 im_X7_finding se_X7_finding rfl ⟨Nat.le_of_ble_eq_true rfl, Nat.le_of_ble_eq_true rfl⟩ rfl (Nat.le_of_ble_eq_true rfl) rfl i18 (tm_X7_finding e18) ?_
    obtain ⟨rfl, rfl⟩ := ret_s hf
    exact x_reti (pc := 21) dX7_launch_21 rfl
  · replace hf := it_f hc hf
    refine x_iload_n (pc := 8) (x := x2) dX7_launch_8 rfl ?_
    replace hf := bd2_s hf; obtain ⟨v9, h9, e9, hf⟩ := hf
    refine x_cSi (pc := 9) (M' := mX7_isDay) (as := [.int (x2)]) (st := []) dX7_launch_9 mo_X7_isDay lk_7_103 sm_X7_isDay ⟨Nat.le_of_ble_eq_true rfl, Nat.le_of_ble_eq_true rfl⟩ rfl (Nat.le_of_ble_eq_true rfl) rfl (tm_X7_isDay e9) ?_
    refine x_if_ne (pc := 12) (tgt := 22) (x := v9) dX7_launch_12 rfl (fun hc => ?_) (fun hc => ?_)
    · replace hf := it_t hc hf
      refine x_aload_n (pc := 22) (a := x0) dX7_launch_22 rfl ?_
      refine x_iload_n (pc := 23) (x := x1) dX7_launch_23 rfl ?_
      refine x_iconst (pc := 24) (v := 1) dX7_launch_24 (by decide) ?_
      replace hf := bd_s hf; obtain ⟨u25, i25, hf⟩ := hf
      replace hf := bd_s hf; obtain ⟨h25, e25, hf⟩ := hf
      refine x_cVv (pc := 25) (M' := mX7_keepTrips) (as := [.int (x1), .int (1)]) (st := []) (a := x0) (ci := 7) dX7_launch_25 mo_X7_keepTrips lk_7_148 im_X7_keepTrips se_X7_keepTrips rfl ⟨Nat.le_of_ble_eq_true rfl, Nat.le_of_ble_eq_true rfl⟩ rfl (Nat.le_of_ble_eq_true rfl) rfl i25 (tm_X7_keepTrips e25) ?_
      refine x_aload_n (pc := 28) (a := x0) dX7_launch_28 rfl ?_
      replace hf := bd_s hf; obtain ⟨v29, e29, hf⟩ := hf
      refine x_getR (pc := 29) dX7_launch_29 fl_7_19 e29 ?_
      refine x_iload_n (pc := 32) (x := x1) dX7_launch_32 rfl ?_
      refine x_iconst (pc := 33) (v := 1) dX7_launch_33 (by decide) ?_
      replace hf := bd_s hf; obtain ⟨u34, i34, hf⟩ := hf
      replace hf := bd2_s hf; obtain ⟨v34, h34, e34, hf⟩ := hf
      refine x_cVi (pc := 34) (M' := mX6_read) (as := [.int (x1), .int (1)]) (st := []) (a := v29) (ci := 6) dX7_launch_34 mo_X6_read lk_7_137 im_X6_read se_X6_read rfl ⟨Nat.le_of_ble_eq_true rfl, Nat.le_of_ble_eq_true rfl⟩ rfl (Nat.le_of_ble_eq_true rfl) rfl i34 (tm_X6_read e34) ?_
      refine x_istore_n (pc := 37) (ls' := [some (va_rf (x0)), some (.int (x1)), some (.int (x2)), some (.int (v34))]) dX7_launch_37 (by decide) rfl ?_
      refine x_aload_n (pc := 38) (a := x0) dX7_launch_38 rfl ?_
      replace hf := bd_s hf; obtain ⟨v39, e39, hf⟩ := hf
      refine x_getR (pc := 39) dX7_launch_39 fl_7_19 e39 ?_
      refine x_iload_n (pc := 42) (x := x1) dX7_launch_42 rfl ?_
      refine x_iconst (pc := 43) (v := 1) dX7_launch_43 (by decide) ?_
      refine x_iload_n (pc := 44) (x := x2) dX7_launch_44 rfl ?_
      replace hf := bd_s hf; obtain ⟨u45, i45, hf⟩ := hf
      replace hf := bd_s hf; obtain ⟨h45, e45, hf⟩ := hf
      refine x_cVv (pc := 45) (M' := mX6_write) (as := [.int (x1), .int (1), .int (x2)]) (st := []) (a := v39) (ci := 6) dX7_launch_45 mo_X6_write lk_7_123 im_X6_write se_X6_write rfl ⟨Nat.le_of_ble_eq_true rfl, Nat.le_of_ble_eq_true rfl⟩ rfl (Nat.le_of_ble_eq_true rfl) rfl i45 (tm_X6_write e45) ?_
      refine x_aload_n (pc := 48) (a := x0) dX7_launch_48 rfl ?_
      replace hf := bd_s hf; obtain ⟨v49, e49, hf⟩ := hf
      refine x_getR (pc := 49) dX7_launch_49 fl_7_19 e49 ?_
      refine x_iload_n (pc := 52) (x := x1) dX7_launch_52 rfl ?_
      replace hf := bd_s hf; obtain ⟨u53, i53, hf⟩ := hf
      replace hf := bd_s hf; obtain ⟨h53, e53, hf⟩ := hf
      refine x_cVv (pc := 53) (M' := mX6_clearNights) (as := [.int (x1)]) (st := []) (a := v49) (ci := 6) dX7_launch_53 mo_X6_clearNights lk_7_127 im_X6_clearNights se_X6_clearNights rfl ⟨Nat.le_of_ble_eq_true rfl, Nat.le_of_ble_eq_true rfl⟩ rfl (Nat.le_of_ble_eq_true rfl) rfl i53 (tm_X6_clearNights e53) ?_
      refine x_iload_n (pc := 56) (x := v34) dX7_launch_56 rfl ?_
      obtain ⟨rfl, rfl⟩ := ret_s hf
      exact x_reti (pc := 57) dX7_launch_57 rfl
    · replace hf := it_n hc hf
      refine x_aload_n (pc := 15) (a := x0) dX7_launch_15 rfl ?_
      refine x_ldc (pc := 16) (v := -100001) dX7_launch_16 kc_7_59 ?_
      replace hf := bd_s hf; obtain ⟨u18, i18, hf⟩ := hf
      replace hf := bd2_s hf; obtain ⟨v18, h18, e18, hf⟩ := hf
      refine x_cVi (pc := 18) (M' := mX7_finding) (as := [.int ((-100001))]) (st := []) (a := x0) (ci := 7) dX7_launch_18 mo_X7_finding lk_7_60 im_X7_finding se_X7_finding rfl ⟨Nat.le_of_ble_eq_true rfl, Nat.le_of_ble_eq_true rfl⟩ rfl (Nat.le_of_ble_eq_true rfl) rfl i18 (tm_X7_finding e18) ?_
      obtain ⟨rfl, rfl⟩ := ret_s hf
      exact x_reti (pc := 21) dX7_launch_21 rfl

def g_X7_let_69 : Nat → AH → Option Nat → Option Nat → Int32 → Int32 → Option (Int32 × AH)
  | 0, _, _, _, _, _ => none
  | n + 1, h, x0, x3, x4, x5 =>
    bd (gI h x3 5 1) fun v72 =>
    if v72 ≤ x5 then (
      bd (gR h x0 7 4) fun v105 =>
      bd (gR h x0 7 0) fun v109 =>
      bd (gR h v109 4 2) fun v112 =>
      bd (gI h x3 5 1) fun v118 =>
      bd (isO h v105 1) fun _ =>
      bd (f_X1_keep h v105 v112 x4 v118) fun h121 =>
      bd (gR h121 x3 5 2) fun v125 =>
      bd (gR h121 x0 7 0) fun v130 =>
      bd (gR h121 v130 4 2) fun v133 =>
      bd (gI h121 x3 5 1) fun v139 =>
      bd (cpI h121 v125 0 v133 x4 v139) fun h142 =>
      bd (gI h142 x3 5 1) fun v146 =>
      some (v146, h142)
    ) else (
      bd (gR h x3 5 2) fun v79 =>
      bd (ldI h v79 x5) fun v84 =>
      bd2 (f_X7_isWater h v84) fun v85 h85 =>
      if ¬ v85 = 0 then (
        g_X7_let_69  n h85 x0 x3 x4 (x5 + 1)
      ) else (
        bd (isO h85 x0 7) fun _ =>
        bd2 (f_X7_finding h85 x0 (-100001)) fun v94 h94 =>
        some (v94, h94)
      )
    )

set_option maxRecDepth 100000 in
set_option maxHeartbeats 4000000 in
theorem tg_X7_let_69 {g : GT} : ∀ (n : Nat) {h : AH} {x0 : Option Nat} {x3 : Option Nat} {x4 : Int32} {x5 : Int32} {r : Int32} {h' : AH}, g_X7_let_69 n h x0 x3 x4 x5 = some (r, h') → Xj g mX7_let h 69 [some (va_rf (x0)), none, none, some (va_rf (x3)), some (.int (x4)), some (.int (x5))] [] (some (.int r)) h' := by
  intro n
  induction n with
  | zero =>
    intros
    rename_i z
    cases z
  | succ n ih =>
    intro h x0 x3 x4 x5 r h' hf
    rw [g_X7_let_69] at hf
    refine x_iload (pc := 69) (x := x5) dX7_let_69 rfl ?_
    refine x_aload_n (pc := 71) (a := x3) dX7_let_71 rfl ?_
    replace hf := bd_s hf; obtain ⟨v72, e72, hf⟩ := hf
    refine x_getI (pc := 72) dX7_let_72 fl_7_239 e72 ?_
    refine x_icmp_ge (pc := 75) (tgt := 104) (x := x5) (y := v72) dX7_let_75 rfl (fun hc => ?_) (fun hc => ?_)
    · replace hf := it_t hc hf
      refine x_aload_n (pc := 104) (a := x0) dX7_let_104 rfl ?_
      replace hf := bd_s hf; obtain ⟨v105, e105, hf⟩ := hf
      refine x_getR (pc := 105) dX7_let_105 fl_7_40 e105 ?_
      refine x_aload_n (pc := 108) (a := x0) dX7_let_108 rfl ?_
      replace hf := bd_s hf; obtain ⟨v109, e109, hf⟩ := hf
      refine x_getR (pc := 109) dX7_let_109 fl_7_10 e109 ?_
      replace hf := bd_s hf; obtain ⟨v112, e112, hf⟩ := hf
      refine x_getR (pc := 112) dX7_let_112 fl_7_106 e112 ?_
      refine x_iload (pc := 115) (x := x4) dX7_let_115 rfl ?_
      refine x_aload_n (pc := 117) (a := x3) dX7_let_117 rfl ?_
      replace hf := bd_s hf; obtain ⟨v118, e118, hf⟩ := hf
      refine x_getI (pc := 118) dX7_let_118 fl_7_239 e118 ?_
      replace hf := bd_s hf; obtain ⟨u121, i121, hf⟩ := hf
      replace hf := bd_s hf; obtain ⟨h121, e121, hf⟩ := hf
      refine x_cVv (pc := 121) (M' := mX1_keep) (as := [va_rf (v112), .int (x4), .int (v118)]) (st := []) (a := v105) (ci := 1) dX7_let_121 mo_X1_keep lk_7_260 im_X1_keep se_X1_keep rfl ⟨Nat.le_of_ble_eq_true rfl, Nat.le_of_ble_eq_true rfl⟩ rfl (Nat.le_of_ble_eq_true rfl) rfl i121 (tm_X1_keep e121) ?_
      refine x_aload_n (pc := 124) (a := x3) dX7_let_124 rfl ?_
      replace hf := bd_s hf; obtain ⟨v125, e125, hf⟩ := hf
      refine x_getR (pc := 125) dX7_let_125 fl_7_241 e125 ?_
      refine x_iconst (pc := 128) (v := 0) dX7_let_128 (by decide) ?_
      refine x_aload_n (pc := 129) (a := x0) dX7_let_129 rfl ?_
      replace hf := bd_s hf; obtain ⟨v130, e130, hf⟩ := hf
      refine x_getR (pc := 130) dX7_let_130 fl_7_10 e130 ?_
      replace hf := bd_s hf; obtain ⟨v133, e133, hf⟩ := hf
      refine x_getR (pc := 133) dX7_let_133 fl_7_106 e133 ?_
      refine x_iload (pc := 136) (x := x4) dX7_let_136 rfl ?_
      refine x_aload_n (pc := 138) (a := x3) dX7_let_138 rfl ?_
      replace hf := bd_s hf; obtain ⟨v139, e139, hf⟩ := hf
      refine x_getI (pc := 139) dX7_let_139 fl_7_239 e139 ?_
      replace hf := bd_s hf; obtain ⟨h142, e142, hf⟩ := hf
      refine x_copy (pc := 142) dX7_let_142 la_7_254 cp_1 cp_2 cp_3 (Nat.le_of_ble_eq_true rfl) (Nat.le_of_ble_eq_true rfl) e142 ?_
      refine x_aload_n (pc := 145) (a := x3) dX7_let_145 rfl ?_
      replace hf := bd_s hf; obtain ⟨v146, e146, hf⟩ := hf
      refine x_getI (pc := 146) dX7_let_146 fl_7_239 e146 ?_
      obtain ⟨rfl, rfl⟩ := ret_s hf
      exact x_reti (pc := 149) dX7_let_149 rfl
    · replace hf := it_f hc hf
      refine x_aload_n (pc := 78) (a := x3) dX7_let_78 rfl ?_
      replace hf := bd_s hf; obtain ⟨v79, e79, hf⟩ := hf
      refine x_getR (pc := 79) dX7_let_79 fl_7_241 e79 ?_
      refine x_iload (pc := 82) (x := x5) dX7_let_82 rfl ?_
      replace hf := bd_s hf; obtain ⟨v84, e84, hf⟩ := hf
      refine x_ldI (pc := 84) dX7_let_84 e84 ?_
      replace hf := bd2_s hf; obtain ⟨v85, h85, e85, hf⟩ := hf
      refine x_cSi (pc := 85) (M' := mX7_isWater) (as := [.int (v84)]) (st := []) dX7_let_85 mo_X7_isWater lk_7_83 sm_X7_isWater ⟨Nat.le_of_ble_eq_true rfl, Nat.le_of_ble_eq_true rfl⟩ rfl (Nat.le_of_ble_eq_true rfl) rfl (tm_X7_isWater e85) ?_
      refine x_if_ne (pc := 88) (tgt := 98) (x := v85) dX7_let_88 rfl (fun hc => ?_) (fun hc => ?_)
      · replace hf := it_t hc hf
        refine x_iinc (pc := 98) (x := x5) (v := x5 + 1) (ls' := [some (va_rf (x0)), none, none, some (va_rf (x3)), some (.int (x4)), some (.int (x5 + 1))]) dX7_let_98 rfl rfl (by decide) rfl ?_
        refine x_goto (pc := 101) (tgt := 69) dX7_let_101 rfl ?_
        exact ih hf
      · replace hf := it_n hc hf
        refine x_aload_n (pc := 91) (a := x0) dX7_let_91 rfl ?_
        refine x_ldc (pc := 92) (v := -100001) dX7_let_92 kc_7_59 ?_
        replace hf := bd_s hf; obtain ⟨u94, i94, hf⟩ := hf
        replace hf := bd2_s hf; obtain ⟨v94, h94, e94, hf⟩ := hf
        refine x_cVi (pc := 94) (M' := mX7_finding) (as := [.int ((-100001))]) (st := []) (a := x0) (ci := 7) dX7_let_94 mo_X7_finding lk_7_60 im_X7_finding se_X7_finding rfl ⟨Nat.le_of_ble_eq_true rfl, Nat.le_of_ble_eq_true rfl⟩ rfl (Nat.le_of_ble_eq_true rfl) rfl i94 (tm_X7_finding e94) ?_
        obtain ⟨rfl, rfl⟩ := ret_s hf
        exact x_reti (pc := 97) dX7_let_97 rfl

def f_X7_let (h : AH) (x0 : Option Nat) (x1 : Int32) (x2 : Int32) : Option (Int32 × AH) :=
  bd2 (f_X7_isDay h x1) fun v1 h1 =>
  if v1 = 0 then (
    bd (isO h1 x0 7) fun _ =>
    bd2 (f_X7_finding h1 x0 (-100001)) fun v17 h17 =>
    some (v17, h17)
  ) else (
    bd2 (f_X7_isSheet h1 x2) fun v8 h8 =>
    if ¬ v8 = 0 then (
      bd (gR h8 x0 7 5) fun v22 =>
      bd (ldR h8 v22 2 x2) fun v26 =>
      bd (isO h8 v26 5) fun _ =>
      bd2 (f_X5_isMissing h8 v26) fun v29 h29 =>
      if v29 = 0 then (
        bd (gI h29 v26 5 1) fun v48 =>
        if v48 ≤ (120 - (x1 * 4)) then (
          g_X7_let_69  NN h29 x0 v26 (x1 * 4) 0
        ) else (
          bd (isO h29 x0 7) fun _ =>
          bd2 (f_X7_finding h29 x0 (-100003)) fun v62 h62 =>
          some (v62, h62)
        )
      ) else (
        bd (isO h29 x0 7) fun _ =>
        bd2 (f_X7_finding h29 x0 (-100002)) fun v38 h38 =>
        some (v38, h38)
      )
    ) else (
      bd (isO h8 x0 7) fun _ =>
      bd2 (f_X7_finding h8 x0 (-100001)) fun v17 h17 =>
      some (v17, h17)
    )
  )

set_option maxRecDepth 100000 in
set_option maxHeartbeats 4000000 in
theorem tm_X7_let {g : GT} {h : AH} {x0 : Option Nat} {x1 : Int32} {x2 : Int32} {r : Int32} {h' : AH} (hf : f_X7_let h x0 x1 x2 = some (r, h')) : Xm g mX7_let [va_rf (x0), .int (x1), .int (x2)] h (some (.int r)) h' := by
  refine xm_of mo_X7_let (Nat.le_of_ble_eq_true rfl) (ls := [some (va_rf (x0)), some (.int (x1)), some (.int (x2)), none, none, none]) rfl ?_
  rw [f_X7_let] at hf
  refine x_iload_n (pc := 0) (x := x1) dX7_let_0 rfl ?_
  replace hf := bd2_s hf; obtain ⟨v1, h1, e1, hf⟩ := hf
  refine x_cSi (pc := 1) (M' := mX7_isDay) (as := [.int (x1)]) (st := []) dX7_let_1 mo_X7_isDay lk_7_103 sm_X7_isDay ⟨Nat.le_of_ble_eq_true rfl, Nat.le_of_ble_eq_true rfl⟩ rfl (Nat.le_of_ble_eq_true rfl) rfl (tm_X7_isDay e1) ?_
  refine x_if_eq (pc := 4) (tgt := 14) (x := v1) dX7_let_4 rfl (fun hc => ?_) (fun hc => ?_)
  · replace hf := it_t hc hf
    refine x_aload_n (pc := 14) (a := x0) dX7_let_14 rfl ?_
    refine x_ldc (pc := 15) (v := -100001) dX7_let_15 kc_7_59 ?_
    replace hf := bd_s hf; obtain ⟨u17, i17, hf⟩ := hf
    replace hf := bd2_s hf; obtain ⟨v17, h17, e17, hf⟩ := hf
    refine x_cVi (pc := 17) (M' := mX7_finding) (as := [.int ((-100001))]) (st := []) (a := x0) (ci := 7) dX7_let_17 mo_X7_finding lk_7_60 im_X7_finding se_X7_finding rfl ⟨Nat.le_of_ble_eq_true rfl, Nat.le_of_ble_eq_true rfl⟩ rfl (Nat.le_of_ble_eq_true rfl) rfl i17 (tm_X7_finding e17) ?_
    obtain ⟨rfl, rfl⟩ := ret_s hf
    exact x_reti (pc := 20) dX7_let_20 rfl
  · replace hf := it_f hc hf
    refine x_iload_n (pc := 7) (x := x2) dX7_let_7 rfl ?_
    replace hf := bd2_s hf; obtain ⟨v8, h8, e8, hf⟩ := hf
    refine x_cSi (pc := 8) (M' := mX7_isSheet) (as := [.int (x2)]) (st := []) dX7_let_8 mo_X7_isSheet lk_7_228 sm_X7_isSheet ⟨Nat.le_of_ble_eq_true rfl, Nat.le_of_ble_eq_true rfl⟩ rfl (Nat.le_of_ble_eq_true rfl) rfl (tm_X7_isSheet e8) ?_
    refine x_if_ne (pc := 11) (tgt := 21) (x := v8) dX7_let_11 rfl (fun hc => ?_) (fun hc => ?_)
    · replace hf := it_t hc hf
      refine x_aload_n (pc := 21) (a := x0) dX7_let_21 rfl ?_
      replace hf := bd_s hf; obtain ⟨v22, e22, hf⟩ := hf
      refine x_getR (pc := 22) dX7_let_22 fl_7_46 e22 ?_
      refine x_iload_n (pc := 25) (x := x2) dX7_let_25 rfl ?_
      replace hf := bd_s hf; obtain ⟨v26, e26, hf⟩ := hf
      refine x_ldR (pc := 26) (by decide) dX7_let_26 e26 ?_
      refine x_astore_n (pc := 27) (ls' := [some (va_rf (x0)), some (.int (x1)), some (.int (x2)), some (va_rf (v26)), none, none]) dX7_let_27 (by decide) rfl ?_
      refine x_aload_n (pc := 28) (a := v26) dX7_let_28 rfl ?_
      replace hf := bd_s hf; obtain ⟨u29, i29, hf⟩ := hf
      replace hf := bd2_s hf; obtain ⟨v29, h29, e29, hf⟩ := hf
      refine x_cVi (pc := 29) (M' := mX5_isMissing) (as := []) (st := []) (a := v26) (ci := 5) dX7_let_29 mo_X5_isMissing lk_7_234 im_X5_isMissing se_X5_isMissing rfl ⟨Nat.le_of_ble_eq_true rfl, Nat.le_of_ble_eq_true rfl⟩ rfl (Nat.le_of_ble_eq_true rfl) rfl i29 (tm_X5_isMissing e29) ?_
      refine x_if_eq (pc := 32) (tgt := 42) (x := v29) dX7_let_32 rfl (fun hc => ?_) (fun hc => ?_)
      · replace hf := it_t hc hf
        refine x_iload_n (pc := 42) (x := x1) dX7_let_42 rfl ?_
        refine x_iconst (pc := 43) (v := 4) dX7_let_43 (by decide) ?_
        refine x_imul (pc := 44) dX7_let_44 ?_
        refine x_istore (pc := 45) (ls' := [some (va_rf (x0)), some (.int (x1)), some (.int (x2)), some (va_rf (v26)), some (.int (x1 * 4)), none]) dX7_let_45 (by decide) rfl ?_
        refine x_aload_n (pc := 47) (a := v26) dX7_let_47 rfl ?_
        replace hf := bd_s hf; obtain ⟨v48, e48, hf⟩ := hf
        refine x_getI (pc := 48) dX7_let_48 fl_7_239 e48 ?_
        refine x_bipush (pc := 51) (v := 120) dX7_let_51 (by decide) ?_
        refine x_iload (pc := 53) (x := x1 * 4) dX7_let_53 rfl ?_
        refine x_isub (pc := 55) dX7_let_55 ?_
        refine x_icmp_le (pc := 56) (tgt := 66) (x := v48) (y := (120 - (x1 * 4))) dX7_let_56 rfl (fun hc => ?_) (fun hc => ?_)
        · replace hf := it_t hc hf
          refine x_iconst (pc := 66) (v := 0) dX7_let_66 (by decide) ?_
          refine x_istore (pc := 67) (ls' := [some (va_rf (x0)), some (.int (x1)), some (.int (x2)), some (va_rf (v26)), some (.int (x1 * 4)), some (.int (0))]) dX7_let_67 (by decide) rfl ?_
          refine x_mask [true, false, false, true, true, true] rfl ?_
          exact tg_X7_let_69  NN hf
        · replace hf := it_f hc hf
          refine x_aload_n (pc := 59) (a := x0) dX7_let_59 rfl ?_
          refine x_ldc (pc := 60) (v := -100003) dX7_let_60 kc_7_87 ?_
          replace hf := bd_s hf; obtain ⟨u62, i62, hf⟩ := hf
          replace hf := bd2_s hf; obtain ⟨v62, h62, e62, hf⟩ := hf
          refine x_cVi (pc := 62) (M' := mX7_finding) (as := [.int ((-100003))]) (st := []) (a := x0) (ci := 7) dX7_let_62 mo_X7_finding lk_7_60 im_X7_finding se_X7_finding rfl ⟨Nat.le_of_ble_eq_true rfl, Nat.le_of_ble_eq_true rfl⟩ rfl (Nat.le_of_ble_eq_true rfl) rfl i62 (tm_X7_finding e62) ?_
          obtain ⟨rfl, rfl⟩ := ret_s hf
          exact x_reti (pc := 65) dX7_let_65 rfl
      · replace hf := it_f hc hf
        refine x_aload_n (pc := 35) (a := x0) dX7_let_35 rfl ?_
        refine x_ldc (pc := 36) (v := -100002) dX7_let_36 kc_7_238 ?_
        replace hf := bd_s hf; obtain ⟨u38, i38, hf⟩ := hf
        replace hf := bd2_s hf; obtain ⟨v38, h38, e38, hf⟩ := hf
        refine x_cVi (pc := 38) (M' := mX7_finding) (as := [.int ((-100002))]) (st := []) (a := x0) (ci := 7) dX7_let_38 mo_X7_finding lk_7_60 im_X7_finding se_X7_finding rfl ⟨Nat.le_of_ble_eq_true rfl, Nat.le_of_ble_eq_true rfl⟩ rfl (Nat.le_of_ble_eq_true rfl) rfl i38 (tm_X7_finding e38) ?_
        obtain ⟨rfl, rfl⟩ := ret_s hf
        exact x_reti (pc := 41) dX7_let_41 rfl
    · replace hf := it_n hc hf
      refine x_aload_n (pc := 14) (a := x0) dX7_let_14 rfl ?_
      refine x_ldc (pc := 15) (v := -100001) dX7_let_15 kc_7_59 ?_
      replace hf := bd_s hf; obtain ⟨u17, i17, hf⟩ := hf
      replace hf := bd2_s hf; obtain ⟨v17, h17, e17, hf⟩ := hf
      refine x_cVi (pc := 17) (M' := mX7_finding) (as := [.int ((-100001))]) (st := []) (a := x0) (ci := 7) dX7_let_17 mo_X7_finding lk_7_60 im_X7_finding se_X7_finding rfl ⟨Nat.le_of_ble_eq_true rfl, Nat.le_of_ble_eq_true rfl⟩ rfl (Nat.le_of_ble_eq_true rfl) rfl i17 (tm_X7_finding e17) ?_
      obtain ⟨rfl, rfl⟩ := ret_s hf
      exact x_reti (pc := 20) dX7_let_20 rfl
