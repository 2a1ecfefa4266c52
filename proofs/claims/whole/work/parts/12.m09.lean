def f_X8_camp (h : AH) (x0 : Option Nat) (x1 : Int32) (x2 : Int32) : Option (Int32 × AH) :=
  bd2 (f_X8_isIn h x1 1 249) fun v5 h5 =>
  if ¬ v5 = 0 then (
    bd (gR h5 x0 8 0) fun v19 =>
    bd (ldI h5 v19 2) fun v23 =>
    if ¬ v23 = 14 then (
      bd (gR h5 x0 8 0) fun v39 =>
      bd (ldI h5 v39 2) fun v43 =>
      bd (isO h5 x0 8) fun _ =>
      bd2 (f_X8_becomes h5 x0 2 (v43 + 1)) fun v46 h46 =>
      bd (gR h46 x0 8 0) fun v51 =>
      bd (stI h46 v51 (8 + (2 * v46)) x1) fun h61 =>
      bd (gR h61 x0 8 0) fun v63 =>
      if x2 = 0 then (
        bd (stI h61 v63 ((8 + (2 * v46)) + 1) 0) fun h83 =>
        some (v46, h83)
      ) else (
        bd (stI h61 v63 ((8 + (2 * v46)) + 1) 1) fun h83 =>
        some (v46, h83)
      )
    ) else (
      bd (isO h5 x0 8) fun _ =>
      bd2 (f_X8_finding h5 x0 (-100005)) fun v32 h32 =>
      some (v32, h32)
    )
  ) else (
    bd (isO h5 x0 8) fun _ =>
    bd2 (f_X8_finding h5 x0 (-100001)) fun v14 h14 =>
    some (v14, h14)
  )

set_option maxRecDepth 100000 in
set_option maxHeartbeats 4000000 in
theorem tm_X8_camp {g : GT} {h : AH} {x0 : Option Nat} {x1 : Int32} {x2 : Int32} {r : Int32} {h' : AH} (hf : f_X8_camp h x0 x1 x2 = some (r, h')) : Xm g mX8_camp [va_rf (x0), .int (x1), .int (x2)] h (some (.int r)) h' := by
  refine xm_of mo_X8_camp (Nat.le_of_ble_eq_true rfl) (ls := [some (va_rf (x0)), some (.int (x1)), some (.int (x2)), none]) rfl ?_
  rw [f_X8_camp] at hf
  refine x_iload_n (pc := 0) (x := x1) dX8_camp_0 rfl ?_
  refine x_iconst (pc := 1) (v := 1) dX8_camp_1 (by decide) ?_
  refine x_sipush (pc := 2) (v := 249) dX8_camp_2 (by decide) ?_
  replace hf := bd2_s hf; obtain ⟨v5, h5, e5, hf⟩ := hf
  refine x_cSi (pc := 5) (M' := mX8_isIn) (as := [.int (x1), .int (1), .int (249)]) (st := []) dX8_camp_5 mo_X8_isIn lk_8_48 sm_X8_isIn ⟨Nat.le_of_ble_eq_true rfl, Nat.le_of_ble_eq_true rfl⟩ rfl (Nat.le_of_ble_eq_true rfl) rfl (tm_X8_isIn e5) ?_
  refine x_if_ne (pc := 8) (tgt := 18) (x := v5) dX8_camp_8 rfl (fun hc => ?_) (fun hc => ?_)
  · replace hf := it_t hc hf
    refine x_aload_n (pc := 18) (a := x0) dX8_camp_18 rfl ?_
    replace hf := bd_s hf; obtain ⟨v19, e19, hf⟩ := hf
    refine x_getR (pc := 19) dX8_camp_19 fl_8_7 e19 ?_
    refine x_iconst (pc := 22) (v := 2) dX8_camp_22 (by decide) ?_
    replace hf := bd_s hf; obtain ⟨v23, e23, hf⟩ := hf
    refine x_ldI (pc := 23) dX8_camp_23 e23 ?_
    refine x_bipush (pc := 24) (v := 14) dX8_camp_24 (by decide) ?_
    refine x_icmp_ne (pc := 26) (tgt := 36) (x := v23) (y := 14) dX8_camp_26 rfl (fun hc => ?_) (fun hc => ?_)
    · replace hf := it_t hc hf
      refine x_aload_n (pc := 36) (a := x0) dX8_camp_36 rfl ?_
      refine x_iconst (pc := 37) (v := 2) dX8_camp_37 (by decide) ?_
      refine x_aload_n (pc := 38) (a := x0) dX8_camp_38 rfl ?_
      replace hf := bd_s hf; obtain ⟨v39, e39, hf⟩ := hf
      refine x_getR (pc := 39) dX8_camp_39 fl_8_7 e39 ?_
      refine x_iconst (pc := 42) (v := 2) dX8_camp_42 (by decide) ?_
      replace hf := bd_s hf; obtain ⟨v43, e43, hf⟩ := hf
      refine x_ldI (pc := 43) dX8_camp_43 e43 ?_
      refine x_iconst (pc := 44) (v := 1) dX8_camp_44 (by decide) ?_
      refine x_iadd (pc := 45) dX8_camp_45 ?_
      replace hf := bd_s hf; obtain ⟨u46, i46, hf⟩ := hf
      replace hf := bd2_s hf; obtain ⟨v46, h46, e46, hf⟩ := hf
      refine x_cVi (pc := 46) (M' := mX8_becomes) (as := [.int (2), .int (v43 + 1)]) (st := []) (a := x0) (ci := 8) dX8_camp_46 mo_X8_becomes lk_8_63 im_X8_becomes se_X8_becomes rfl ⟨Nat.le_of_ble_eq_true rfl, Nat.le_of_ble_eq_true rfl⟩ rfl (Nat.le_of_ble_eq_true rfl) rfl i46 (tm_X8_becomes e46) ?_
      refine x_istore_n (pc := 49) (ls' := [some (va_rf (x0)), some (.int (x1)), some (.int (x2)), some (.int (v46))]) dX8_camp_49 (by decide) rfl ?_
      refine x_aload_n (pc := 50) (a := x0) dX8_camp_50 rfl ?_
      replace hf := bd_s hf; obtain ⟨v51, e51, hf⟩ := hf
      refine x_getR (pc := 51) dX8_camp_51 fl_8_7 e51 ?_
      refine x_bipush (pc := 54) (v := 8) dX8_camp_54 (by decide) ?_
      refine x_iconst (pc := 56) (v := 2) dX8_camp_56 (by decide) ?_
      refine x_iload_n (pc := 57) (x := v46) dX8_camp_57 rfl ?_
      refine x_imul (pc := 58) dX8_camp_58 ?_
      refine x_iadd (pc := 59) dX8_camp_59 ?_
      refine x_iload_n (pc := 60) (x := x1) dX8_camp_60 rfl ?_
      replace hf := bd_s hf; obtain ⟨h61, e61, hf⟩ := hf
      refine x_stI (pc := 61) dX8_camp_61 e61 ?_
      refine x_aload_n (pc := 62) (a := x0) dX8_camp_62 rfl ?_
      replace hf := bd_s hf; obtain ⟨v63, e63, hf⟩ := hf
      refine x_getR (pc := 63) dX8_camp_63 fl_8_7 e63 ?_
      refine x_bipush (pc := 66) (v := 8) dX8_camp_66 (by decide) ?_
      refine x_iconst (pc := 68) (v := 2) dX8_camp_68 (by decide) ?_
      refine x_iload_n (pc := 69) (x := v46) dX8_camp_69 rfl ?_
      refine x_imul (pc := 70) dX8_camp_70 ?_
      refine x_iadd (pc := 71) dX8_camp_71 ?_
      refine x_iconst (pc := 72) (v := 1) dX8_camp_72 (by decide) ?_
      refine x_iadd (pc := 73) dX8_camp_73 ?_
      refine x_iload_n (pc := 74) (x := x2) dX8_camp_74 rfl ?_
      refine x_if_eq (pc := 75) (tgt := 82) (x := x2) dX8_camp_75 rfl (fun hc => ?_) (fun hc => ?_)
      · replace hf := it_t hc hf
        refine x_iconst (pc := 82) (v := 0) dX8_camp_82 (by decide) ?_
        replace hf := bd_s hf; obtain ⟨h83, e83, hf⟩ := hf
        refine x_stI (pc := 83) dX8_camp_83 e83 ?_
        refine x_iload_n (pc := 84) (x := v46) dX8_camp_84 rfl ?_
        obtain ⟨rfl, rfl⟩ := ret_s hf
        exact x_reti (pc := 85) dX8_camp_85 rfl
      · replace hf := it_f hc hf
        refine x_iconst (pc := 78) (v := 1) dX8_camp_78 (by decide) ?_
        refine x_goto (pc := 79) (tgt := 83) dX8_camp_79 rfl ?_
        replace hf := bd_s hf; obtain ⟨h83, e83, hf⟩ := hf
        refine x_stI (pc := 83) dX8_camp_83 e83 ?_
        refine x_iload_n (pc := 84) (x := v46) dX8_camp_84 rfl ?_
        obtain ⟨rfl, rfl⟩ := ret_s hf
        exact x_reti (pc := 85) dX8_camp_85 rfl
    · replace hf := it_n hc hf
      refine x_aload_n (pc := 29) (a := x0) dX8_camp_29 rfl ?_
      refine x_ldc (pc := 30) (v := -100005) dX8_camp_30 kc_8_68 ?_
      replace hf := bd_s hf; obtain ⟨u32, i32, hf⟩ := hf
      replace hf := bd2_s hf; obtain ⟨v32, h32, e32, hf⟩ := hf
      refine x_cVi (pc := 32) (M' := mX8_finding) (as := [.int ((-100005))]) (st := []) (a := x0) (ci := 8) dX8_camp_32 mo_X8_finding lk_8_56 im_X8_finding se_X8_finding rfl ⟨Nat.le_of_ble_eq_true rfl, Nat.le_of_ble_eq_true rfl⟩ rfl (Nat.le_of_ble_eq_true rfl) rfl i32 (tm_X8_finding e32) ?_
      obtain ⟨rfl, rfl⟩ := ret_s hf
      exact x_reti (pc := 35) dX8_camp_35 rfl
  · replace hf := it_n hc hf
    refine x_aload_n (pc := 11) (a := x0) dX8_camp_11 rfl ?_
    refine x_ldc (pc := 12) (v := -100001) dX8_camp_12 kc_8_67 ?_
    replace hf := bd_s hf; obtain ⟨u14, i14, hf⟩ := hf
    replace hf := bd2_s hf; obtain ⟨v14, h14, e14, hf⟩ := hf
    refine x_cVi (pc := 14) (M' := mX8_finding) (as := [.int ((-100001))]) (st := []) (a := x0) (ci := 8) dX8_camp_14 mo_X8_finding lk_8_56 im_X8_finding se_X8_finding rfl ⟨Nat.le_of_ble_eq_true rfl, Nat.le_of_ble_eq_true rfl⟩ rfl (Nat.le_of_ble_eq_true rfl) rfl i14 (tm_X8_finding e14) ?_
    obtain ⟨rfl, rfl⟩ := ret_s hf
    exact x_reti (pc := 17) dX8_camp_17 rfl

def f_X8_isApplicant (h : AH) (x0 : Option Nat) (x1 : Int32) : Option (Int32 × AH) :=
  if x1 < 0 then (
    some (0, h)
  ) else (
    bd (gR h x0 8 0) fun v6 =>
    bd (ldI h v6 6) fun v11 =>
    if v11 ≤ x1 then (
      some (0, h)
    ) else (
      some (1, h)
    )
  )

set_option maxRecDepth 100000 in
set_option maxHeartbeats 4000000 in
theorem tm_X8_isApplicant {g : GT} {h : AH} {x0 : Option Nat} {x1 : Int32} {r : Int32} {h' : AH} (hf : f_X8_isApplicant h x0 x1 = some (r, h')) : Xm g mX8_isApplicant [va_rf (x0), .int (x1)] h (some (.int r)) h' := by
  refine xm_of mo_X8_isApplicant (Nat.le_of_ble_eq_true rfl) (ls := [some (va_rf (x0)), some (.int (x1))]) rfl ?_
  rw [f_X8_isApplicant] at hf
  refine x_iload_n (pc := 0) (x := x1) dX8_isApplicant_0 rfl ?_
  refine x_if_lt (pc := 1) (tgt := 19) (x := x1) dX8_isApplicant_1 rfl (fun hc => ?_) (fun hc => ?_)
  · replace hf := it_t hc hf
    refine x_iconst (pc := 19) (v := 0) dX8_isApplicant_19 (by decide) ?_
    obtain ⟨rfl, rfl⟩ := ret_s hf
    exact x_retz (pc := 20) dX8_isApplicant_20 rfl (by decide)
  · replace hf := it_f hc hf
    refine x_iload_n (pc := 4) (x := x1) dX8_isApplicant_4 rfl ?_
    refine x_aload_n (pc := 5) (a := x0) dX8_isApplicant_5 rfl ?_
    replace hf := bd_s hf; obtain ⟨v6, e6, hf⟩ := hf
    refine x_getR (pc := 6) dX8_isApplicant_6 fl_8_7 e6 ?_
    refine x_bipush (pc := 9) (v := 6) dX8_isApplicant_9 (by decide) ?_
    replace hf := bd_s hf; obtain ⟨v11, e11, hf⟩ := hf
    refine x_ldI (pc := 11) dX8_isApplicant_11 e11 ?_
    refine x_icmp_ge (pc := 12) (tgt := 19) (x := x1) (y := v11) dX8_isApplicant_12 rfl (fun hc => ?_) (fun hc => ?_)
    · replace hf := it_t hc hf
      refine x_iconst (pc := 19) (v := 0) dX8_isApplicant_19 (by decide) ?_
      obtain ⟨rfl, rfl⟩ := ret_s hf
      exact x_retz (pc := 20) dX8_isApplicant_20 rfl (by decide)
    · replace hf := it_f hc hf
      refine x_iconst (pc := 15) (v := 1) dX8_isApplicant_15 (by decide) ?_
      refine x_goto (pc := 16) (tgt := 20) dX8_isApplicant_16 rfl ?_
      obtain ⟨rfl, rfl⟩ := ret_s hf
      exact x_retz (pc := 20) dX8_isApplicant_20 rfl (by decide)

def g_X8_weights_4 : Nat → AH → Option Nat → Int32 → Int32 → Option (Int32 × AH)
  | 0, _, _, _, _ => none
  | n + 1, h, x0, x1, x2 =>
    bd (gR h x0 8 0) fun v6 =>
    bd (ldI h v6 6) fun v11 =>
    if v11 ≤ x2 then (
      some (x1, h)
    ) else (
      bd (gR h x0 8 0) fun v17 =>
      bd (ldI h v17 (544 + x2)) fun v25 =>
      g_X8_weights_4  n h x0 (x1 + v25) (x2 + 1)
    )

set_option maxRecDepth 100000 in
set_option maxHeartbeats 4000000 in
theorem tg_X8_weights_4 {g : GT} : ∀ (n : Nat) {h : AH} {x0 : Option Nat} {x1 : Int32} {x2 : Int32} {r : Int32} {h' : AH}, g_X8_weights_4 n h x0 x1 x2 = some (r, h') → Xj g mX8_weights h 4 [some (va_rf (x0)), some (.int (x1)), some (.int (x2))] [] (some (.int r)) h' := by
  intro n
  induction n with
  | zero =>
    intros
    rename_i z
    cases z
  | succ n ih =>
    intro h x0 x1 x2 r h' hf
    rw [g_X8_weights_4] at hf
    refine x_iload_n (pc := 4) (x := x2) dX8_weights_4 rfl ?_
    refine x_aload_n (pc := 5) (a := x0) dX8_weights_5 rfl ?_
    replace hf := bd_s hf; obtain ⟨v6, e6, hf⟩ := hf
    refine x_getR (pc := 6) dX8_weights_6 fl_8_7 e6 ?_
    refine x_bipush (pc := 9) (v := 6) dX8_weights_9 (by decide) ?_
    replace hf := bd_s hf; obtain ⟨v11, e11, hf⟩ := hf
    refine x_ldI (pc := 11) dX8_weights_11 e11 ?_
    refine x_icmp_ge (pc := 12) (tgt := 34) (x := x2) (y := v11) dX8_weights_12 rfl (fun hc => ?_) (fun hc => ?_)
    · replace hf := it_t hc hf
      refine x_iload_n (pc := 34) (x := x1) dX8_weights_34 rfl ?_
      obtain ⟨rfl, rfl⟩ := ret_s hf
      exact x_reti (pc := 35) dX8_weights_35 rfl
    · replace hf := it_f hc hf
      refine x_iload_n (pc := 15) (x := x1) dX8_weights_15 rfl ?_
      refine x_aload_n (pc := 16) (a := x0) dX8_weights_16 rfl ?_
      replace hf := bd_s hf; obtain ⟨v17, e17, hf⟩ := hf
      refine x_getR (pc := 17) dX8_weights_17 fl_8_7 e17 ?_
      refine x_sipush (pc := 20) (v := 544) dX8_weights_20 (by decide) ?_
      refine x_iload_n (pc := 23) (x := x2) dX8_weights_23 rfl ?_
      refine x_iadd (pc := 24) dX8_weights_24 ?_
      replace hf := bd_s hf; obtain ⟨v25, e25, hf⟩ := hf
      refine x_ldI (pc := 25) dX8_weights_25 e25 ?_
      refine x_iadd (pc := 26) dX8_weights_26 ?_
      refine x_istore_n (pc := 27) (ls' := [some (va_rf (x0)), some (.int (x1 + v25)), some (.int (x2))]) dX8_weights_27 (by decide) rfl ?_
      refine x_iinc (pc := 28) (x := x2) (v := x2 + 1) (ls' := [some (va_rf (x0)), some (.int (x1 + v25)), some (.int (x2 + 1))]) dX8_weights_28 rfl rfl (by decide) rfl ?_
      refine x_goto (pc := 31) (tgt := 4) dX8_weights_31 rfl ?_
      exact ih hf

def f_X8_weights (h : AH) (x0 : Option Nat) : Option (Int32 × AH) :=
  g_X8_weights_4  NN h x0 0 0

set_option maxRecDepth 100000 in
set_option maxHeartbeats 4000000 in
theorem tm_X8_weights {g : GT} {h : AH} {x0 : Option Nat} {r : Int32} {h' : AH} (hf : f_X8_weights h x0 = some (r, h')) : Xm g mX8_weights [va_rf (x0)] h (some (.int r)) h' := by
  refine xm_of mo_X8_weights (Nat.le_of_ble_eq_true rfl) (ls := [some (va_rf (x0)), none, none]) rfl ?_
  rw [f_X8_weights] at hf
  refine x_iconst (pc := 0) (v := 0) dX8_weights_0 (by decide) ?_
  refine x_istore_n (pc := 1) (ls' := [some (va_rf (x0)), some (.int (0)), none]) dX8_weights_1 (by decide) rfl ?_
  refine x_iconst (pc := 2) (v := 0) dX8_weights_2 (by decide) ?_
  refine x_istore_n (pc := 3) (ls' := [some (va_rf (x0)), some (.int (0)), some (.int (0))]) dX8_weights_3 (by decide) rfl ?_
  exact tg_X8_weights_4  NN hf

def g_X8_chance_32 : Nat → AH → Option Nat → Int32 → Int32 → Int32 → Int32 → Option (Int32 × AH)
  | 0, _, _, _, _, _, _ => none
  | n + 1, h, x0, x1, x2, x3, x4 =>
    if x4 = 0 then (
      if x2 = 0 then (
        bd (gR h x0 8 0) fun v67 =>
        bd (ldI h v67 (544 + x1)) fun v75 =>
        bd (dv v75 x3) fun v77 =>
        some (v77, h)
      ) else (
        bd (isO h x0 8) fun _ =>
        bd2 (f_X8_weights h x0) fun v58 h58 =>
        bd (dv v58 x3) fun v62 =>
        some (v62, h58)
      )
    ) else (
      bd (rm x3 x4) fun v40 =>
      g_X8_chance_32  n h x0 x1 x2 x4 v40
    )

set_option maxRecDepth 100000 in
set_option maxHeartbeats 4000000 in
theorem tg_X8_chance_32 {g : GT} : ∀ (n : Nat) {h : AH} {x0 : Option Nat} {x1 : Int32} {x2 : Int32} {x3 : Int32} {x4 : Int32} {r : Int32} {h' : AH}, g_X8_chance_32 n h x0 x1 x2 x3 x4 = some (r, h') → Xj g mX8_chance h 32 [some (va_rf (x0)), some (.int (x1)), some (.int (x2)), some (.int (x3)), some (.int (x4)), none] [] (some (.int r)) h' := by
  intro n
  induction n with
  | zero =>
    intros
    rename_i z
    cases z
  | succ n ih =>
    intro h x0 x1 x2 x3 x4 r h' hf
    rw [g_X8_chance_32] at hf
    refine x_iload (pc := 32) (x := x4) dX8_chance_32 rfl ?_
    refine x_if_eq (pc := 34) (tgt := 53) (x := x4) dX8_chance_34 rfl (fun hc => ?_) (fun hc => ?_)
    · replace hf := it_t hc hf
      refine x_iload_n (pc := 53) (x := x2) dX8_chance_53 rfl ?_
      refine x_if_eq (pc := 54) (tgt := 66) (x := x2) dX8_chance_54 rfl (fun hc => ?_) (fun hc => ?_)
      · replace hf := it_t hc hf
        refine x_aload_n (pc := 66) (a := x0) dX8_chance_66 rfl ?_
        replace hf := bd_s hf; obtain ⟨v67, e67, hf⟩ := hf
        refine x_getR (pc := 67) dX8_chance_67 fl_8_7 e67 ?_
        refine x_sipush (pc := 70) (v := 544) dX8_chance_70 (by decide) ?_
        refine x_iload_n (pc := 73) (x := x1) dX8_chance_73 rfl ?_
        refine x_iadd (pc := 74) dX8_chance_74 ?_
        replace hf := bd_s hf; obtain ⟨v75, e75, hf⟩ := hf
        refine x_ldI (pc := 75) dX8_chance_75 e75 ?_
        refine x_iload_n (pc := 76) (x := x3) dX8_chance_76 rfl ?_
        replace hf := bd_s hf; obtain ⟨v77, e77, hf⟩ := hf
        refine x_dv (pc := 77) dX8_chance_77 e77 ?_
        obtain ⟨rfl, rfl⟩ := ret_s hf
        exact x_reti (pc := 78) dX8_chance_78 rfl
      · replace hf := it_f hc hf
        refine x_aload_n (pc := 57) (a := x0) dX8_chance_57 rfl ?_
        replace hf := bd_s hf; obtain ⟨u58, i58, hf⟩ := hf
        replace hf := bd2_s hf; obtain ⟨v58, h58, e58, hf⟩ := hf
        refine x_cVi (pc := 58) (M' := mX8_weights) (as := []) (st := []) (a := x0) (ci := 8) dX8_chance_58 mo_X8_weights lk_8_148 im_X8_weights se_X8_weights rfl ⟨Nat.le_of_ble_eq_true rfl, Nat.le_of_ble_eq_true rfl⟩ rfl (Nat.le_of_ble_eq_true rfl) rfl i58 (tm_X8_weights e58) ?_
        refine x_iload_n (pc := 61) (x := x3) dX8_chance_61 rfl ?_
        replace hf := bd_s hf; obtain ⟨v62, e62, hf⟩ := hf
        refine x_dv (pc := 62) dX8_chance_62 e62 ?_
        refine x_goto (pc := 63) (tgt := 78) dX8_chance_63 rfl ?_
        obtain ⟨rfl, rfl⟩ := ret_s hf
        exact x_reti (pc := 78) dX8_chance_78 rfl
    · replace hf := it_f hc hf
      refine x_iload_n (pc := 37) (x := x3) dX8_chance_37 rfl ?_
      refine x_iload (pc := 38) (x := x4) dX8_chance_38 rfl ?_
      replace hf := bd_s hf; obtain ⟨v40, e40, hf⟩ := hf
      refine x_rm (pc := 40) dX8_chance_40 e40 ?_
      refine x_istore (pc := 41) (ls' := [some (va_rf (x0)), some (.int (x1)), some (.int (x2)), some (.int (x3)), some (.int (x4)), some (.int (v40))]) dX8_chance_41 (by decide) rfl ?_
      refine x_iload (pc := 43) (x := x4) dX8_chance_43 rfl ?_
      refine x_istore_n (pc := 45) (ls' := [some (va_rf (x0)), some (.int (x1)), some (.int (x2)), some (.int (x4)), some (.int (x4)), some (.int (v40))]) dX8_chance_45 (by decide) rfl ?_
      refine x_iload (pc := 46) (x := v40) dX8_chance_46 rfl ?_
      refine x_istore (pc := 48) (ls' := [some (va_rf (x0)), some (.int (x1)), some (.int (x2)), some (.int (x4)), some (.int (v40)), some (.int (v40))]) dX8_chance_48 (by decide) rfl ?_
      refine x_goto (pc := 50) (tgt := 32) dX8_chance_50 rfl ?_
      refine x_mask [true, true, true, true, true, false] rfl ?_
      exact ih hf

def f_X8_chance (h : AH) (x0 : Option Nat) (x1 : Int32) (x2 : Int32) : Option (Int32 × AH) :=
  bd (isO h x0 8) fun _ =>
  bd2 (f_X8_isApplicant h x0 x1) fun v2 h2 =>
  if ¬ v2 = 0 then (
    bd (gR h2 x0 8 0) fun v16 =>
    bd (ldI h2 v16 (544 + x1)) fun v24 =>
    bd (isO h2 x0 8) fun _ =>
    bd2 (f_X8_weights h2 x0) fun v27 h27 =>
    g_X8_chance_32  NN h27 x0 x1 x2 v24 v27
  ) else (
    bd (isO h2 x0 8) fun _ =>
    bd2 (f_X8_finding h2 x0 (-100001)) fun v11 h11 =>
    some (v11, h11)
  )

set_option maxRecDepth 100000 in
set_option maxHeartbeats 4000000 in
theorem tm_X8_chance {g : GT} {h : AH} {x0 : Option Nat} {x1 : Int32} {x2 : Int32} {r : Int32} {h' : AH} (hf : f_X8_chance h x0 x1 x2 = some (r, h')) : Xm g mX8_chance [va_rf (x0), .int (x1), .int (x2)] h (some (.int r)) h' := by
  refine xm_of mo_X8_chance (Nat.le_of_ble_eq_true rfl) (ls := [some (va_rf (x0)), some (.int (x1)), some (.int (x2)), none, none, none]) rfl ?_
  rw [f_X8_chance] at hf
  refine x_aload_n (pc := 0) (a := x0) dX8_chance_0 rfl ?_
  refine x_iload_n (pc := 1) (x := x1) dX8_chance_1 rfl ?_
  replace hf := bd_s hf; obtain ⟨u2, i2, hf⟩ := hf
  replace hf := bd2_s hf; obtain ⟨v2, h2, e2, hf⟩ := hf
  refine x_cVi (pc := 2) (M' := mX8_isApplicant) (as := [.int (x1)]) (st := []) (a := x0) (ci := 8) dX8_chance_2 mo_X8_isApplicant lk_8_145 im_X8_isApplicant se_X8_isApplicant rfl ⟨Nat.le_of_ble_eq_true rfl, Nat.le_of_ble_eq_true rfl⟩ rfl (Nat.le_of_ble_eq_true rfl) rfl i2 (tm_X8_isApplicant e2) ?_
  refine x_if_ne (pc := 5) (tgt := 15) (x := v2) dX8_chance_5 rfl (fun hc => ?_) (fun hc => ?_)
  · replace hf := it_t hc hf
    refine x_aload_n (pc := 15) (a := x0) dX8_chance_15 rfl ?_
    replace hf := bd_s hf; obtain ⟨v16, e16, hf⟩ := hf
    refine x_getR (pc := 16) dX8_chance_16 fl_8_7 e16 ?_
    refine x_sipush (pc := 19) (v := 544) dX8_chance_19 (by decide) ?_
    refine x_iload_n (pc := 22) (x := x1) dX8_chance_22 rfl ?_
    refine x_iadd (pc := 23) dX8_chance_23 ?_
    replace hf := bd_s hf; obtain ⟨v24, e24, hf⟩ := hf
    refine x_ldI (pc := 24) dX8_chance_24 e24 ?_
    refine x_istore_n (pc := 25) (ls' := [some (va_rf (x0)), some (.int (x1)), some (.int (x2)), some (.int (v24)), none, none]) dX8_chance_25 (by decide) rfl ?_
    refine x_aload_n (pc := 26) (a := x0) dX8_chance_26 rfl ?_
    replace hf := bd_s hf; obtain ⟨u27, i27, hf⟩ := hf
    replace hf := bd2_s hf; obtain ⟨v27, h27, e27, hf⟩ := hf
    refine x_cVi (pc := 27) (M' := mX8_weights) (as := []) (st := []) (a := x0) (ci := 8) dX8_chance_27 mo_X8_weights lk_8_148 im_X8_weights se_X8_weights rfl ⟨Nat.le_of_ble_eq_true rfl, Nat.le_of_ble_eq_true rfl⟩ rfl (Nat.le_of_ble_eq_true rfl) rfl i27 (tm_X8_weights e27) ?_
    refine x_istore (pc := 30) (ls' := [some (va_rf (x0)), some (.int (x1)), some (.int (x2)), some (.int (v24)), some (.int (v27)), none]) dX8_chance_30 (by decide) rfl ?_
    exact tg_X8_chance_32  NN hf
  · replace hf := it_n hc hf
    refine x_aload_n (pc := 8) (a := x0) dX8_chance_8 rfl ?_
    refine x_ldc (pc := 9) (v := -100001) dX8_chance_9 kc_8_67 ?_
    replace hf := bd_s hf; obtain ⟨u11, i11, hf⟩ := hf
    replace hf := bd2_s hf; obtain ⟨v11, h11, e11, hf⟩ := hf
    refine x_cVi (pc := 11) (M' := mX8_finding) (as := [.int ((-100001))]) (st := []) (a := x0) (ci := 8) dX8_chance_11 mo_X8_finding lk_8_56 im_X8_finding se_X8_finding rfl ⟨Nat.le_of_ble_eq_true rfl, Nat.le_of_ble_eq_true rfl⟩ rfl (Nat.le_of_ble_eq_true rfl) rfl i11 (tm_X8_finding e11) ?_
    obtain ⟨rfl, rfl⟩ := ret_s hf
    exact x_reti (pc := 14) dX8_chance_14 rfl

def f_X8_isSheet (h : AH) (x0 : Int32) : Option (Int32 × AH) :=
  bd2 (f_X8_isIn h x0 0 3) fun v3 h3 =>
  bd (bl v3) fun v6 =>
  some (v6, h3)

set_option maxRecDepth 100000 in
set_option maxHeartbeats 4000000 in
theorem tm_X8_isSheet {g : GT} {h : AH} {x0 : Int32} {r : Int32} {h' : AH} (hf : f_X8_isSheet h x0 = some (r, h')) : Xm g mX8_isSheet [.int (x0)] h (some (.int r)) h' := by
  refine xm_of mo_X8_isSheet (Nat.le_of_ble_eq_true rfl) (ls := [some (.int (x0))]) rfl ?_
  rw [f_X8_isSheet] at hf
  refine x_iload_n (pc := 0) (x := x0) dX8_isSheet_0 rfl ?_
  refine x_iconst (pc := 1) (v := 0) dX8_isSheet_1 (by decide) ?_
  refine x_iconst (pc := 2) (v := 3) dX8_isSheet_2 (by decide) ?_
  replace hf := bd2_s hf; obtain ⟨v3, h3, e3, hf⟩ := hf
  refine x_cSi (pc := 3) (M' := mX8_isIn) (as := [.int (x0), .int (0), .int (3)]) (st := []) dX8_isSheet_3 mo_X8_isIn lk_8_48 sm_X8_isIn ⟨Nat.le_of_ble_eq_true rfl, Nat.le_of_ble_eq_true rfl⟩ rfl (Nat.le_of_ble_eq_true rfl) rfl (tm_X8_isIn e3) ?_
  replace hf := bd_s hf; obtain ⟨v6, e6, hf⟩ := hf
  obtain ⟨z6, q6⟩ := bl_s e6
  obtain ⟨rfl, rfl⟩ := ret_s hf
  rw [q6]
  exact x_retz (pc := 6) dX8_isSheet_6 rfl z6

def f_X8_hasPart (h : AH) (x0 : Option Nat) (x1 : Int32) (x2 : Int32) (x3 : Int32) : Option (Int32 × AH) :=
  if x2 < 0 then (
    some (0, h)
  ) else (
    if x3 < 0 then (
      some (0, h)
    ) else (
      bd (gR h x0 8 4) fun v10 =>
      bd (ldI h v10 x1) fun v14 =>
      if v14 < x3 then (
        some (0, h)
      ) else (
        bd (gR h x0 8 4) fun v20 =>
        bd (ldI h v20 x1) fun v24 =>
        if (v24 - x3) < x2 then (
          some (0, h)
        ) else (
          some (1, h)
        )
      )
    )
  )

set_option maxRecDepth 100000 in
set_option maxHeartbeats 4000000 in
theorem tm_X8_hasPart {g : GT} {h : AH} {x0 : Option Nat} {x1 : Int32} {x2 : Int32} {x3 : Int32} {r : Int32} {h' : AH} (hf : f_X8_hasPart h x0 x1 x2 x3 = some (r, h')) : Xm g mX8_hasPart [va_rf (x0), .int (x1), .int (x2), .int (x3)] h (some (.int r)) h' := by
  refine xm_of mo_X8_hasPart (Nat.le_of_ble_eq_true rfl) (ls := [some (va_rf (x0)), some (.int (x1)), some (.int (x2)), some (.int (x3))]) rfl ?_
  rw [f_X8_hasPart] at hf
  refine x_iload_n (pc := 0) (x := x2) dX8_hasPart_0 rfl ?_
  refine x_if_lt (pc := 1) (tgt := 34) (x := x2) dX8_hasPart_1 rfl (fun hc => ?_) (fun hc => ?_)
  · replace hf := it_t hc hf
    refine x_iconst (pc := 34) (v := 0) dX8_hasPart_34 (by decide) ?_
    obtain ⟨rfl, rfl⟩ := ret_s hf
    exact x_retz (pc := 35) dX8_hasPart_35 rfl (by decide)
  · replace hf := it_f hc hf
    refine x_iload_n (pc := 4) (x := x3) dX8_hasPart_4 rfl ?_
    refine x_if_lt (pc := 5) (tgt := 34) (x := x3) dX8_hasPart_5 rfl (fun hc => ?_) (fun hc => ?_)
    · replace hf := it_t hc hf
      refine x_iconst (pc := 34) (v := 0) dX8_hasPart_34 (by decide) ?_
      obtain ⟨rfl, rfl⟩ := ret_s hf
      exact x_retz (pc := 35) dX8_hasPart_35 rfl (by decide)
    · replace hf := it_f hc hf
      refine x_iload_n (pc := 8) (x := x3) dX8_hasPart_8 rfl ?_
      refine x_aload_n (pc := 9) (a := x0) dX8_hasPart_9 rfl ?_
      replace hf := bd_s hf; obtain ⟨v10, e10, hf⟩ := hf
      refine x_getR (pc := 10) dX8_hasPart_10 fl_8_19 e10 ?_
      refine x_iload_n (pc := 13) (x := x1) dX8_hasPart_13 rfl ?_
      replace hf := bd_s hf; obtain ⟨v14, e14, hf⟩ := hf
      refine x_ldI (pc := 14) dX8_hasPart_14 e14 ?_
      refine x_icmp_gt (pc := 15) (tgt := 34) (x := x3) (y := v14) dX8_hasPart_15 rfl (fun hc => ?_) (fun hc => ?_)
      · replace hf := it_t hc hf
        refine x_iconst (pc := 34) (v := 0) dX8_hasPart_34 (by decide) ?_
        obtain ⟨rfl, rfl⟩ := ret_s hf
        exact x_retz (pc := 35) dX8_hasPart_35 rfl (by decide)
      · replace hf := it_f hc hf
        refine x_iload_n (pc := 18) (x := x2) dX8_hasPart_18 rfl ?_
        refine x_aload_n (pc := 19) (a := x0) dX8_hasPart_19 rfl ?_
        replace hf := bd_s hf; obtain ⟨v20, e20, hf⟩ := hf
        refine x_getR (pc := 20) dX8_hasPart_20 fl_8_19 e20 ?_
        refine x_iload_n (pc := 23) (x := x1) dX8_hasPart_23 rfl ?_
        replace hf := bd_s hf; obtain ⟨v24, e24, hf⟩ := hf
        refine x_ldI (pc := 24) dX8_hasPart_24 e24 ?_
        refine x_iload_n (pc := 25) (x := x3) dX8_hasPart_25 rfl ?_
        refine x_isub (pc := 26) dX8_hasPart_26 ?_
        refine x_icmp_gt (pc := 27) (tgt := 34) (x := x2) (y := (v24 - x3)) dX8_hasPart_27 rfl (fun hc => ?_) (fun hc => ?_)
        · replace hf := it_t hc hf
          refine x_iconst (pc := 34) (v := 0) dX8_hasPart_34 (by decide) ?_
          obtain ⟨rfl, rfl⟩ := ret_s hf
          exact x_retz (pc := 35) dX8_hasPart_35 rfl (by decide)
        · replace hf := it_f hc hf
          refine x_iconst (pc := 30) (v := 1) dX8_hasPart_30 (by decide) ?_
          refine x_goto (pc := 31) (tgt := 35) dX8_hasPart_31 rfl ?_
          obtain ⟨rfl, rfl⟩ := ret_s hf
          exact x_retz (pc := 35) dX8_hasPart_35 rfl (by decide)

def g_X8_copy_138 : Nat → AH → Option Nat → Int32 → Int32 → Int32 → Int32 → Option (Int32 × AH)
  | 0, _, _, _, _, _, _ => none
  | n + 1, h, x0, x3, x4, x5, x6 =>
    if x5 ≤ x6 then (
      some (x5, h)
    ) else (
      bd (gR h x0 8 5) fun v146 =>
      bd (gR h x0 8 12) fun v160 =>
      bd (ldI h v160 x6) fun v165 =>
      bd (stI h v146 (((40 * x3) + x4) + x6) v165) fun h166 =>
      g_X8_copy_138  n h166 x0 x3 x4 x5 (x6 + 1)
    )

set_option maxRecDepth 100000 in
set_option maxHeartbeats 4000000 in
theorem tg_X8_copy_138 {g : GT} : ∀ (n : Nat) {h : AH} {x0 : Option Nat} {x3 : Int32} {x4 : Int32} {x5 : Int32} {x6 : Int32} {r : Int32} {h' : AH}, g_X8_copy_138 n h x0 x3 x4 x5 x6 = some (r, h') → Xj g mX8_copy h 138 [some (va_rf (x0)), none, none, some (.int (x3)), some (.int (x4)), some (.int (x5)), some (.int (x6))] [] (some (.int r)) h' := by
  intro n
  induction n with
  | zero =>
    intros
    rename_i z
    cases z
  | succ n ih =>
    intro h x0 x3 x4 x5 x6 r h' hf
    rw [g_X8_copy_138] at hf
    refine x_iload (pc := 138) (x := x6) dX8_copy_138 rfl ?_
    refine x_iload (pc := 140) (x := x5) dX8_copy_140 rfl ?_
    refine x_icmp_ge (pc := 142) (tgt := 173) (x := x6) (y := x5) dX8_copy_142 rfl (fun hc => ?_) (fun hc => ?_)
    · replace hf := it_t hc hf
      refine x_iload (pc := 173) (x := x5) dX8_copy_173 rfl ?_
      obtain ⟨rfl, rfl⟩ := ret_s hf
      exact x_reti (pc := 175) dX8_copy_175 rfl
    · replace hf := it_f hc hf
      refine x_aload_n (pc := 145) (a := x0) dX8_copy_145 rfl ?_
      replace hf := bd_s hf; obtain ⟨v146, e146, hf⟩ := hf
      refine x_getR (pc := 146) dX8_copy_146 fl_8_22 e146 ?_
      refine x_bipush (pc := 149) (v := 40) dX8_copy_149 (by decide) ?_
      refine x_iload_n (pc := 151) (x := x3) dX8_copy_151 rfl ?_
      refine x_imul (pc := 152) dX8_copy_152 ?_
      refine x_iload (pc := 153) (x := x4) dX8_copy_153 rfl ?_
      refine x_iadd (pc := 155) dX8_copy_155 ?_
      refine x_iload (pc := 156) (x := x6) dX8_copy_156 rfl ?_
      refine x_iadd (pc := 158) dX8_copy_158 ?_
      refine x_aload_n (pc := 159) (a := x0) dX8_copy_159 rfl ?_
      replace hf := bd_s hf; obtain ⟨v160, e160, hf⟩ := hf
      refine x_getR (pc := 160) dX8_copy_160 fl_8_41 e160 ?_
      refine x_iload (pc := 163) (x := x6) dX8_copy_163 rfl ?_
      replace hf := bd_s hf; obtain ⟨v165, e165, hf⟩ := hf
      refine x_ldI (pc := 165) dX8_copy_165 e165 ?_
      replace hf := bd_s hf; obtain ⟨h166, e166, hf⟩ := hf
      refine x_stI (pc := 166) dX8_copy_166 e166 ?_
      refine x_iinc (pc := 167) (x := x6) (v := x6 + 1) (ls' := [some (va_rf (x0)), none, none, some (.int (x3)), some (.int (x4)), some (.int (x5)), some (.int (x6 + 1))]) dX8_copy_167 rfl rfl (by decide) rfl ?_
      refine x_goto (pc := 170) (tgt := 138) dX8_copy_170 rfl ?_
      exact ih hf

def g_X8_copy_101 : Nat → AH → Option Nat → Int32 → Int32 → Int32 → Int32 → Int32 → Int32 → Option (Int32 × AH)
  | 0, _, _, _, _, _, _, _, _ => none
  | n + 1, h, x0, x1, x2, x3, x4, x5, x6 =>
    if x5 ≤ x6 then (
      g_X8_copy_138  NN h x0 x3 x4 x5 0
    ) else (
      bd (gR h x0 8 12) fun v109 =>
      bd (gR h x0 8 5) fun v115 =>
      bd (ldI h v115 (((40 * x1) + x2) + x6)) fun v127 =>
      bd (stI h v109 x6 v127) fun h128 =>
      g_X8_copy_101  n h128 x0 x1 x2 x3 x4 x5 (x6 + 1)
    )

set_option maxRecDepth 100000 in
set_option maxHeartbeats 4000000 in
theorem tg_X8_copy_101 {g : GT} : ∀ (n : Nat) {h : AH} {x0 : Option Nat} {x1 : Int32} {x2 : Int32} {x3 : Int32} {x4 : Int32} {x5 : Int32} {x6 : Int32} {r : Int32} {h' : AH}, g_X8_copy_101 n h x0 x1 x2 x3 x4 x5 x6 = some (r, h') → Xj g mX8_copy h 101 [some (va_rf (x0)), some (.int (x1)), some (.int (x2)), some (.int (x3)), some (.int (x4)), some (.int (x5)), some (.int (x6))] [] (some (.int r)) h' := by
  intro n
  induction n with
  | zero =>
    intros
    rename_i z
    cases z
  | succ n ih =>
    intro h x0 x1 x2 x3 x4 x5 x6 r h' hf
    rw [g_X8_copy_101] at hf
    refine x_iload (pc := 101) (x := x6) dX8_copy_101 rfl ?_
    refine x_iload (pc := 103) (x := x5) dX8_copy_103 rfl ?_
    refine x_icmp_ge (pc := 105) (tgt := 135) (x := x6) (y := x5) dX8_copy_105 rfl (fun hc => ?_) (fun hc => ?_)
    · replace hf := it_t hc hf
      refine x_iconst (pc := 135) (v := 0) dX8_copy_135 (by decide) ?_
      refine x_istore (pc := 136) (ls' := [some (va_rf (x0)), some (.int (x1)), some (.int (x2)), some (.int (x3)), some (.int (x4)), some (.int (x5)), some (.int (0))]) dX8_copy_136 (by decide) rfl ?_
      refine x_mask [true, false, false, true, true, true, true] rfl ?_
      exact tg_X8_copy_138  NN hf
    · replace hf := it_f hc hf
      refine x_aload_n (pc := 108) (a := x0) dX8_copy_108 rfl ?_
      replace hf := bd_s hf; obtain ⟨v109, e109, hf⟩ := hf
      refine x_getR (pc := 109) dX8_copy_109 fl_8_41 e109 ?_
      refine x_iload (pc := 112) (x := x6) dX8_copy_112 rfl ?_
      refine x_aload_n (pc := 114) (a := x0) dX8_copy_114 rfl ?_
      replace hf := bd_s hf; obtain ⟨v115, e115, hf⟩ := hf
      refine x_getR (pc := 115) dX8_copy_115 fl_8_22 e115 ?_
      refine x_bipush (pc := 118) (v := 40) dX8_copy_118 (by decide) ?_
      refine x_iload_n (pc := 120) (x := x1) dX8_copy_120 rfl ?_
      refine x_imul (pc := 121) dX8_copy_121 ?_
      refine x_iload_n (pc := 122) (x := x2) dX8_copy_122 rfl ?_
      refine x_iadd (pc := 123) dX8_copy_123 ?_
      refine x_iload (pc := 124) (x := x6) dX8_copy_124 rfl ?_
      refine x_iadd (pc := 126) dX8_copy_126 ?_
      replace hf := bd_s hf; obtain ⟨v127, e127, hf⟩ := hf
      refine x_ldI (pc := 127) dX8_copy_127 e127 ?_
      replace hf := bd_s hf; obtain ⟨h128, e128, hf⟩ := hf
      refine x_stI (pc := 128) dX8_copy_128 e128 ?_
      refine x_iinc (pc := 129) (x := x6) (v := x6 + 1) (ls' := [some (va_rf (x0)), some (.int (x1)), some (.int (x2)), some (.int (x3)), some (.int (x4)), some (.int (x5)), some (.int (x6 + 1))]) dX8_copy_129 rfl rfl (by decide) rfl ?_
      refine x_goto (pc := 132) (tgt := 101) dX8_copy_132 rfl ?_
      exact ih hf

def f_X8_copy (h : AH) (x0 : Option Nat) (x1 : Int32) (x2 : Int32) (x3 : Int32) (x4 : Int32) (x5 : Int32) : Option (Int32 × AH) :=
  bd2 (f_X8_isSheet h x1) fun v1 h1 =>
  if v1 = 0 then (
    bd (isO h1 x0 8) fun _ =>
    bd2 (f_X8_finding h1 x0 (-100001)) fun v17 h17 =>
    some (v17, h17)
  ) else (
    bd2 (f_X8_isSheet h1 x3) fun v8 h8 =>
    if ¬ v8 = 0 then (
      bd (gR h8 x0 8 3) fun v22 =>
      bd (ldI h8 v22 x1) fun v26 =>
      if v26 = 0 then (
        bd (isO h8 x0 8) fun _ =>
        bd2 (f_X8_finding h8 x0 (-100002)) fun v42 h42 =>
        some (v42, h42)
      ) else (
        bd (gR h8 x0 8 3) fun v31 =>
        bd (ldI h8 v31 x3) fun v35 =>
        if ¬ v35 = 0 then (
          bd (gR h8 x0 8 3) fun v47 =>
          bd (ldI h8 v47 x1) fun v51 =>
          bd (gR h8 x0 8 3) fun v53 =>
          bd (ldI h8 v53 x3) fun v57 =>
          if v51 = v57 then (
            bd (isO h8 x0 8) fun _ =>
            bd2 (f_X8_hasPart h8 x0 x1 x2 x5) fun v73 h73 =>
            if v73 = 0 then (
              bd (isO h73 x0 8) fun _ =>
              bd2 (f_X8_finding h73 x0 (-100001)) fun v94 h94 =>
              some (v94, h94)
            ) else (
              bd (isO h73 x0 8) fun _ =>
              bd2 (f_X8_hasPart h73 x0 x3 x4 x5) fun v85 h85 =>
              if ¬ v85 = 0 then (
                g_X8_copy_101  NN h85 x0 x1 x2 x3 x4 x5 0
              ) else (
                bd (isO h85 x0 8) fun _ =>
                bd2 (f_X8_finding h85 x0 (-100001)) fun v94 h94 =>
                some (v94, h94)
              )
            )
          ) else (
            bd (isO h8 x0 8) fun _ =>
            bd2 (f_X8_finding h8 x0 (-100004)) fun v64 h64 =>
            some (v64, h64)
          )
        ) else (
          bd (isO h8 x0 8) fun _ =>
          bd2 (f_X8_finding h8 x0 (-100002)) fun v42 h42 =>
          some (v42, h42)
        )
      )
    ) else (
      bd (isO h8 x0 8) fun _ =>
      bd2 (f_X8_finding h8 x0 (-100001)) fun v17 h17 =>
      some (v17, h17)
    )
  )

set_option maxRecDepth 100000 in
set_option maxHeartbeats 4000000 in
theorem tm_X8_copy {g : GT} {h : AH} {x0 : Option Nat} {x1 : Int32} {x2 : Int32} {x3 : Int32} {x4 : Int32} {x5 : Int32} {r : Int32} {h' : AH} (hf : f_X8_copy h x0 x1 x2 x3 x4 x5 = some (r, h')) : Xm g mX8_copy [va_rf (x0), .int (x1), .int (x2), .int (x3), .int (x4), .int (x5)] h (some (.int r)) h' := by
  refine xm_of mo_X8_copy (Nat.le_of_ble_eq_true rfl) (ls := [some (va_rf (x0)), some (.int (x1)), some (.int (x2)), some (.int (x3)), some (.int (x4)), some (.int (x5)), none]) rfl ?_
  rw [f_X8_copy] at hf
  refine x_iload_n (pc := 0) (x := x1) dX8_copy_0 rfl ?_
  replace hf := bd2_s hf; obtain ⟨v1, h1, e1, hf⟩ := hf
  refine x_cSi (pc := 1) (M' := mX8_isSheet) (as := [.int (x1)]) (st := []) dX8_copy_1 mo_X8_isSheet lk_8_156 sm_X8_isSheet ⟨Nat.le_of_ble_eq_true rfl, Nat.le_of_ble_eq_true rfl⟩ rfl (Nat.le_of_ble_eq_true rfl) rfl (tm_X8_isSheet e1) ?_
  refine x_if_eq (pc := 4) (tgt := 14) (x := v1) dX8_copy_4 rfl (fun hc => ?_) (fun hc => ?_)
  · replace hf := it_t hc hf
    refine x_aload_n (pc := 14) (a := x0) dX8_copy_14 rfl ?_
    refine x_ldc (pc := 15) (v := -100001) dX8_copy_15 kc_8_67 ?_
    replace hf := bd_s hf; obtain ⟨u17, i17, hf⟩ := hf
    replace hf := bd2_s hf; obtain ⟨v17, h17, e17, hf⟩ := hf
    refine x_cVi (pc := 17) (M' := mX8_finding) (as := [.int ((-100001))]) (st := []) (a := x0) (ci := 8) dX8_copy_17 mo_X8_finding lk_8_56 im_X8_finding se_X8_finding rfl ⟨Nat.le_of_ble_eq_true rfl, Nat.le_of_ble_eq_true rfl⟩ rfl (Nat.le_of_ble_eq_true rfl) rfl i17 (tm_X8_finding e17) ?_
    obtain ⟨rfl, rfl⟩ := ret_s hf
    exact x_reti (pc := 20) dX8_copy_20 rfl
  · replace hf := it_f hc hf
    refine x_iload_n (pc := 7) (x := x3) dX8_copy_7 rfl ?_
    replace hf := bd2_s hf; obtain ⟨v8, h8, e8, hf⟩ := hf
    refine x_cSi (pc := 8) (M' := mX8_isSheet) (as := [.int (x3)]) (st := []) dX8_copy_8 mo_X8_isSheet lk_8_156 sm_X8_isSheet ⟨Nat.le_of_ble_eq_true rfl, Nat.le_of_ble_eq_true rfl⟩ rfl (Nat.le_of_ble_eq_true rfl) rfl (tm_X8_isSheet e8) ?_
    refine x_if_ne (pc := 11) (tgt := 21) (x := v8) dX8_copy_11 rfl (fun hc => ?_) (fun hc => ?_)
    · replace hf := it_t hc hf
      refine x_aload_n (pc := 21) (a := x0) dX8_copy_21 rfl ?_
      replace hf := bd_s hf; obtain ⟨v22, e22, hf⟩ := hf
      refine x_getR (pc := 22) dX8_copy_22 fl_8_16 e22 ?_
      refine x_iload_n (pc := 25) (x := x1) dX8_copy_25 rfl ?_
      replace hf := bd_s hf; obtain ⟨v26, e26, hf⟩ := hf
      refine x_ldI (pc := 26) dX8_copy_26 e26 ?_
      refine x_if_eq (pc := 27) (tgt := 39) (x := v26) dX8_copy_27 rfl (fun hc => ?_) (fun hc => ?_)
      · replace hf := it_t hc hf
        refine x_aload_n (pc := 39) (a := x0) dX8_copy_39 rfl ?_
        refine x_ldc (pc := 40) (v := -100002) dX8_copy_40 kc_8_159 ?_
        replace hf := bd_s hf; obtain ⟨u42, i42, hf⟩ := hf
        replace hf := bd2_s hf; obtain ⟨v42, h42, e42, hf⟩ := hf
        refine x_cVi (pc := 42) (M' := mX8_finding) (as := [.int ((-100002))]) (st := []) (a := x0) (ci := 8) dX8_copy_42 mo_X8_finding lk_8_56 im_X8_finding se_X8_finding rfl ⟨Nat.le_of_ble_eq_true rfl, Nat.le_of_ble_eq_true rfl⟩ rfl (Nat.le_of_ble_eq_true rfl) rfl i42 (tm_X8_finding e42) ?_
        obtain ⟨rfl, rfl⟩ := ret_s hf
        exact x_reti (pc := 45) dX8_copy_45 rfl
      · replace hf := it_f hc hf
        refine x_aload_n (pc := 30) (a := x0) dX8_copy_30 rfl ?_
        replace hf := bd_s hf; obtain ⟨v31, e31, hf⟩ := hf
        refine x_getR (pc := 31) dX8_copy_31 fl_8_16 e31 ?_
        refine x_iload_n (pc := 34) (x := x3) dX8_copy_34 rfl ?_
        replace hf := bd_s hf; obtain ⟨v35, e35, hf⟩ := hf
        refine x_ldI (pc := 35) dX8_copy_35 e35 ?_
        refine x_if_ne (pc := 36) (tgt := 46) (x := v35) dX8_copy_36 rfl (fun hc => ?_) (fun hc => ?_)
        · replace hf := it_t hc hf
          refine x_aload_n (pc := 46) (a := x0) dX8_copy_46 rfl ?_
          replace hf := bd_s hf; obtain ⟨v47, e47, hf⟩ := hf
          refine x_getR (pc := 47) dX8_copy_47 fl_8_16 e47 ?_
          refine x_iload_n (pc := 50) (x := x1) dX8_copy_50 rfl ?_
          replace hf := bd_s hf; obtain ⟨v51, e51, hf⟩ := hf
          refine x_ldI (pc := 51) dX8_copy_51 e51 ?_
          refine x_aload_n (pc := 52) (a := x0) dX8_copy_52 rfl ?_
          replace hf := bd_s hf; obtain ⟨v53, e53, hf⟩ := hf
          refine x_getR (pc := 53) dX8_copy_53 fl_8_16 e53 ?_
          refine x_iload_n (pc := 56) (x := x3) dX8_copy_56 rfl ?_
          replace hf := bd_s hf; obtain ⟨v57, e57, hf⟩ := hf
          refine x_ldI (pc := 57) dX8_copy_57 e57 ?_
          refine x_icmp_eq (pc := 58) (tgt := 68) (x := v51) (y := v57) dX8_copy_58 rfl (fun hc => ?_) (fun hc => ?_)
          · replace hf := it_t hc hf
            refine x_aload_n (pc := 68) (a := x0) dX8_copy_68 rfl ?_
            refine x_iload_n (pc := 69) (x := x1) dX8_copy_69 rfl ?_
            refine x_iload_n (pc := 70) (x := x2) dX8_copy_70 rfl ?_
            refine x_iload (pc := 71) (x := x5) dX8_copy_71 rfl ?_
            replace hf := bd_s hf; obtain ⟨u73, i73, hf⟩ := hf
            replace hf := bd2_s hf; obtain ⟨v73, h73, e73, hf⟩ := hf
            refine x_cVi (pc := 73) (M' := mX8_hasPart) (as := [.int (x1), .int (x2), .int (x5)]) (st := []) (a := x0) (ci := 8) dX8_copy_73 mo_X8_hasPart lk_8_160 im_X8_hasPart se_X8_hasPart rfl ⟨Nat.le_of_ble_eq_true rfl, Nat.le_of_ble_eq_true rfl⟩ rfl (Nat.le_of_ble_eq_true rfl) rfl i73 (tm_X8_hasPart e73) ?_
            refine x_if_eq (pc := 76) (tgt := 91) (x := v73) dX8_copy_76 rfl (fun hc => ?_) (fun hc => ?_)
            · replace hf := it_t hc hf
              refine x_aload_n (pc := 91) (a := x0) dX8_copy_91 rfl ?_
              refine x_ldc (pc := 92) (v := -100001) dX8_copy_92 kc_8_67 ?_
              replace hf := bd_s hf; obtain ⟨u94, i94, hf⟩ := hf
              replace hf := bd2_s hf; obtain ⟨v94, h94, e94, hf⟩ := hf
              refine x_cVi (pc := 94) (M' := mX8_finding) (as := [.int ((-100001))]) (st := []) (a := x0) (ci := 8) dX8_copy_94 mo_X8_finding lk_8_56 im_X8_finding se_X8_finding rfl ⟨Nat.le_of_ble_eq_true rfl, Nat.le_of_ble_eq_true rfl⟩ rfl (Nat.le_of_ble_eq_true rfl) rfl i94 (tm_X8_finding e94) ?_
              obtain ⟨rfl, rfl⟩ := ret_s hf
              exact x_reti (pc := 97) dX8_copy_97 rfl
            · replace hf := it_f hc hf
              refine x_aload_n (pc := 79) (a := x0) dX8_copy_79 rfl ?_
              refine x_iload_n (pc := 80) (x := x3) dX8_copy_80 rfl ?_
              refine x_iload (pc := 81) (x := x4) dX8_copy_81 rfl ?_
              refine x_iload (pc := 83) (x := x5) dX8_copy_83 rfl ?_
              replace hf := bd_s hf; obtain ⟨u85, i85, hf⟩ := hf
              replace hf := bd2_s hf; obtain ⟨v85, h85, e85, hf⟩ := hf
              refine x_cVi (pc := 85) (M' := mX8_hasPart) (as := [.int (x3), .int (x4), .int (x5)]) (st := []) (a := x0) (ci := 8) dX8_copy_85 mo_X8_hasPart lk_8_160 im_X8_hasPart se_X8_hasPart rfl ⟨Nat.le_of_ble_eq_true rfl, Nat.le_of_ble_eq_true rfl⟩ rfl (Nat.le_of_ble_eq_true rfl) rfl i85 (tm_X8_hasPart e85) ?_
              refine x_if_ne (pc := 88) (tgt := 98) (x := v85) dX8_copy_88 rfl (fun hc => ?_) (fun hc => ?_)
              · replace hf := it_t hc hf
                refine x_iconst (pc := 98) (v := 0) dX8_copy_98 (by decide) ?_
                refine x_istore (pc := 99) (ls' := [some (va_rf (x0)), some (.int (x1)), some (.int (x2)), some (.int (x3)), some (.int (x4)), some (.int (x5)), some (.int (0))]) dX8_copy_99 (by decide) rfl ?_
                exact tg_X8_copy_101  NN hf
              · replace hf := it_n hc hf
                refine x_aload_n (pc := 91) (a := x0) dX8_copy_91 rfl ?_
                refine x_ldc (pc := 92) (v := -100001) dX8_copy_92 kc_8_67 ?_
                replace hf := bd_s hf; obtain ⟨u94, i94, hf⟩ := hf
                replace hf := bd2_s hf; obtain ⟨v94, h94, e94, hf⟩ := hf
                refine x_cVi (pc := 94) (M' := mX8_finding) (as := [.int ((-100001))]) (st := []) (a := x0) (ci := 8) dX8_copy_94 mo_X8_finding lk_8_56 im_X8_finding se_X8_finding rfl ⟨Nat.le_of_ble_eq_true rfl, Nat.le_of_ble_eq_true rfl⟩ rfl (Nat.le_of_ble_eq_true rfl) rfl i94 (tm_X8_finding e94) ?_
                obtain ⟨rfl, rfl⟩ := ret_s hf
                exact x_reti (pc := 97) dX8_copy_97 rfl
          · replace hf := it_f hc hf
            refine x_aload_n (pc := 61) (a := x0) dX8_copy_61 rfl ?_
            refine x_ldc (pc := 62) (v := -100004) dX8_copy_62 kc_8_97 ?_
            replace hf := bd_s hf; obtain ⟨u64, i64, hf⟩ := hf
            replace hf := bd2_s hf; obtain ⟨v64, h64, e64, hf⟩ := hf
            refine x_cVi (pc := 64) (M' := mX8_finding) (as := [.int ((-100004))]) (st := []) (a := x0) (ci := 8) dX8_copy_64 mo_X8_finding lk_8_56 im_X8_finding se_X8_finding rfl ⟨Nat.le_of_ble_eq_true rfl, Nat.le_of_ble_eq_true rfl⟩ rfl (Nat.le_of_ble_eq_true rfl) rfl i64 (tm_X8_finding e64) ?_
            obtain ⟨rfl, rfl⟩ := ret_s hf
            exact x_reti (pc := 67) dX8_copy_67 rfl
        · replace hf := it_n hc hf
          refine x_aload_n (pc := 39) (a := x0) dX8_copy_39 rfl ?_
          refine x_ldc (pc := 40) (v := -100002) dX8_copy_40 kc_8_159 ?_
          replace hf := bd_s hf; obtain ⟨u42, i42, hf⟩ := hf
          replace hf := bd2_s hf; obtain ⟨v42, h42, e42, hf⟩ := hf
          refine x_cVi (pc := 42) (M' := mX8_finding) (as := [.int ((-100002))]) (st := []) (a := x0) (ci := 8) dX8_copy_42 mo_X8_finding lk_8_56 im_X8_finding se_X8_finding rfl ⟨Nat.le_of_ble_eq_true rfl, Nat.le_of_ble_eq_true rfl⟩ rfl (Nat.le_of_ble_eq_true rfl) rfl i42 (tm_X8_finding e42) ?_
          obtain ⟨rfl, rfl⟩ := ret_s hf
          exact x_reti (pc := 45) dX8_copy_45 rfl
    · replace hf := it_n hc hf
      refine x_aload_n (pc := 14) (a := x0) dX8_copy_14 rfl ?_
      refine x_ldc (pc := 15) (v := -100001) dX8_copy_15 kc_8_67 ?_
      replace hf := bd_s hf; obtain ⟨u17, i17, hf⟩ := hf
      replace hf := bd2_s hf; obtain ⟨v17, h17, e17, hf⟩ := hf
      refine x_cVi (pc := 17) (M' := mX8_finding) (as := [.int ((-100001))]) (st := []) (a := x0) (ci := 8) dX8_copy_17 mo_X8_finding lk_8_56 im_X8_finding se_X8_finding rfl ⟨Nat.le_of_ble_eq_true rfl, Nat.le_of_ble_eq_true rfl⟩ rfl (Nat.le_of_ble_eq_true rfl) rfl i17 (tm_X8_finding e17) ?_
      obtain ⟨rfl, rfl⟩ := ret_s hf
      exact x_reti (pc := 20) dX8_copy_20 rfl

def j_X8_draw_119 (k34 : AH → Option Nat → Int32 → Int32 → Int32 → Option AH) (k66 : AH → Option Nat → Int32 → Int32 → Int32 → Int32 → Int32 → Option AH) (h : AH) (x0 : Option Nat) (x2 : Int32) (x3 : Int32) (x4 : Int32) (x6 : Int32) (y0 : Int32) (y1 : Int32) : Option AH :=
  k66 h x0 x2 x3 x4 (y0 - y1) (x6 + 1)

set_option maxRecDepth 100000 in
set_option maxHeartbeats 4000000 in
theorem tj_X8_draw_119 {g : GT} {k34 : AH → Option Nat → Int32 → Int32 → Int32 → Option AH} {k66 : AH → Option Nat → Int32 → Int32 → Int32 → Int32 → Int32 → Option AH} (hk34 : ∀ (h : AH) (x0 : Option Nat) (x2 : Int32) (x3 : Int32) (x4 : Int32) (h' : AH), k34 h x0 x2 x3 x4 = some h' → Xj g mX8_draw h 34 [some (va_rf (x0)), none, some (.int (x2)), some (.int (x3)), some (.int (x4)), none, none] [] none h') (hk66 : ∀ (h : AH) (x0 : Option Nat) (x2 : Int32) (x3 : Int32) (x4 : Int32) (x5 : Int32) (x6 : Int32) (h' : AH), k66 h x0 x2 x3 x4 x5 x6 = some h' → Xj g mX8_draw h 66 [some (va_rf (x0)), none, some (.int (x2)), some (.int (x3)), some (.int (x4)), some (.int (x5)), some (.int (x6))] [] none h') {h : AH} {x0 : Option Nat} {x2 : Int32} {x3 : Int32} {x4 : Int32} {x6 : Int32} {y0 : Int32} {y1 : Int32} {h' : AH} (hf : j_X8_draw_119 k34 k66 h x0 x2 x3 x4 x6 y0 y1 = some h') : Xj g mX8_draw h 119 [some (va_rf (x0)), none, some (.int (x2)), some (.int (x3)), some (.int (x4)), none, some (.int (x6))] [.int (y1), .int (y0)] none h' := by
  rw [j_X8_draw_119] at hf
  refine x_isub (pc := 119) dX8_draw_119 ?_
  refine x_istore (pc := 120) (ls' := [some (va_rf (x0)), none, some (.int (x2)), some (.int (x3)), some (.int (x4)), some (.int (y0 - y1)), some (.int (x6))]) dX8_draw_120 (by decide) rfl ?_
  refine x_iinc (pc := 122) (x := x6) (v := x6 + 1) (ls' := [some (va_rf (x0)), none, some (.int (x2)), some (.int (x3)), some (.int (x4)), some (.int (y0 - y1)), some (.int (x6 + 1))]) dX8_draw_122 rfl rfl (by decide) rfl ?_
  refine x_goto (pc := 125) (tgt := 66) dX8_draw_125 rfl ?_
  exact hk66 _ _ _ _ _ _ _ _ hf

def j_X8_draw_92 (k34 : AH → Option Nat → Int32 → Int32 → Int32 → Option AH) (k66 : AH → Option Nat → Int32 → Int32 → Int32 → Int32 → Int32 → Option AH) (h : AH) (x0 : Option Nat) (x2 : Int32) (x3 : Int32) (x4 : Int32) (x5 : Int32) (x6 : Int32) : Option AH :=
  bd (gR h x0 8 11) fun v95 =>
  bd (ldZ h v95 x6) fun v100 =>
  if v100 = 0 then (
    bd (gR h x0 8 0) fun v109 =>
    bd (ldI h v109 (544 + x6)) fun v118 =>
    j_X8_draw_119 k34 k66 h x0 x2 x3 x4 x6 x5 v118
  ) else (
    j_X8_draw_119 k34 k66 h x0 x2 x3 x4 x6 x5 0
  )

set_option maxRecDepth 100000 in
set_option maxHeartbeats 4000000 in
theorem tj_X8_draw_92 {g : GT} {k34 : AH → Option Nat → Int32 → Int32 → Int32 → Option AH} {k66 : AH → Option Nat → Int32 → Int32 → Int32 → Int32 → Int32 → Option AH} (hk34 : ∀ (h : AH) (x0 : Option Nat) (x2 : Int32) (x3 : Int32) (x4 : Int32) (h' : AH), k34 h x0 x2 x3 x4 = some h' → Xj g mX8_draw h 34 [some (va_rf (x0)), none, some (.int (x2)), some (.int (x3)), some (.int (x4)), none, none] [] none h') (hk66 : ∀ (h : AH) (x0 : Option Nat) (x2 : Int32) (x3 : Int32) (x4 : Int32) (x5 : Int32) (x6 : Int32) (h' : AH), k66 h x0 x2 x3 x4 x5 x6 = some h' → Xj g mX8_draw h 66 [some (va_rf (x0)), none, some (.int (x2)), some (.int (x3)), some (.int (x4)), some (.int (x5)), some (.int (x6))] [] none h') {h : AH} {x0 : Option Nat} {x2 : Int32} {x3 : Int32} {x4 : Int32} {x5 : Int32} {x6 : Int32} {h' : AH} (hf : j_X8_draw_92 k34 k66 h x0 x2 x3 x4 x5 x6 = some h') : Xj g mX8_draw h 92 [some (va_rf (x0)), none, some (.int (x2)), some (.int (x3)), some (.int (x4)), some (.int (x5)), some (.int (x6))] [] none h' := by
  rw [j_X8_draw_92] at hf
  refine x_iload (pc := 92) (x := x5) dX8_draw_92 rfl ?_
  refine x_aload_n (pc := 94) (a := x0) dX8_draw_94 rfl ?_
  replace hf := bd_s hf; obtain ⟨v95, e95, hf⟩ := hf
  refine x_getR (pc := 95) dX8_draw_95 fl_8_37 e95 ?_
  refine x_iload (pc := 98) (x := x6) dX8_draw_98 rfl ?_
  replace hf := bd_s hf; obtain ⟨v100, e100, hf⟩ := hf
  refine x_ldZ (pc := 100) dX8_draw_100 e100 ?_
  refine x_if_eq (pc := 101) (tgt := 108) (x := v100) dX8_draw_101 rfl (fun hc => ?_) (fun hc => ?_)
  · replace hf := it_t hc hf
    refine x_aload_n (pc := 108) (a := x0) dX8_draw_108 rfl ?_
    replace hf := bd_s hf; obtain ⟨v109, e109, hf⟩ := hf
    refine x_getR (pc := 109) dX8_draw_109 fl_8_7 e109 ?_
    refine x_sipush (pc := 112) (v := 544) dX8_draw_112 (by decide) ?_
    refine x_iload (pc := 115) (x := x6) dX8_draw_115 rfl ?_
    refine x_iadd (pc := 117) dX8_draw_117 ?_
    replace hf := bd_s hf; obtain ⟨v118, e118, hf⟩ := hf
    refine x_ldI (pc := 118) dX8_draw_118 e118 ?_
    refine x_mask [true, false, true, true, true, false, true] rfl ?_
    exact tj_X8_draw_119 hk34 hk66 hf
  · replace hf := it_f hc hf
    refine x_iconst (pc := 104) (v := 0) dX8_draw_104 (by decide) ?_
    refine x_goto (pc := 105) (tgt := 119) dX8_draw_105 rfl ?_
    refine x_mask [true, false, true, true, true, false, true] rfl ?_
    exact tj_X8_draw_119 hk34 hk66 hf

def g_X8_draw_66 (k34 : AH → Option Nat → Int32 → Int32 → Int32 → Option AH) : Nat → AH → Option Nat → Int32 → Int32 → Int32 → Int32 → Int32 → Option AH
  | 0, _, _, _, _, _, _, _ => none
  | n + 1, h, x0, x2, x3, x4, x5, x6 =>
    bd (gR h x0 8 11) fun v67 =>
    bd (ldZ h v67 x6) fun v72 =>
    if ¬ v72 = 0 then (
      j_X8_draw_92 k34 (fun h x0 x2 x3 x4 x5 x6 => g_X8_draw_66 k34 n h x0 x2 x3 x4 x5 x6) h x0 x2 x3 x4 x5 x6
    ) else (
      bd (gR h x0 8 0) fun v79 =>
      bd (ldI h v79 (544 + x6)) fun v88 =>
      if x5 < v88 then (
        bd (gR h x0 8 10) fun v129 =>
        bd (stI h v129 x4 x6) fun h136 =>
        bd (gR h136 x0 8 11) fun v138 =>
        bd (stZ h136 v138 x6 1) fun h144 =>
        bd (gR h144 x0 8 0) fun v147 =>
        bd (ldI h144 v147 (544 + x6)) fun v156 =>
        k34 h144 x0 x2 (x3 - v156) (x4 + 1)
      ) else (
        j_X8_draw_92 k34 (fun h x0 x2 x3 x4 x5 x6 => g_X8_draw_66 k34 n h x0 x2 x3 x4 x5 x6) h x0 x2 x3 x4 x5 x6
      )
    )

set_option maxRecDepth 100000 in
set_option maxHeartbeats 4000000 in
theorem tg_X8_draw_66 {g : GT} {k34 : AH → Option Nat → Int32 → Int32 → Int32 → Option AH} (hk34 : ∀ (h : AH) (x0 : Option Nat) (x2 : Int32) (x3 : Int32) (x4 : Int32) (h' : AH), k34 h x0 x2 x3 x4 = some h' → Xj g mX8_draw h 34 [some (va_rf (x0)), none, some (.int (x2)), some (.int (x3)), some (.int (x4)), none, none] [] none h') : ∀ (n : Nat) {h : AH} {x0 : Option Nat} {x2 : Int32} {x3 : Int32} {x4 : Int32} {x5 : Int32} {x6 : Int32} {h' : AH}, g_X8_draw_66 k34 n h x0 x2 x3 x4 x5 x6 = some h' → Xj g mX8_draw h 66 [some (va_rf (x0)), none, some (.int (x2)), some (.int (x3)), some (.int (x4)), some (.int (x5)), some (.int (x6))] [] none h' := by
  intro n
  induction n with
  | zero =>
    intros
    rename_i z
    cases z
  | succ n ih =>
    intro h x0 x2 x3 x4 x5 x6 h' hf
    rw [g_X8_draw_66] at hf
    refine x_aload_n (pc := 66) (a := x0) dX8_draw_66 rfl ?_
    replace hf := bd_s hf; obtain ⟨v67, e67, hf⟩ := hf
    refine x_getR (pc := 67) dX8_draw_67 fl_8_37 e67 ?_
    refine x_iload (pc := 70) (x := x6) dX8_draw_70 rfl ?_
    replace hf := bd_s hf; obtain ⟨v72, e72, hf⟩ := hf
    refine x_ldZ (pc := 72) dX8_draw_72 e72 ?_
    refine x_if_ne (pc := 73) (tgt := 92) (x := v72) dX8_draw_73 rfl (fun hc => ?_) (fun hc => ?_)
    · replace hf := it_t hc hf
      exact tj_X8_draw_92 hk34 (fun _ _ _ _ _ _ _ _ z => ih z) hf
    · replace hf := it_n hc hf
      refine x_iload (pc := 76) (x := x5) dX8_draw_76 rfl ?_
      refine x_aload_n (pc := 78) (a := x0) dX8_draw_78 rfl ?_
      replace hf := bd_s hf; obtain ⟨v79, e79, hf⟩ := hf
      refine x_getR (pc := 79) dX8_draw_79 fl_8_7 e79 ?_
      refine x_sipush (pc := 82) (v := 544) dX8_draw_82 (by decide) ?_
      refine x_iload (pc := 85) (x := x6) dX8_draw_85 rfl ?_
      refine x_iadd (pc := 87) dX8_draw_87 ?_
      replace hf := bd_s hf; obtain ⟨v88, e88, hf⟩ := hf
      refine x_ldI (pc := 88) dX8_draw_88 e88 ?_
      refine x_icmp_lt (pc := 89) (tgt := 128) (x := x5) (y := v88) dX8_draw_89 rfl (fun hc => ?_) (fun hc => ?_)
      · replace hf := it_t hc hf
        refine x_aload_n (pc := 128) (a := x0) dX8_draw_128 rfl ?_
        replace hf := bd_s hf; obtain ⟨v129, e129, hf⟩ := hf
        refine x_getR (pc := 129) dX8_draw_129 fl_8_34 e129 ?_
        refine x_iload (pc := 132) (x := x4) dX8_draw_132 rfl ?_
        refine x_iload (pc := 134) (x := x6) dX8_draw_134 rfl ?_
        replace hf := bd_s hf; obtain ⟨h136, e136, hf⟩ := hf
        refine x_stI (pc := 136) dX8_draw_136 e136 ?_
        refine x_aload_n (pc := 137) (a := x0) dX8_draw_137 rfl ?_
        replace hf := bd_s hf; obtain ⟨v138, e138, hf⟩ := hf
        refine x_getR (pc := 138) dX8_draw_138 fl_8_37 e138 ?_
        refine x_iload (pc := 141) (x := x6) dX8_draw_141 rfl ?_
        refine x_iconst (pc := 143) (v := 1) dX8_draw_143 (by decide) ?_
        replace hf := bd_s hf; obtain ⟨h144, e144, hf⟩ := hf
        refine x_stZ (pc := 144) dX8_draw_144 e144 ?_
        refine x_iload_n (pc := 145) (x := x3) dX8_draw_145 rfl ?_
        refine x_aload_n (pc := 146) (a := x0) dX8_draw_146 rfl ?_
        replace hf := bd_s hf; obtain ⟨v147, e147, hf⟩ := hf
        refine x_getR (pc := 147) dX8_draw_147 fl_8_7 e147 ?_
        refine x_sipush (pc := 150) (v := 544) dX8_draw_150 (by decide) ?_
        refine x_iload (pc := 153) (x := x6) dX8_draw_153 rfl ?_
        refine x_iadd (pc := 155) dX8_draw_155 ?_
        replace hf := bd_s hf; obtain ⟨v156, e156, hf⟩ := hf
        refine x_ldI (pc := 156) dX8_draw_156 e156 ?_
        refine x_isub (pc := 157) dX8_draw_157 ?_
        refine x_istore_n (pc := 158) (ls' := [some (va_rf (x0)), none, some (.int (x2)), some (.int (x3 - v156)), some (.int (x4)), some (.int (x5)), some (.int (x6))]) dX8_draw_158 (by decide) rfl ?_
        refine x_iinc (pc := 159) (x := x4) (v := x4 + 1) (ls' := [some (va_rf (x0)), none, some (.int (x2)), some (.int (x3 - v156)), some (.int (x4 + 1)), some (.int (x5)), some (.int (x6))]) dX8_draw_159 rfl rfl (by decide) rfl ?_
        refine x_goto (pc := 162) (tgt := 34) dX8_draw_162 rfl ?_
        refine x_mask [true, false, true, true, true, false, false] rfl ?_
        exact hk34 _ _ _ _ _ _ hf
      · replace hf := it_f hc hf
        exact tj_X8_draw_92 hk34 (fun _ _ _ _ _ _ _ _ z => ih z) hf

def g_X8_draw_34 : Nat → AH → Option Nat → Int32 → Int32 → Int32 → Option AH
  | 0, _, _, _, _, _ => none
  | n + 1, h, x0, x2, x3, x4 =>
    bd (gR h x0 8 0) fun v37 =>
    bd (ldI h v37 6) fun v42 =>
    if v42 ≤ x4 then (
      some h
    ) else (
      bd (rm ((((1103515245 * x2) + 12345 : Int32).toUInt32 >>> ((16 : Int32).toUInt32 &&& Int32.toUInt32 31)).toInt32) x3) fun v60 =>
      g_X8_draw_66 (fun h x0 x2 x3 x4 => g_X8_draw_34  n h x0 x2 x3 x4) NN h x0 ((1103515245 * x2) + 12345) x3 x4 v60 0
    )

set_option maxRecDepth 100000 in
set_option maxHeartbeats 4000000 in
theorem tg_X8_draw_34 {g : GT} : ∀ (n : Nat) {h : AH} {x0 : Option Nat} {x2 : Int32} {x3 : Int32} {x4 : Int32} {h' : AH}, g_X8_draw_34 n h x0 x2 x3 x4 = some h' → Xj g mX8_draw h 34 [some (va_rf (x0)), none, some (.int (x2)), some (.int (x3)), some (.int (x4)), none, none] [] none h' := by
  intro n
  induction n with
  | zero =>
    intros
    rename_i z
    cases z
  | succ n ih =>
    intro h x0 x2 x3 x4 h' hf
    rw [g_X8_draw_34] at hf
    refine x_iload (pc := 34) (x := x4) dX8_draw_34 rfl ?_
    refine x_aload_n (pc := 36) (a := x0) dX8_draw_36 rfl ?_
    replace hf := bd_s hf; obtain ⟨v37, e37, hf⟩ := hf
    refine x_getR (pc := 37) dX8_draw_37 fl_8_7 e37 ?_
    refine x_bipush (pc := 40) (v := 6) dX8_draw_40 (by decide) ?_
    replace hf := bd_s hf; obtain ⟨v42, e42, hf⟩ := hf
    refine x_ldI (pc := 42) dX8_draw_42 e42 ?_
    refine x_icmp_ge (pc := 43) (tgt := 165) (x := x4) (y := v42) dX8_draw_43 rfl (fun hc => ?_) (fun hc => ?_)
    · replace hf := it_t hc hf
      obtain rfl := Option.some.inj hf
      exact x_vret (pc := 165) dX8_draw_165 rfl
    · replace hf := it_f hc hf
      refine x_ldc (pc := 46) (v := 1103515245) dX8_draw_46 kc_8_152 ?_
      refine x_iload_n (pc := 48) (x := x2) dX8_draw_48 rfl ?_
      refine x_imul (pc := 49) dX8_draw_49 ?_
      refine x_sipush (pc := 50) (v := 12345) dX8_draw_50 (by decide) ?_
      refine x_iadd (pc := 53) dX8_draw_53 ?_
      refine x_istore_n (pc := 54) (ls' := [some (va_rf (x0)), none, some (.int ((1103515245 * x2) + 12345)), some (.int (x3)), some (.int (x4)), none, none]) dX8_draw_54 (by decide) rfl ?_
      refine x_iload_n (pc := 55) (x := (1103515245 * x2) + 12345) dX8_draw_55 rfl ?_
      refine x_bipush (pc := 56) (v := 16) dX8_draw_56 (by decide) ?_
      refine x_iushr (pc := 58) dX8_draw_58 ?_
      refine x_iload_n (pc := 59) (x := x3) dX8_draw_59 rfl ?_
      replace hf := bd_s hf; obtain ⟨v60, e60, hf⟩ := hf
      refine x_rm (pc := 60) dX8_draw_60 e60 ?_
      refine x_istore (pc := 61) (ls' := [some (va_rf (x0)), none, some (.int ((1103515245 * x2) + 12345)), some (.int (x3)), some (.int (x4)), some (.int (v60)), none]) dX8_draw_61 (by decide) rfl ?_
      refine x_iconst (pc := 63) (v := 0) dX8_draw_63 (by decide) ?_
      refine x_istore (pc := 64) (ls' := [some (va_rf (x0)), none, some (.int ((1103515245 * x2) + 12345)), some (.int (x3)), some (.int (x4)), some (.int (v60)), some (.int (0))]) dX8_draw_64 (by decide) rfl ?_
      exact tg_X8_draw_66 (fun _ _ _ _ _ _ z => ih z) NN hf

def g_X8_draw_10 : Nat → AH → Option Nat → Int32 → Int32 → Int32 → Option AH
  | 0, _, _, _, _, _ => none
  | n + 1, h, x0, x2, x3, x4 =>
    if 12 ≤ x4 then (
      g_X8_draw_34  NN h x0 x2 x3 0
    ) else (
      bd (gR h x0 8 11) fun v18 =>
      bd (stZ h v18 x4 0) fun h24 =>
      g_X8_draw_10  n h24 x0 x2 x3 (x4 + 1)
    )

set_option maxRecDepth 100000 in
set_option maxHeartbeats 4000000 in
theorem tg_X8_draw_10 {g : GT} : ∀ (n : Nat) {h : AH} {x0 : Option Nat} {x2 : Int32} {x3 : Int32} {x4 : Int32} {h' : AH}, g_X8_draw_10 n h x0 x2 x3 x4 = some h' → Xj g mX8_draw h 10 [some (va_rf (x0)), none, some (.int (x2)), some (.int (x3)), some (.int (x4)), none, none] [] none h' := by
  intro n
  induction n with
  | zero =>
    intros
    rename_i z
    cases z
  | succ n ih =>
    intro h x0 x2 x3 x4 h' hf
    rw [g_X8_draw_10] at hf
    refine x_iload (pc := 10) (x := x4) dX8_draw_10 rfl ?_
    refine x_bipush (pc := 12) (v := 12) dX8_draw_12 (by decide) ?_
    refine x_icmp_ge (pc := 14) (tgt := 31) (x := x4) (y := 12) dX8_draw_14 rfl (fun hc => ?_) (fun hc => ?_)
    · replace hf := it_t hc hf
      refine x_iconst (pc := 31) (v := 0) dX8_draw_31 (by decide) ?_
      refine x_istore (pc := 32) (ls' := [some (va_rf (x0)), none, some (.int (x2)), some (.int (x3)), some (.int (0)), none, none]) dX8_draw_32 (by decide) rfl ?_
      exact tg_X8_draw_34  NN hf
    · replace hf := it_f hc hf
      refine x_aload_n (pc := 17) (a := x0) dX8_draw_17 rfl ?_
      replace hf := bd_s hf; obtain ⟨v18, e18, hf⟩ := hf
      refine x_getR (pc := 18) dX8_draw_18 fl_8_37 e18 ?_
      refine x_iload (pc := 21) (x := x4) dX8_draw_21 rfl ?_
      refine x_iconst (pc := 23) (v := 0) dX8_draw_23 (by decide) ?_
      replace hf := bd_s hf; obtain ⟨h24, e24, hf⟩ := hf
      refine x_stZ (pc := 24) dX8_draw_24 e24 ?_
      refine x_iinc (pc := 25) (x := x4) (v := x4 + 1) (ls' := [some (va_rf (x0)), none, some (.int (x2)), some (.int (x3)), some (.int (x4 + 1)), none, none]) dX8_draw_25 rfl rfl (by decide) rfl ?_
      refine x_goto (pc := 28) (tgt := 10) dX8_draw_28 rfl ?_
      exact ih hf

def f_X8_draw (h : AH) (x0 : Option Nat) (x1 : Int32) : Option AH :=
  bd (isO h x0 8) fun _ =>
  bd2 (f_X8_weights h x0) fun v3 h3 =>
  g_X8_draw_10  NN h3 x0 x1 v3 0

set_option maxRecDepth 100000 in
set_option maxHeartbeats 4000000 in
theorem tm_X8_draw {g : GT} {h : AH} {x0 : Option Nat} {x1 : Int32} {h' : AH} (hf : f_X8_draw h x0 x1 = some h') : Xm g mX8_draw [va_rf (x0), .int (x1)] h none h' := by
  refine xm_of mo_X8_draw (Nat.le_of_ble_eq_true rfl) (ls := [some (va_rf (x0)), some (.int (x1)), none, none, none, none, none]) rfl ?_
  rw [f_X8_draw] at hf
  refine x_iload_n (pc := 0) (x := x1) dX8_draw_0 rfl ?_
  refine x_istore_n (pc := 1) (ls' := [some (va_rf (x0)), some (.int (x1)), some (.int (x1)), none, none, none, none]) dX8_draw_1 (by decide) rfl ?_
  refine x_aload_n (pc := 2) (a := x0) dX8_draw_2 rfl ?_
  replace hf := bd_s hf; obtain ⟨u3, i3, hf⟩ := hf
  replace hf := bd2_s hf; obtain ⟨v3, h3, e3, hf⟩ := hf
  refine x_cVi (pc := 3) (M' := mX8_weights) (as := []) (st := []) (a := x0) (ci := 8) dX8_draw_3 mo_X8_weights lk_8_148 im_X8_weights se_X8_weights rfl ⟨Nat.le_of_ble_eq_true rfl, Nat.le_of_ble_eq_true rfl⟩ rfl (Nat.le_of_ble_eq_true rfl) rfl i3 (tm_X8_weights e3) ?_
  refine x_istore_n (pc := 6) (ls' := [some (va_rf (x0)), some (.int (x1)), some (.int (x1)), some (.int (v3)), none, none, none]) dX8_draw_6 (by decide) rfl ?_
  refine x_iconst (pc := 7) (v := 0) dX8_draw_7 (by decide) ?_
  refine x_istore (pc := 8) (ls' := [some (va_rf (x0)), some (.int (x1)), some (.int (x1)), some (.int (v3)), some (.int (0)), none, none]) dX8_draw_8 (by decide) rfl ?_
  refine x_mask [true, false, true, true, true, false, false] rfl ?_
  exact tg_X8_draw_10  NN hf

def f_X8_drawn (h : AH) (x0 : Option Nat) (x1 : Int32) (x2 : Int32) : Option (Int32 × AH) :=
  if x2 < 0 then (
    bd (isO h x0 8) fun _ =>
    bd2 (f_X8_finding h x0 (-100001)) fun v18 h18 =>
    some (v18, h18)
  ) else (
    bd (gR h x0 8 0) fun v6 =>
    bd (ldI h v6 6) fun v11 =>
    if x2 < v11 then (
      bd (isO h x0 8) fun _ =>
      bd (f_X8_draw h x0 x1) fun h24 =>
      bd (gR h24 x0 8 10) fun v28 =>
      bd (ldI h24 v28 x2) fun v32 =>
      some (v32, h24)
    ) else (
      bd (isO h x0 8) fun _ =>
      bd2 (f_X8_finding h x0 (-100001)) fun v18 h18 =>
      some (v18, h18)
    )
  )

set_option maxRecDepth 100000 in
set_option maxHeartbeats 4000000 in
theorem tm_X8_drawn {g : GT} {h : AH} {x0 : Option Nat} {x1 : Int32} {x2 : Int32} {r : Int32} {h' : AH} (hf : f_X8_drawn h x0 x1 x2 = some (r, h')) : Xm g mX8_drawn [va_rf (x0), .int (x1), .int (x2)] h (some (.int r)) h' := by
  refine xm_of mo_X8_drawn (Nat.le_of_ble_eq_true rfl) (ls := [some (va_rf (x0)), some (.int (x1)), some (.int (x2))]) rfl ?_
  rw [f_X8_drawn] at hf
  refine x_iload_n (pc := 0) (x := x2) dX8_drawn_0 rfl ?_
  refine x_if_lt (pc := 1) (tgt := 15) (x := x2) dX8_drawn_1 rfl (fun hc => ?_) (fun hc => ?_)
  · replace hf := it_t hc hf
    refine x_aload_n (pc := 15) (a := x0) dX8_drawn_15 rfl ?_
    refine x_ldc (pc := 16) (v := -100001) dX8_drawn_16 kc_8_67 ?_
    replace hf := bd_s hf; obtain ⟨u18, i18, hf⟩ := hf
    replace hf := bd2_s hf; obtain ⟨v18, h18, e18, hf⟩ := hf
    refine x_cVi (pc := 18) (M' := mX8_finding) (as := [.int ((-100001))]) (st := []) (a := x0) (ci := 8) dX8_drawn_18 mo_X8_finding lk_8_56 im_X8_finding se_X8_finding rfl ⟨Nat.le_of_ble_eq_true rfl, Nat.le_of_ble_eq_true rfl⟩ rfl (Nat.le_of_ble_eq_true rfl) rfl i18 (tm_X8_finding e18) ?_
    obtain ⟨rfl, rfl⟩ := ret_s hf
    exact x_reti (pc := 21) dX8_drawn_21 rfl
  · replace hf := it_f hc hf
    refine x_iload_n (pc := 4) (x := x2) dX8_drawn_4 rfl ?_
    refine x_aload_n (pc := 5) (a := x0) dX8_drawn_5 rfl ?_
    replace hf := bd_s hf; obtain ⟨v6, e6, hf⟩ := hf
    refine x_getR (pc := 6) dX8_drawn_6 fl_8_7 e6 ?_
    refine x_bipush (pc := 9) (v := 6) dX8_drawn_9 (by decide) ?_
    replace hf := bd_s hf; obtain ⟨v11, e11, hf⟩ := hf
    refine x_ldI (pc := 11) dX8_drawn_11 e11 ?_
    refine x_icmp_lt (pc := 12) (tgt := 22) (x := x2) (y := v11) dX8_drawn_12 rfl (fun hc => ?_) (fun hc => ?_)
    · replace hf := it_t hc hf
      refine x_aload_n (pc := 22) (a := x0) dX8_drawn_22 rfl ?_
      refine x_iload_n (pc := 23) (x := x1) dX8_drawn_23 rfl ?_
      replace hf := bd_s hf; obtain ⟨u24, i24, hf⟩ := hf
      replace hf := bd_s hf; obtain ⟨h24, e24, hf⟩ := hf
      refine x_cVv (pc := 24) (M' := mX8_draw) (as := [.int (x1)]) (st := []) (a := x0) (ci := 8) dX8_drawn_24 mo_X8_draw lk_8_153 im_X8_draw se_X8_draw rfl ⟨Nat.le_of_ble_eq_true rfl, Nat.le_of_ble_eq_true rfl⟩ rfl (Nat.le_of_ble_eq_true rfl) rfl i24 (tm_X8_draw e24) ?_
      refine x_aload_n (pc := 27) (a := x0) dX8_drawn_27 rfl ?_
      replace hf := bd_s hf; obtain ⟨v28, e28, hf⟩ := hf
      refine x_getR (pc := 28) dX8_drawn_28 fl_8_34 e28 ?_
      refine x_iload_n (pc := 31) (x := x2) dX8_drawn_31 rfl ?_
      replace hf := bd_s hf; obtain ⟨v32, e32, hf⟩ := hf
      refine x_ldI (pc := 32) dX8_drawn_32 e32 ?_
      obtain ⟨rfl, rfl⟩ := ret_s hf
      exact x_reti (pc := 33) dX8_drawn_33 rfl
    · replace hf := it_f hc hf
      refine x_aload_n (pc := 15) (a := x0) dX8_drawn_15 rfl ?_
      refine x_ldc (pc := 16) (v := -100001) dX8_drawn_16 kc_8_67 ?_
      replace hf := bd_s hf; obtain ⟨u18, i18, hf⟩ := hf
      replace hf := bd2_s hf; obtain ⟨v18, h18, e18, hf⟩ := hf
      refine x_cVi (pc := 18) (M' := mX8_finding) (as := [.int ((-100001))]) (st := []) (a := x0) (ci := 8) dX8_drawn_18 mo_X8_finding lk_8_56 im_X8_finding se_X8_finding rfl ⟨Nat.le_of_ble_eq_true rfl, Nat.le_of_ble_eq_true rfl⟩ rfl (Nat.le_of_ble_eq_true rfl) rfl i18 (tm_X8_finding e18) ?_
      obtain ⟨rfl, rfl⟩ := ret_s hf
      exact x_reti (pc := 21) dX8_drawn_21 rfl

def f_X8_end (h : AH) (x0 : Option Nat) (x1 : Int32) : Option (Int32 × AH) :=
  bd2 (f_X8_isIn h x1 1 250) fun v5 h5 =>
  if v5 = 0 then (
    bd (isO h5 x0 8) fun _ =>
    bd2 (f_X8_finding h5 x0 (-100001)) fun v23 h23 =>
    some (v23, h23)
  ) else (
    bd (isO h5 x0 8) fun _ =>
    bd2 (f_X8_becomes h5 x0 0 x1) fun v14 h14 =>
    some (v14, h14)
  )

set_option maxRecDepth 100000 in
set_option maxHeartbeats 4000000 in
theorem tm_X8_end {g : GT} {h : AH} {x0 : Option Nat} {x1 : Int32} {r : Int32} {h' : AH} (hf : f_X8_end h x0 x1 = some (r, h')) : Xm g mX8_end [va_rf (x0), .int (x1)] h (some (.int r)) h' := by
  refine xm_of mo_X8_end (Nat.le_of_ble_eq_true rfl) (ls := [some (va_rf (x0)), some (.int (x1))]) rfl ?_
  rw [f_X8_end] at hf
  refine x_iload_n (pc := 0) (x := x1) dX8_end_0 rfl ?_
  refine x_iconst (pc := 1) (v := 1) dX8_end_1 (by decide) ?_
  refine x_sipush (pc := 2) (v := 250) dX8_end_2 (by decide) ?_
  replace hf := bd2_s hf; obtain ⟨v5, h5, e5, hf⟩ := hf
  refine x_cSi (pc := 5) (M' := mX8_isIn) (as := [.int (x1), .int (1), .int (250)]) (st := []) dX8_end_5 mo_X8_isIn lk_8_48 sm_X8_isIn ⟨Nat.le_of_ble_eq_true rfl, Nat.le_of_ble_eq_true rfl⟩ rfl (Nat.le_of_ble_eq_true rfl) rfl (tm_X8_isIn e5) ?_
  refine x_if_eq (pc := 8) (tgt := 20) (x := v5) dX8_end_8 rfl (fun hc => ?_) (fun hc => ?_)
  · replace hf := it_t hc hf
    refine x_aload_n (pc := 20) (a := x0) dX8_end_20 rfl ?_
    refine x_ldc (pc := 21) (v := -100001) dX8_end_21 kc_8_67 ?_
    replace hf := bd_s hf; obtain ⟨u23, i23, hf⟩ := hf
    replace hf := bd2_s hf; obtain ⟨v23, h23, e23, hf⟩ := hf
    refine x_cVi (pc := 23) (M' := mX8_finding) (as := [.int ((-100001))]) (st := []) (a := x0) (ci := 8) dX8_end_23 mo_X8_finding lk_8_56 im_X8_finding se_X8_finding rfl ⟨Nat.le_of_ble_eq_true rfl, Nat.le_of_ble_eq_true rfl⟩ rfl (Nat.le_of_ble_eq_true rfl) rfl i23 (tm_X8_finding e23) ?_
    obtain ⟨rfl, rfl⟩ := ret_s hf
    exact x_reti (pc := 26) dX8_end_26 rfl
  · replace hf := it_f hc hf
    refine x_aload_n (pc := 11) (a := x0) dX8_end_11 rfl ?_
    refine x_iconst (pc := 12) (v := 0) dX8_end_12 (by decide) ?_
    refine x_iload_n (pc := 13) (x := x1) dX8_end_13 rfl ?_
    replace hf := bd_s hf; obtain ⟨u14, i14, hf⟩ := hf
    replace hf := bd2_s hf; obtain ⟨v14, h14, e14, hf⟩ := hf
    refine x_cVi (pc := 14) (M' := mX8_becomes) (as := [.int (0), .int (x1)]) (st := []) (a := x0) (ci := 8) dX8_end_14 mo_X8_becomes lk_8_63 im_X8_becomes se_X8_becomes rfl ⟨Nat.le_of_ble_eq_true rfl, Nat.le_of_ble_eq_true rfl⟩ rfl (Nat.le_of_ble_eq_true rfl) rfl i14 (tm_X8_becomes e14) ?_
    refine x_goto (pc := 17) (tgt := 26) dX8_end_17 rfl ?_
    obtain ⟨rfl, rfl⟩ := ret_s hf
    exact x_reti (pc := 26) dX8_end_26 rfl

def f_X8_fill (h : AH) (x0 : Option Nat) (x1 : Int32) : Option (Int32 × AH) :=
  bd (isO h x0 8) fun _ =>
  bd2 (f_X8_isSet h x0 x1) fun v2 h2 =>
  if ¬ v2 = 0 then (
    bd (isO h2 x0 8) fun _ =>
    bd (f_X8_keep h2 x0) fun h16 =>
    bd (isO h16 x0 8) fun _ =>
    bd2 (f_X8_calendarOf h16 x0 x1) fun v21 h21 =>
    some (v21, h21)
  ) else (
    bd (isO h2 x0 8) fun _ =>
    bd2 (f_X8_finding h2 x0 (-100001)) fun v11 h11 =>
    some (v11, h11)
  )

set_option maxRecDepth 100000 in
set_option maxHeartbeats 4000000 in
theorem tm_X8_fill {g : GT} {h : AH} {x0 : Option Nat} {x1 : Int32} {r : Int32} {h' : AH} (hf : f_X8_fill h x0 x1 = some (r, h')) : Xm g mX8_fill [va_rf (x0), .int (x1)] h (some (.int r)) h' := by
  refine xm_of mo_X8_fill (Nat.le_of_ble_eq_true rfl) (ls := [some (va_rf (x0)), some (.int (x1))]) rfl ?_
  rw [f_X8_fill] at hf
  refine x_aload_n (pc := 0) (a := x0) dX8_fill_0 rfl ?_
  refine x_iload_n (pc := 1) (x := x1) dX8_fill_1 rfl ?_
  replace hf := bd_s hf; obtain ⟨u2, i2, hf⟩ := hf
  replace hf := bd2_s hf; obtain ⟨v2, h2, e2, hf⟩ := hf
  refine x_cVi (pc := 2) (M' := mX8_isSet) (as := [.int (x1)]) (st := []) (a := x0) (ci := 8) dX8_fill_2 mo_X8_isSet lk_8_139 im_X8_isSet se_X8_isSet rfl ⟨Nat.le_of_ble_eq_true rfl, Nat.le_of_ble_eq_true rfl⟩ rfl (Nat.le_of_ble_eq_true rfl) rfl i2 (tm_X8_isSet e2) ?_
  refine x_if_ne (pc := 5) (tgt := 15) (x := v2) dX8_fill_5 rfl (fun hc => ?_) (fun hc => ?_)
  · replace hf := it_t hc hf
    refine x_aload_n (pc := 15) (a := x0) dX8_fill_15 rfl ?_
    replace hf := bd_s hf; obtain ⟨u16, i16, hf⟩ := hf
    replace hf := bd_s hf; obtain ⟨h16, e16, hf⟩ := hf
    refine x_cVv (pc := 16) (M' := mX8_keep) (as := []) (st := []) (a := x0) (ci := 8) dX8_fill_16 mo_X8_keep lk_8_60 im_X8_keep se_X8_keep rfl ⟨Nat.le_of_ble_eq_true rfl, Nat.le_of_ble_eq_true rfl⟩ rfl (Nat.le_of_ble_eq_true rfl) rfl i16 (tm_X8_keep e16) ?_
    refine x_aload_n (pc := 19) (a := x0) dX8_fill_19 rfl ?_
    refine x_iload_n (pc := 20) (x := x1) dX8_fill_20 rfl ?_
    replace hf := bd_s hf; obtain ⟨u21, i21, hf⟩ := hf
    replace hf := bd2_s hf; obtain ⟨v21, h21, e21, hf⟩ := hf
    refine x_cVi (pc := 21) (M' := mX8_calendarOf) (as := [.int (x1)]) (st := []) (a := x0) (ci := 8) dX8_fill_21 mo_X8_calendarOf lk_8_142 im_X8_calendarOf se_X8_calendarOf rfl ⟨Nat.le_of_ble_eq_true rfl, Nat.le_of_ble_eq_true rfl⟩ rfl (Nat.le_of_ble_eq_true rfl) rfl i21 (tm_X8_calendarOf e21) ?_
    obtain ⟨rfl, rfl⟩ := ret_s hf
    exact x_reti (pc := 24) dX8_fill_24 rfl
  · replace hf := it_n hc hf
    refine x_aload_n (pc := 8) (a := x0) dX8_fill_8 rfl ?_
    refine x_ldc (pc := 9) (v := -100001) dX8_fill_9 kc_8_67 ?_
    replace hf := bd_s hf; obtain ⟨u11, i11, hf⟩ := hf
    replace hf := bd2_s hf; obtain ⟨v11, h11, e11, hf⟩ := hf
    refine x_cVi (pc := 11) (M' := mX8_finding) (as := [.int ((-100001))]) (st := []) (a := x0) (ci := 8) dX8_fill_11 mo_X8_finding lk_8_56 im_X8_finding se_X8_finding rfl ⟨Nat.le_of_ble_eq_true rfl, Nat.le_of_ble_eq_true rfl⟩ rfl (Nat.le_of_ble_eq_true rfl) rfl i11 (tm_X8_finding e11) ?_
    obtain ⟨rfl, rfl⟩ := ret_s hf
    exact x_reti (pc := 14) dX8_fill_14 rfl
