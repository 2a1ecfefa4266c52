def j_X8_hurt_134 (k58 : AH → Option Nat → Int32 → Int32 → Int32 → Int32 → Option (Int32 × AH)) (h : AH) (x0 : Option Nat) (x2 : Int32) (x4 : Int32) (x5 : Int32) (x6 : Int32) : Option (Int32 × AH) :=
  k58 h x0 x2 x4 x5 (x6 + 1)

set_option maxRecDepth 100000 in
set_option maxHeartbeats 4000000 in
theorem tj_X8_hurt_134 {g : GT} {k58 : AH → Option Nat → Int32 → Int32 → Int32 → Int32 → Option (Int32 × AH)} (hk58 : ∀ (h : AH) (x0 : Option Nat) (x2 : Int32) (x4 : Int32) (x5 : Int32) (x6 : Int32) (r : Int32) (h' : AH), k58 h x0 x2 x4 x5 x6 = some (r, h') → Xj g mX8_hurt h 58 [some (va_rf (x0)), none, some (.int (x2)), none, some (.int (x4)), some (.int (x5)), some (.int (x6)), none, none] [] (some (.int r)) h') {h : AH} {x0 : Option Nat} {x2 : Int32} {x4 : Int32} {x5 : Int32} {x6 : Int32} {r : Int32} {h' : AH} (hf : j_X8_hurt_134 k58 h x0 x2 x4 x5 x6 = some (r, h')) : Xj g mX8_hurt h 134 [some (va_rf (x0)), none, some (.int (x2)), none, some (.int (x4)), some (.int (x5)), some (.int (x6)), none, none] [] (some (.int r)) h' := by
  rw [j_X8_hurt_134] at hf
  refine x_iload (pc := 134) (x := x5) dX8_hurt_134 rfl ?_
  refine x_istore (pc := 136) (ls' := [some (va_rf (x0)), none, some (.int (x2)), none, some (.int (x4)), some (.int (x5)), some (.int (x6)), none, none]) dX8_hurt_136 (by decide) rfl ?_
  refine x_iinc (pc := 138) (x := x6) (v := x6 + 1) (ls' := [some (va_rf (x0)), none, some (.int (x2)), none, some (.int (x4)), some (.int (x5)), some (.int (x6 + 1)), none, none]) dX8_hurt_138 rfl rfl (by decide) rfl ?_
  refine x_goto (pc := 141) (tgt := 58) dX8_hurt_141 rfl ?_
  exact hk58 _ _ _ _ _ _ _ _ hf

def j_X8_hurt_129 (k58 : AH → Option Nat → Int32 → Int32 → Int32 → Int32 → Option (Int32 × AH)) (h : AH) (x0 : Option Nat) (x2 : Int32) (x4 : Int32) (x6 : Int32) (x8 : Int32) : Option (Int32 × AH) :=
  k58 h x0 x2 x4 x8 (x6 + 1)

set_option maxRecDepth 100000 in
set_option maxHeartbeats 4000000 in
theorem tj_X8_hurt_129 {g : GT} {k58 : AH → Option Nat → Int32 → Int32 → Int32 → Int32 → Option (Int32 × AH)} (hk58 : ∀ (h : AH) (x0 : Option Nat) (x2 : Int32) (x4 : Int32) (x5 : Int32) (x6 : Int32) (r : Int32) (h' : AH), k58 h x0 x2 x4 x5 x6 = some (r, h') → Xj g mX8_hurt h 58 [some (va_rf (x0)), none, some (.int (x2)), none, some (.int (x4)), some (.int (x5)), some (.int (x6)), none, none] [] (some (.int r)) h') {h : AH} {x0 : Option Nat} {x2 : Int32} {x4 : Int32} {x6 : Int32} {x8 : Int32} {r : Int32} {h' : AH} (hf : j_X8_hurt_129 k58 h x0 x2 x4 x6 x8 = some (r, h')) : Xj g mX8_hurt h 129 [some (va_rf (x0)), none, some (.int (x2)), none, some (.int (x4)), none, some (.int (x6)), none, some (.int (x8))] [] (some (.int r)) h' := by
  rw [j_X8_hurt_129] at hf
  refine x_iload (pc := 129) (x := x8) dX8_hurt_129 rfl ?_
  refine x_goto (pc := 131) (tgt := 136) dX8_hurt_131 rfl ?_
  refine x_istore (pc := 136) (ls' := [some (va_rf (x0)), none, some (.int (x2)), none, some (.int (x4)), some (.int (x8)), some (.int (x6)), none, some (.int (x8))]) dX8_hurt_136 (by decide) rfl ?_
  refine x_iinc (pc := 138) (x := x6) (v := x6 + 1) (ls' := [some (va_rf (x0)), none, some (.int (x2)), none, some (.int (x4)), some (.int (x8)), some (.int (x6 + 1)), none, some (.int (x8))]) dX8_hurt_138 rfl rfl (by decide) rfl ?_
  refine x_goto (pc := 141) (tgt := 58) dX8_hurt_141 rfl ?_
  refine x_mask [true, false, true, false, true, true, true, false, false] rfl ?_
  exact hk58 _ _ _ _ _ _ _ _ hf

def j_X8_hurt_104 (k58 : AH → Option Nat → Int32 → Int32 → Int32 → Int32 → Option (Int32 × AH)) (h : AH) (x0 : Option Nat) (x2 : Int32) (x4 : Int32) (x5 : Int32) (x6 : Int32) (x7 : Int32) (y0 : Int32) : Option (Int32 × AH) :=
  bd (gR h x0 8 0) fun v109 =>
  bd (ldI h v109 0) fun v113 =>
  if v113 ≤ x7 then (
    j_X8_hurt_134 k58 h x0 x2 x4 x5 x6
  ) else (
    if x5 < 0 then (
      j_X8_hurt_129 k58 h x0 x2 x4 x6 y0
    ) else (
      if x5 ≤ y0 then (
        j_X8_hurt_134 k58 h x0 x2 x4 x5 x6
      ) else (
        j_X8_hurt_129 k58 h x0 x2 x4 x6 y0
      )
    )
  )

set_option maxRecDepth 100000 in
set_option maxHeartbeats 4000000 in
theorem tj_X8_hurt_104 {g : GT} {k58 : AH → Option Nat → Int32 → Int32 → Int32 → Int32 → Option (Int32 × AH)} (hk58 : ∀ (h : AH) (x0 : Option Nat) (x2 : Int32) (x4 : Int32) (x5 : Int32) (x6 : Int32) (r : Int32) (h' : AH), k58 h x0 x2 x4 x5 x6 = some (r, h') → Xj g mX8_hurt h 58 [some (va_rf (x0)), none, some (.int (x2)), none, some (.int (x4)), some (.int (x5)), some (.int (x6)), none, none] [] (some (.int r)) h') {h : AH} {x0 : Option Nat} {x2 : Int32} {x4 : Int32} {x5 : Int32} {x6 : Int32} {x7 : Int32} {y0 : Int32} {r : Int32} {h' : AH} (hf : j_X8_hurt_104 k58 h x0 x2 x4 x5 x6 x7 y0 = some (r, h')) : Xj g mX8_hurt h 104 [some (va_rf (x0)), none, some (.int (x2)), none, some (.int (x4)), some (.int (x5)), some (.int (x6)), some (.int (x7)), none] [.int (y0)] (some (.int r)) h' := by
  rw [j_X8_hurt_104] at hf
  refine x_istore (pc := 104) (ls' := [some (va_rf (x0)), none, some (.int (x2)), none, some (.int (x4)), some (.int (x5)), some (.int (x6)), some (.int (x7)), some (.int (y0))]) dX8_hurt_104 (by decide) rfl ?_
  refine x_iload (pc := 106) (x := x7) dX8_hurt_106 rfl ?_
  refine x_aload_n (pc := 108) (a := x0) dX8_hurt_108 rfl ?_
  replace hf := bd_s hf; obtain ⟨v109, e109, hf⟩ := hf
  refine x_getR (pc := 109) dX8_hurt_109 fl_8_7 e109 ?_
  refine x_iconst (pc := 112) (v := 0) dX8_hurt_112 (by decide) ?_
  replace hf := bd_s hf; obtain ⟨v113, e113, hf⟩ := hf
  refine x_ldI (pc := 113) dX8_hurt_113 e113 ?_
  refine x_icmp_ge (pc := 114) (tgt := 134) (x := x7) (y := v113) dX8_hurt_114 rfl (fun hc => ?_) (fun hc => ?_)
  · replace hf := it_t hc hf
    refine x_mask [true, false, true, false, true, true, true, false, false] rfl ?_
    exact tj_X8_hurt_134 hk58 hf
  · replace hf := it_f hc hf
    refine x_iload (pc := 117) (x := x5) dX8_hurt_117 rfl ?_
    refine x_if_lt (pc := 119) (tgt := 129) (x := x5) dX8_hurt_119 rfl (fun hc => ?_) (fun hc => ?_)
    · replace hf := it_t hc hf
      refine x_mask [true, false, true, false, true, false, true, false, true] rfl ?_
      exact tj_X8_hurt_129 hk58 hf
    · replace hf := it_f hc hf
      refine x_iload (pc := 122) (x := y0) dX8_hurt_122 rfl ?_
      refine x_iload (pc := 124) (x := x5) dX8_hurt_124 rfl ?_
      refine x_icmp_ge (pc := 126) (tgt := 134) (x := y0) (y := x5) dX8_hurt_126 rfl (fun hc => ?_) (fun hc => ?_)
      · replace hf := it_t hc hf
        refine x_mask [true, false, true, false, true, true, true, false, false] rfl ?_
        exact tj_X8_hurt_134 hk58 hf
      · replace hf := it_f hc hf
        refine x_mask [true, false, true, false, true, false, true, false, true] rfl ?_
        exact tj_X8_hurt_129 hk58 hf

def g_X8_hurt_58 : Nat → AH → Option Nat → Int32 → Int32 → Int32 → Int32 → Option (Int32 × AH)
  | 0, _, _, _, _, _, _ => none
  | n + 1, h, x0, x2, x4, x5, x6 =>
    bd (gR h x0 8 0) fun v61 =>
    bd (ldI h v61 4) fun v65 =>
    if v65 ≤ x6 then (
      if 0 ≤ x5 then (
        some (x5, h)
      ) else (
        bd (isO h x0 8) fun _ =>
        bd2 (f_X8_finding h x0 (-100006)) fun v152 h152 =>
        some (v152, h152)
      )
    ) else (
      bd (gR h x0 8 0) fun v70 =>
      bd (ldI h v70 (66 + x6)) fun v78 =>
      if v78 < x2 then (
        j_X8_hurt_104 (fun h x0 x2 x4 x5 x6 => g_X8_hurt_58  n h x0 x2 x4 x5 x6) h x0 x2 x4 x5 x6 v78 (x4 * (x2 - v78))
      ) else (
        j_X8_hurt_104 (fun h x0 x2 x4 x5 x6 => g_X8_hurt_58  n h x0 x2 x4 x5 x6) h x0 x2 x4 x5 x6 v78 (12 * (v78 - x2))
      )
    )

set_option maxRecDepth 100000 in
set_option maxHeartbeats 4000000 in
theorem tg_X8_hurt_58 {g : GT} : ∀ (n : Nat) {h : AH} {x0 : Option Nat} {x2 : Int32} {x4 : Int32} {x5 : Int32} {x6 : Int32} {r : Int32} {h' : AH}, g_X8_hurt_58 n h x0 x2 x4 x5 x6 = some (r, h') → Xj g mX8_hurt h 58 [some (va_rf (x0)), none, some (.int (x2)), none, some (.int (x4)), some (.int (x5)), some (.int (x6)), none, none] [] (some (.int r)) h' := by
  intro n
  induction n with
  | zero =>
    intros
    rename_i z
    cases z
  | succ n ih =>
    intro h x0 x2 x4 x5 x6 r h' hf
    rw [g_X8_hurt_58] at hf
    refine x_iload (pc := 58) (x := x6) dX8_hurt_58 rfl ?_
    refine x_aload_n (pc := 60) (a := x0) dX8_hurt_60 rfl ?_
    replace hf := bd_s hf; obtain ⟨v61, e61, hf⟩ := hf
    refine x_getR (pc := 61) dX8_hurt_61 fl_8_7 e61 ?_
    refine x_iconst (pc := 64) (v := 4) dX8_hurt_64 (by decide) ?_
    replace hf := bd_s hf; obtain ⟨v65, e65, hf⟩ := hf
    refine x_ldI (pc := 65) dX8_hurt_65 e65 ?_
    refine x_icmp_ge (pc := 66) (tgt := 144) (x := x6) (y := v65) dX8_hurt_66 rfl (fun hc => ?_) (fun hc => ?_)
    · replace hf := it_t hc hf
      refine x_iload (pc := 144) (x := x5) dX8_hurt_144 rfl ?_
      refine x_if_ge (pc := 146) (tgt := 158) (x := x5) dX8_hurt_146 rfl (fun hc => ?_) (fun hc => ?_)
      · replace hf := it_t hc hf
        refine x_iload (pc := 158) (x := x5) dX8_hurt_158 rfl ?_
        obtain ⟨rfl, rfl⟩ := ret_s hf
        exact x_reti (pc := 160) dX8_hurt_160 rfl
      · replace hf := it_f hc hf
        refine x_aload_n (pc := 149) (a := x0) dX8_hurt_149 rfl ?_
        refine x_ldc (pc := 150) (v := -100006) dX8_hurt_150 kc_8_55 ?_
        replace hf := bd_s hf; obtain ⟨u152, i152, hf⟩ := hf
        replace hf := bd2_s hf; obtain ⟨v152, h152, e152, hf⟩ := hf
        refine x_cVi (pc := 152) (M' := mX8_finding) (as := [.int ((-100006))]) (st := []) (a := x0) (ci := 8) dX8_hurt_152 mo_X8_finding lk_8_56 im_X8_finding se_X8_finding rfl ⟨Nat.le_of_ble_eq_true rfl, Nat.le_of_ble_eq_true rfl⟩ rfl (Nat.le_of_ble_eq_true rfl) rfl i152 (tm_X8_finding e152) ?_
        refine x_goto (pc := 155) (tgt := 160) dX8_hurt_155 rfl ?_
        obtain ⟨rfl, rfl⟩ := ret_s hf
        exact x_reti (pc := 160) dX8_hurt_160 rfl
    · replace hf := it_f hc hf
      refine x_aload_n (pc := 69) (a := x0) dX8_hurt_69 rfl ?_
      replace hf := bd_s hf; obtain ⟨v70, e70, hf⟩ := hf
      refine x_getR (pc := 70) dX8_hurt_70 fl_8_7 e70 ?_
      refine x_bipush (pc := 73) (v := 66) dX8_hurt_73 (by decide) ?_
      refine x_iload (pc := 75) (x := x6) dX8_hurt_75 rfl ?_
      refine x_iadd (pc := 77) dX8_hurt_77 ?_
      replace hf := bd_s hf; obtain ⟨v78, e78, hf⟩ := hf
      refine x_ldI (pc := 78) dX8_hurt_78 e78 ?_
      refine x_istore (pc := 79) (ls' := [some (va_rf (x0)), none, some (.int (x2)), none, some (.int (x4)), some (.int (x5)), some (.int (x6)), some (.int (v78)), none]) dX8_hurt_79 (by decide) rfl ?_
      refine x_iload (pc := 81) (x := v78) dX8_hurt_81 rfl ?_
      refine x_iload_n (pc := 83) (x := x2) dX8_hurt_83 rfl ?_
      refine x_icmp_lt (pc := 84) (tgt := 97) (x := v78) (y := x2) dX8_hurt_84 rfl (fun hc => ?_) (fun hc => ?_)
      · replace hf := it_t hc hf
        refine x_iload (pc := 97) (x := x4) dX8_hurt_97 rfl ?_
        refine x_iload_n (pc := 99) (x := x2) dX8_hurt_99 rfl ?_
        refine x_iload (pc := 100) (x := v78) dX8_hurt_100 rfl ?_
        refine x_isub (pc := 102) dX8_hurt_102 ?_
        refine x_imul (pc := 103) dX8_hurt_103 ?_
        exact tj_X8_hurt_104 (fun _ _ _ _ _ _ _ _ z => ih z) hf
      · replace hf := it_f hc hf
        refine x_bipush (pc := 87) (v := 12) dX8_hurt_87 (by decide) ?_
        refine x_iload (pc := 89) (x := v78) dX8_hurt_89 rfl ?_
        refine x_iload_n (pc := 91) (x := x2) dX8_hurt_91 rfl ?_
        refine x_isub (pc := 92) dX8_hurt_92 ?_
        refine x_imul (pc := 93) dX8_hurt_93 ?_
        refine x_goto (pc := 94) (tgt := 104) dX8_hurt_94 rfl ?_
        exact tj_X8_hurt_104 (fun _ _ _ _ _ _ _ _ z => ih z) hf

def j_X8_hurt_50 (h : AH) (x0 : Option Nat) (x2 : Int32) (y0 : Int32) : Option (Int32 × AH) :=
  g_X8_hurt_58  NN h x0 x2 y0 (-1) 0

set_option maxRecDepth 100000 in
set_option maxHeartbeats 4000000 in
theorem tj_X8_hurt_50 {g : GT} {h : AH} {x0 : Option Nat} {x2 : Int32} {y0 : Int32} {r : Int32} {h' : AH} (hf : j_X8_hurt_50 h x0 x2 y0 = some (r, h')) : Xj g mX8_hurt h 50 [some (va_rf (x0)), none, some (.int (x2)), none, none, none, none, none, none] [.int (y0)] (some (.int r)) h' := by
  rw [j_X8_hurt_50] at hf
  refine x_istore (pc := 50) (ls' := [some (va_rf (x0)), none, some (.int (x2)), none, some (.int (y0)), none, none, none, none]) dX8_hurt_50 (by decide) rfl ?_
  refine x_iconst (pc := 52) (v := -1) dX8_hurt_52 (by decide) ?_
  refine x_istore (pc := 53) (ls' := [some (va_rf (x0)), none, some (.int (x2)), none, some (.int (y0)), some (.int ((-1))), none, none, none]) dX8_hurt_53 (by decide) rfl ?_
  refine x_iconst (pc := 55) (v := 0) dX8_hurt_55 (by decide) ?_
  refine x_istore (pc := 56) (ls' := [some (va_rf (x0)), none, some (.int (x2)), none, some (.int (y0)), some (.int ((-1))), some (.int (0)), none, none]) dX8_hurt_56 (by decide) rfl ?_
  exact tg_X8_hurt_58  NN hf

def j_X8_hurt_43 (h : AH) (x0 : Option Nat) (x2 : Int32) : Option (Int32 × AH) :=
  j_X8_hurt_50  h x0 x2 20

set_option maxRecDepth 100000 in
set_option maxHeartbeats 4000000 in
theorem tj_X8_hurt_43 {g : GT} {h : AH} {x0 : Option Nat} {x2 : Int32} {r : Int32} {h' : AH} (hf : j_X8_hurt_43 h x0 x2 = some (r, h')) : Xj g mX8_hurt h 43 [some (va_rf (x0)), none, some (.int (x2)), none, none, none, none, none, none] [] (some (.int r)) h' := by
  rw [j_X8_hurt_43] at hf
  refine x_bipush (pc := 43) (v := 20) dX8_hurt_43 (by decide) ?_
  refine x_goto (pc := 45) (tgt := 50) dX8_hurt_45 rfl ?_
  exact tj_X8_hurt_50  hf

def f_X8_hurt (h : AH) (x0 : Option Nat) (x1 : Int32) (x2 : Int32) : Option (Int32 × AH) :=
  bd (isO h x0 8) fun _ =>
  bd2 (f_X8_isTrip h x0 x1) fun v2 h2 =>
  if v2 = 0 then (
    bd (isO h2 x0 8) fun _ =>
    bd2 (f_X8_finding h2 x0 (-100001)) fun v22 h22 =>
    some (v22, h22)
  ) else (
    bd2 (f_X8_isIn h2 x2 0 250) fun v13 h13 =>
    if ¬ v13 = 0 then (
      bd (isO h13 x0 8) fun _ =>
      bd2 (f_X8_told h13 x0 x1 0) fun v29 h29 =>
      if v29 = 1 then (
        j_X8_hurt_43  h29 x0 x2
      ) else (
        if ¬ v29 = 3 then (
          j_X8_hurt_50  h29 x0 x2 60
        ) else (
          j_X8_hurt_43  h29 x0 x2
        )
      )
    ) else (
      bd (isO h13 x0 8) fun _ =>
      bd2 (f_X8_finding h13 x0 (-100001)) fun v22 h22 =>
      some (v22, h22)
    )
  )

set_option maxRecDepth 100000 in
set_option maxHeartbeats 4000000 in
theorem tm_X8_hurt {g : GT} {h : AH} {x0 : Option Nat} {x1 : Int32} {x2 : Int32} {r : Int32} {h' : AH} (hf : f_X8_hurt h x0 x1 x2 = some (r, h')) : Xm g mX8_hurt [va_rf (x0), .int (x1), .int (x2)] h (some (.int r)) h' := by
  refine xm_of mo_X8_hurt (Nat.le_of_ble_eq_true rfl) (ls := [some (va_rf (x0)), some (.int (x1)), some (.int (x2)), none, none, none, none, none, none]) rfl ?_
  rw [f_X8_hurt] at hf
  refine x_aload_n (pc := 0) (a := x0) dX8_hurt_0 rfl ?_
  refine x_iload_n (pc := 1) (x := x1) dX8_hurt_1 rfl ?_
  replace hf := bd_s hf; obtain ⟨u2, i2, hf⟩ := hf
  replace hf := bd2_s hf; obtain ⟨v2, h2, e2, hf⟩ := hf
  refine x_cVi (pc := 2) (M' := mX8_isTrip) (as := [.int (x1)]) (st := []) (a := x0) (ci := 8) dX8_hurt_2 mo_X8_isTrip lk_8_91 im_X8_isTrip se_X8_isTrip rfl ⟨Nat.le_of_ble_eq_true rfl, Nat.le_of_ble_eq_true rfl⟩ rfl (Nat.le_of_ble_eq_true rfl) rfl i2 (tm_X8_isTrip e2) ?_
  refine x_if_eq (pc := 5) (tgt := 19) (x := v2) dX8_hurt_5 rfl (fun hc => ?_) (fun hc => ?_)
  · replace hf := it_t hc hf
    refine x_aload_n (pc := 19) (a := x0) dX8_hurt_19 rfl ?_
    refine x_ldc (pc := 20) (v := -100001) dX8_hurt_20 kc_8_67 ?_
    replace hf := bd_s hf; obtain ⟨u22, i22, hf⟩ := hf
    replace hf := bd2_s hf; obtain ⟨v22, h22, e22, hf⟩ := hf
    refine x_cVi (pc := 22) (M' := mX8_finding) (as := [.int ((-100001))]) (st := []) (a := x0) (ci := 8) dX8_hurt_22 mo_X8_finding lk_8_56 im_X8_finding se_X8_finding rfl ⟨Nat.le_of_ble_eq_true rfl, Nat.le_of_ble_eq_true rfl⟩ rfl (Nat.le_of_ble_eq_true rfl) rfl i22 (tm_X8_finding e22) ?_
    obtain ⟨rfl, rfl⟩ := ret_s hf
    exact x_reti (pc := 25) dX8_hurt_25 rfl
  · replace hf := it_f hc hf
    refine x_iload_n (pc := 8) (x := x2) dX8_hurt_8 rfl ?_
    refine x_iconst (pc := 9) (v := 0) dX8_hurt_9 (by decide) ?_
    refine x_sipush (pc := 10) (v := 250) dX8_hurt_10 (by decide) ?_
    replace hf := bd2_s hf; obtain ⟨v13, h13, e13, hf⟩ := hf
    refine x_cSi (pc := 13) (M' := mX8_isIn) (as := [.int (x2), .int (0), .int (250)]) (st := []) dX8_hurt_13 mo_X8_isIn lk_8_48 sm_X8_isIn ⟨Nat.le_of_ble_eq_true rfl, Nat.le_of_ble_eq_true rfl⟩ rfl (Nat.le_of_ble_eq_true rfl) rfl (tm_X8_isIn e13) ?_
    refine x_if_ne (pc := 16) (tgt := 26) (x := v13) dX8_hurt_16 rfl (fun hc => ?_) (fun hc => ?_)
    · replace hf := it_t hc hf
      refine x_aload_n (pc := 26) (a := x0) dX8_hurt_26 rfl ?_
      refine x_iload_n (pc := 27) (x := x1) dX8_hurt_27 rfl ?_
      refine x_iconst (pc := 28) (v := 0) dX8_hurt_28 (by decide) ?_
      replace hf := bd_s hf; obtain ⟨u29, i29, hf⟩ := hf
      replace hf := bd2_s hf; obtain ⟨v29, h29, e29, hf⟩ := hf
      refine x_cVi (pc := 29) (M' := mX8_told) (as := [.int (x1), .int (0)]) (st := []) (a := x0) (ci := 8) dX8_hurt_29 mo_X8_told lk_8_94 im_X8_told se_X8_told rfl ⟨Nat.le_of_ble_eq_true rfl, Nat.le_of_ble_eq_true rfl⟩ rfl (Nat.le_of_ble_eq_true rfl) rfl i29 (tm_X8_told e29) ?_
      refine x_istore_n (pc := 32) (ls' := [some (va_rf (x0)), some (.int (x1)), some (.int (x2)), some (.int (v29)), none, none, none, none, none]) dX8_hurt_32 (by decide) rfl ?_
      refine x_iload_n (pc := 33) (x := v29) dX8_hurt_33 rfl ?_
      refine x_iconst (pc := 34) (v := 1) dX8_hurt_34 (by decide) ?_
      refine x_icmp_eq (pc := 35) (tgt := 43) (x := v29) (y := 1) dX8_hurt_35 rfl (fun hc => ?_) (fun hc => ?_)
      · replace hf := it_t hc hf
        refine x_mask [true, false, true, false, false, false, false, false, false] rfl ?_
        exact tj_X8_hurt_43  hf
      · replace hf := it_f hc hf
        refine x_iload_n (pc := 38) (x := v29) dX8_hurt_38 rfl ?_
        refine x_iconst (pc := 39) (v := 3) dX8_hurt_39 (by decide) ?_
        refine x_icmp_ne (pc := 40) (tgt := 48) (x := v29) (y := 3) dX8_hurt_40 rfl (fun hc => ?_) (fun hc => ?_)
        · replace hf := it_t hc hf
          refine x_bipush (pc := 48) (v := 60) dX8_hurt_48 (by decide) ?_
          refine x_mask [true, false, true, false, false, false, false, false, false] rfl ?_
          exact tj_X8_hurt_50  hf
        · replace hf := it_n hc hf
          refine x_mask [true, false, true, false, false, false, false, false, false] rfl ?_
          exact tj_X8_hurt_43  hf
    · replace hf := it_n hc hf
      refine x_aload_n (pc := 19) (a := x0) dX8_hurt_19 rfl ?_
      refine x_ldc (pc := 20) (v := -100001) dX8_hurt_20 kc_8_67 ?_
      replace hf := bd_s hf; obtain ⟨u22, i22, hf⟩ := hf
      replace hf := bd2_s hf; obtain ⟨v22, h22, e22, hf⟩ := hf
      refine x_cVi (pc := 22) (M' := mX8_finding) (as := [.int ((-100001))]) (st := []) (a := x0) (ci := 8) dX8_hurt_22 mo_X8_finding lk_8_56 im_X8_finding se_X8_finding rfl ⟨Nat.le_of_ble_eq_true rfl, Nat.le_of_ble_eq_true rfl⟩ rfl (Nat.le_of_ble_eq_true rfl) rfl i22 (tm_X8_finding e22) ?_
      obtain ⟨rfl, rfl⟩ := ret_s hf
      exact x_reti (pc := 25) dX8_hurt_25 rfl

def g_X8_init_138 : Nat → AH → Option Nat → Int32 → Option AH
  | 0, _, _, _ => none
  | n + 1, h, x0, x1 =>
    if 300 ≤ x1 then (
      some h
    ) else (
      bd (gR h x0 8 0) fun v146 =>
      bd (stI h v146 (244 + x1) (-1)) fun h155 =>
      g_X8_init_138  n h155 x0 (x1 + 1)
    )

set_option maxRecDepth 100000 in
set_option maxHeartbeats 4000000 in
theorem tg_X8_init_138 {g : GT} : ∀ (n : Nat) {h : AH} {x0 : Option Nat} {x1 : Int32} {h' : AH}, g_X8_init_138 n h x0 x1 = some h' → Xj g mX8_init h 138 [some (va_rf (x0)), some (.int (x1))] [] none h' := by
  intro n
  induction n with
  | zero =>
    intros
    rename_i z
    cases z
  | succ n ih =>
    intro h x0 x1 h' hf
    rw [g_X8_init_138] at hf
    refine x_iload_n (pc := 138) (x := x1) dX8_init_138 rfl ?_
    refine x_sipush (pc := 139) (v := 300) dX8_init_139 (by decide) ?_
    refine x_icmp_ge (pc := 142) (tgt := 162) (x := x1) (y := 300) dX8_init_142 rfl (fun hc => ?_) (fun hc => ?_)
    · replace hf := it_t hc hf
      obtain rfl := Option.some.inj hf
      exact x_vret (pc := 162) dX8_init_162 rfl
    · replace hf := it_f hc hf
      refine x_aload_n (pc := 145) (a := x0) dX8_init_145 rfl ?_
      replace hf := bd_s hf; obtain ⟨v146, e146, hf⟩ := hf
      refine x_getR (pc := 146) dX8_init_146 fl_8_7 e146 ?_
      refine x_sipush (pc := 149) (v := 244) dX8_init_149 (by decide) ?_
      refine x_iload_n (pc := 152) (x := x1) dX8_init_152 rfl ?_
      refine x_iadd (pc := 153) dX8_init_153 ?_
      refine x_iconst (pc := 154) (v := -1) dX8_init_154 (by decide) ?_
      replace hf := bd_s hf; obtain ⟨h155, e155, hf⟩ := hf
      refine x_stI (pc := 155) dX8_init_155 e155 ?_
      refine x_iinc (pc := 156) (x := x1) (v := x1 + 1) (ls' := [some (va_rf (x0)), some (.int (x1 + 1))]) dX8_init_156 rfl rfl (by decide) rfl ?_
      refine x_goto (pc := 159) (tgt := 138) dX8_init_159 rfl ?_
      exact ih hf

def g_X8_init_113 : Nat → AH → Option Nat → Int32 → Option AH
  | 0, _, _, _ => none
  | n + 1, h, x0, x1 =>
    if 120 ≤ x1 then (
      g_X8_init_138  NN h x0 0
    ) else (
      bd (gR h x0 8 0) fun v120 =>
      bd (stI h v120 (74 + x1) 100) fun h129 =>
      g_X8_init_113  n h129 x0 (x1 + 1)
    )

set_option maxRecDepth 100000 in
set_option maxHeartbeats 4000000 in
theorem tg_X8_init_113 {g : GT} : ∀ (n : Nat) {h : AH} {x0 : Option Nat} {x1 : Int32} {h' : AH}, g_X8_init_113 n h x0 x1 = some h' → Xj g mX8_init h 113 [some (va_rf (x0)), some (.int (x1))] [] none h' := by
  intro n
  induction n with
  | zero =>
    intros
    rename_i z
    cases z
  | succ n ih =>
    intro h x0 x1 h' hf
    rw [g_X8_init_113] at hf
    refine x_iload_n (pc := 113) (x := x1) dX8_init_113 rfl ?_
    refine x_bipush (pc := 114) (v := 120) dX8_init_114 (by decide) ?_
    refine x_icmp_ge (pc := 116) (tgt := 136) (x := x1) (y := 120) dX8_init_116 rfl (fun hc => ?_) (fun hc => ?_)
    · replace hf := it_t hc hf
      refine x_iconst (pc := 136) (v := 0) dX8_init_136 (by decide) ?_
      refine x_istore_n (pc := 137) (ls' := [some (va_rf (x0)), some (.int (0))]) dX8_init_137 (by decide) rfl ?_
      exact tg_X8_init_138  NN hf
    · replace hf := it_f hc hf
      refine x_aload_n (pc := 119) (a := x0) dX8_init_119 rfl ?_
      replace hf := bd_s hf; obtain ⟨v120, e120, hf⟩ := hf
      refine x_getR (pc := 120) dX8_init_120 fl_8_7 e120 ?_
      refine x_bipush (pc := 123) (v := 74) dX8_init_123 (by decide) ?_
      refine x_iload_n (pc := 125) (x := x1) dX8_init_125 rfl ?_
      refine x_iadd (pc := 126) dX8_init_126 ?_
      refine x_bipush (pc := 127) (v := 100) dX8_init_127 (by decide) ?_
      replace hf := bd_s hf; obtain ⟨h129, e129, hf⟩ := hf
      refine x_stI (pc := 129) dX8_init_129 e129 ?_
      refine x_iinc (pc := 130) (x := x1) (v := x1 + 1) (ls' := [some (va_rf (x0)), some (.int (x1 + 1))]) dX8_init_130 rfl rfl (by decide) rfl ?_
      refine x_goto (pc := 133) (tgt := 113) dX8_init_133 rfl ?_
      exact ih hf

def f_X8_init (h : AH) (x0 : Nat) : Option AH :=
  bd2 (nA h 0 556) fun v8 h8 =>
  bd (pR h8 (some x0) 8 0 v8) fun h10 =>
  bd2 (nA h10 0 11120) fun v17 h17 =>
  bd (pR h17 (some x0) 8 1 v17) fun h19 =>
  bd2 (nA h19 0 4) fun v24 h24 =>
  bd (pR h24 (some x0) 8 3 v24) fun h26 =>
  bd2 (nA h26 0 4) fun v31 h31 =>
  bd (pR h31 (some x0) 8 4 v31) fun h33 =>
  bd2 (nA h33 0 160) fun v40 h40 =>
  bd (pR h40 (some x0) 8 5 v40) fun h42 =>
  bd2 (nA h42 0 720) fun v49 h49 =>
  bd (pR h49 (some x0) 8 7 v49) fun h51 =>
  bd2 (nA h51 0 15) fun v57 h57 =>
  bd (pR h57 (some x0) 8 8 v57) fun h59 =>
  bd2 (nA h59 0 300) fun v66 h66 =>
  bd (pR h66 (some x0) 8 9 v66) fun h68 =>
  bd2 (nA h68 0 12) fun v74 h74 =>
  bd (pR h74 (some x0) 8 10 v74) fun h76 =>
  bd2 (nA h76 1 12) fun v82 h82 =>
  bd (pR h82 (some x0) 8 11 v82) fun h84 =>
  bd2 (nA h84 0 40) fun v90 h90 =>
  bd (pR h90 (some x0) 8 12 v90) fun h92 =>
  bd (gR h92 (some x0) 8 0) fun v96 =>
  bd (stI h92 v96 0 200) fun h103 =>
  bd (gR h103 (some x0) 8 0) fun v105 =>
  bd (stI h103 v105 1 4) fun h110 =>
  g_X8_init_113  NN h110 (some x0) 0

set_option maxRecDepth 100000 in
set_option maxHeartbeats 4000000 in
theorem tm_X8_init {g : GT} {h : AH} {x0 : Nat} {h' : AH} (hf : f_X8_init h x0 = some h') : Xm g mX8_init [va_rf (some x0)] h none h' := by
  refine xm_of mo_X8_init (Nat.le_of_ble_eq_true rfl) (ls := [some (va_rf (some x0)), none]) rfl ?_
  rw [f_X8_init] at hf
  refine x_aload_n (pc := 0) (a := some x0) dX8_init_0 rfl ?_
  refine x_objInit (pc := 1) dX8_init_1 lo_8_1 oi_1 oi_2 (Nat.le_of_ble_eq_true rfl) (Nat.le_of_ble_eq_true rfl) ?_
  refine x_aload_n (pc := 4) (a := some x0) dX8_init_4 rfl ?_
  refine x_sipush (pc := 5) (v := 556) dX8_init_5 (by decide) ?_
  replace hf := bd2_s hf; obtain ⟨v8, h8, e8, hf⟩ := hf
  refine x_nI (pc := 8) dX8_init_8 ac_int e8 ?_
  replace hf := bd_s hf; obtain ⟨h10, e10, hf⟩ := hf
  refine x_putR (pc := 10) dX8_init_10 fl_8_7 (fW_in rfl rfl) e10 ?_
  refine x_aload_n (pc := 13) (a := some x0) dX8_init_13 rfl ?_
  refine x_sipush (pc := 14) (v := 11120) dX8_init_14 (by decide) ?_
  replace hf := bd2_s hf; obtain ⟨v17, h17, e17, hf⟩ := hf
  refine x_nI (pc := 17) dX8_init_17 ac_int e17 ?_
  replace hf := bd_s hf; obtain ⟨h19, e19, hf⟩ := hf
  refine x_putR (pc := 19) dX8_init_19 fl_8_13 (fW_in rfl rfl) e19 ?_
  refine x_aload_n (pc := 22) (a := some x0) dX8_init_22 rfl ?_
  refine x_iconst (pc := 23) (v := 4) dX8_init_23 (by decide) ?_
  replace hf := bd2_s hf; obtain ⟨v24, h24, e24, hf⟩ := hf
  refine x_nI (pc := 24) dX8_init_24 ac_int e24 ?_
  replace hf := bd_s hf; obtain ⟨h26, e26, hf⟩ := hf
  refine x_putR (pc := 26) dX8_init_26 fl_8_16 (fW_in rfl rfl) e26 ?_
  refine x_aload_n (pc := 29) (a := some x0) dX8_init_29 rfl ?_
  refine x_iconst (pc := 30) (v := 4) dX8_init_30 (by decide) ?_
  replace hf := bd2_s hf; obtain ⟨v31, h31, e31, hf⟩ := hf
  refine x_nI (pc := 31) dX8_init_31 ac_int e31 ?_
  replace hf := bd_s hf; obtain ⟨h33, e33, hf⟩ := hf
  refine x_putR (pc := 33) dX8_init_33 fl_8_19 (fW_in rfl rfl) e33 ?_
  refine x_aload_n (pc := 36) (a := some x0) dX8_init_36 rfl ?_
  refine x_sipush (pc := 37) (v := 160) dX8_init_37 (by decide) ?_
  replace hf := bd2_s hf; obtain ⟨v40, h40, e40, hf⟩ := hf
  refine x_nI (pc := 40) dX8_init_40 ac_int e40 ?_
  replace hf := bd_s hf; obtain ⟨h42, e42, hf⟩ := hf
  refine x_putR (pc := 42) dX8_init_42 fl_8_22 (fW_in rfl rfl) e42 ?_
  refine x_aload_n (pc := 45) (a := some x0) dX8_init_45 rfl ?_
  refine x_sipush (pc := 46) (v := 720) dX8_init_46 (by decide) ?_
  replace hf := bd2_s hf; obtain ⟨v49, h49, e49, hf⟩ := hf
  refine x_nI (pc := 49) dX8_init_49 ac_int e49 ?_
  replace hf := bd_s hf; obtain ⟨h51, e51, hf⟩ := hf
  refine x_putR (pc := 51) dX8_init_51 fl_8_25 (fW_in rfl rfl) e51 ?_
  refine x_aload_n (pc := 54) (a := some x0) dX8_init_54 rfl ?_
  refine x_bipush (pc := 55) (v := 15) dX8_init_55 (by decide) ?_
  replace hf := bd2_s hf; obtain ⟨v57, h57, e57, hf⟩ := hf
  refine x_nI (pc := 57) dX8_init_57 ac_int e57 ?_
  replace hf := bd_s hf; obtain ⟨h59, e59, hf⟩ := hf
  refine x_putR (pc := 59) dX8_init_59 fl_8_28 (fW_in rfl rfl) e59 ?_
  refine x_aload_n (pc := 62) (a := some x0) dX8_init_62 rfl ?_
  refine x_sipush (pc := 63) (v := 300) dX8_init_63 (by decide) ?_
  replace hf := bd2_s hf; obtain ⟨v66, h66, e66, hf⟩ := hf
  refine x_nI (pc := 66) dX8_init_66 ac_int e66 ?_
  replace hf := bd_s hf; obtain ⟨h68, e68, hf⟩ := hf
  refine x_putR (pc := 68) dX8_init_68 fl_8_31 (fW_in rfl rfl) e68 ?_
  refine x_aload_n (pc := 71) (a := some x0) dX8_init_71 rfl ?_
  refine x_bipush (pc := 72) (v := 12) dX8_init_72 (by decide) ?_
  replace hf := bd2_s hf; obtain ⟨v74, h74, e74, hf⟩ := hf
  refine x_nI (pc := 74) dX8_init_74 ac_int e74 ?_
  replace hf := bd_s hf; obtain ⟨h76, e76, hf⟩ := hf
  refine x_putR (pc := 76) dX8_init_76 fl_8_34 (fW_in rfl rfl) e76 ?_
  refine x_aload_n (pc := 79) (a := some x0) dX8_init_79 rfl ?_
  refine x_bipush (pc := 80) (v := 12) dX8_init_80 (by decide) ?_
  replace hf := bd2_s hf; obtain ⟨v82, h82, e82, hf⟩ := hf
  refine x_nZ (pc := 82) dX8_init_82 ac_boolean e82 ?_
  replace hf := bd_s hf; obtain ⟨h84, e84, hf⟩ := hf
  refine x_putR (pc := 84) dX8_init_84 fl_8_37 (fW_in rfl rfl) e84 ?_
  refine x_aload_n (pc := 87) (a := some x0) dX8_init_87 rfl ?_
  refine x_bipush (pc := 88) (v := 40) dX8_init_88 (by decide) ?_
  replace hf := bd2_s hf; obtain ⟨v90, h90, e90, hf⟩ := hf
  refine x_nI (pc := 90) dX8_init_90 ac_int e90 ?_
  replace hf := bd_s hf; obtain ⟨h92, e92, hf⟩ := hf
  refine x_putR (pc := 92) dX8_init_92 fl_8_41 (fW_in rfl rfl) e92 ?_
  refine x_aload_n (pc := 95) (a := some x0) dX8_init_95 rfl ?_
  replace hf := bd_s hf; obtain ⟨v96, e96, hf⟩ := hf
  refine x_getR (pc := 96) dX8_init_96 fl_8_7 e96 ?_
  refine x_iconst (pc := 99) (v := 0) dX8_init_99 (by decide) ?_
  refine x_sipush (pc := 100) (v := 200) dX8_init_100 (by decide) ?_
  replace hf := bd_s hf; obtain ⟨h103, e103, hf⟩ := hf
  refine x_stI (pc := 103) dX8_init_103 e103 ?_
  refine x_aload_n (pc := 104) (a := some x0) dX8_init_104 rfl ?_
  replace hf := bd_s hf; obtain ⟨v105, e105, hf⟩ := hf
  refine x_getR (pc := 105) dX8_init_105 fl_8_7 e105 ?_
  refine x_iconst (pc := 108) (v := 1) dX8_init_108 (by decide) ?_
  refine x_iconst (pc := 109) (v := 4) dX8_init_109 (by decide) ?_
  replace hf := bd_s hf; obtain ⟨h110, e110, hf⟩ := hf
  refine x_stI (pc := 110) dX8_init_110 e110 ?_
  refine x_iconst (pc := 111) (v := 0) dX8_init_111 (by decide) ?_
  refine x_istore_n (pc := 112) (ls' := [some (va_rf (some x0)), some (.int (0))]) dX8_init_112 (by decide) rfl ?_
  exact tg_X8_init_113  NN hf

def f_X8_isCamp (h : AH) (x0 : Option Nat) (x1 : Int32) : Option (Int32 × AH) :=
  if x1 < 0 then (
    some (0, h)
  ) else (
    bd (gR h x0 8 0) fun v6 =>
    bd (ldI h v6 2) fun v10 =>
    if v10 ≤ x1 then (
      some (0, h)
    ) else (
      some (1, h)
    )
  )

set_option maxRecDepth 100000 in
set_option maxHeartbeats 4000000 in
theorem tm_X8_isCamp {g : GT} {h : AH} {x0 : Option Nat} {x1 : Int32} {r : Int32} {h' : AH} (hf : f_X8_isCamp h x0 x1 = some (r, h')) : Xm g mX8_isCamp [va_rf (x0), .int (x1)] h (some (.int r)) h' := by
  refine xm_of mo_X8_isCamp (Nat.le_of_ble_eq_true rfl) (ls := [some (va_rf (x0)), some (.int (x1))]) rfl ?_
  rw [f_X8_isCamp] at hf
  refine x_iload_n (pc := 0) (x := x1) dX8_isCamp_0 rfl ?_
  refine x_if_lt (pc := 1) (tgt := 18) (x := x1) dX8_isCamp_1 rfl (fun hc => ?_) (fun hc => ?_)
  · replace hf := it_t hc hf
    refine x_iconst (pc := 18) (v := 0) dX8_isCamp_18 (by decide) ?_
    obtain ⟨rfl, rfl⟩ := ret_s hf
    exact x_retz (pc := 19) dX8_isCamp_19 rfl (by decide)
  · replace hf := it_f hc hf
    refine x_iload_n (pc := 4) (x := x1) dX8_isCamp_4 rfl ?_
    refine x_aload_n (pc := 5) (a := x0) dX8_isCamp_5 rfl ?_
    replace hf := bd_s hf; obtain ⟨v6, e6, hf⟩ := hf
    refine x_getR (pc := 6) dX8_isCamp_6 fl_8_7 e6 ?_
    refine x_iconst (pc := 9) (v := 2) dX8_isCamp_9 (by decide) ?_
    replace hf := bd_s hf; obtain ⟨v10, e10, hf⟩ := hf
    refine x_ldI (pc := 10) dX8_isCamp_10 e10 ?_
    refine x_icmp_ge (pc := 11) (tgt := 18) (x := x1) (y := v10) dX8_isCamp_11 rfl (fun hc => ?_) (fun hc => ?_)
    · replace hf := it_t hc hf
      refine x_iconst (pc := 18) (v := 0) dX8_isCamp_18 (by decide) ?_
      obtain ⟨rfl, rfl⟩ := ret_s hf
      exact x_retz (pc := 19) dX8_isCamp_19 rfl (by decide)
    · replace hf := it_f hc hf
      refine x_iconst (pc := 14) (v := 1) dX8_isCamp_14 (by decide) ?_
      refine x_goto (pc := 15) (tgt := 19) dX8_isCamp_15 rfl ?_
      obtain ⟨rfl, rfl⟩ := ret_s hf
      exact x_retz (pc := 19) dX8_isCamp_19 rfl (by decide)

def f_X8_isRapid (h : AH) (x0 : Option Nat) (x1 : Int32) : Option (Int32 × AH) :=
  if x1 < 0 then (
    some (0, h)
  ) else (
    bd (gR h x0 8 0) fun v6 =>
    bd (ldI h v6 3) fun v10 =>
    if v10 ≤ x1 then (
      some (0, h)
    ) else (
      some (1, h)
    )
  )

set_option maxRecDepth 100000 in
set_option maxHeartbeats 4000000 in
theorem tm_X8_isRapid {g : GT} {h : AH} {x0 : Option Nat} {x1 : Int32} {r : Int32} {h' : AH} (hf : f_X8_isRapid h x0 x1 = some (r, h')) : Xm g mX8_isRapid [va_rf (x0), .int (x1)] h (some (.int r)) h' := by
  refine xm_of mo_X8_isRapid (Nat.le_of_ble_eq_true rfl) (ls := [some (va_rf (x0)), some (.int (x1))]) rfl ?_
  rw [f_X8_isRapid] at hf
  refine x_iload_n (pc := 0) (x := x1) dX8_isRapid_0 rfl ?_
  refine x_if_lt (pc := 1) (tgt := 18) (x := x1) dX8_isRapid_1 rfl (fun hc => ?_) (fun hc => ?_)
  · replace hf := it_t hc hf
    refine x_iconst (pc := 18) (v := 0) dX8_isRapid_18 (by decide) ?_
    obtain ⟨rfl, rfl⟩ := ret_s hf
    exact x_retz (pc := 19) dX8_isRapid_19 rfl (by decide)
  · replace hf := it_f hc hf
    refine x_iload_n (pc := 4) (x := x1) dX8_isRapid_4 rfl ?_
    refine x_aload_n (pc := 5) (a := x0) dX8_isRapid_5 rfl ?_
    replace hf := bd_s hf; obtain ⟨v6, e6, hf⟩ := hf
    refine x_getR (pc := 6) dX8_isRapid_6 fl_8_7 e6 ?_
    refine x_iconst (pc := 9) (v := 3) dX8_isRapid_9 (by decide) ?_
    replace hf := bd_s hf; obtain ⟨v10, e10, hf⟩ := hf
    refine x_ldI (pc := 10) dX8_isRapid_10 e10 ?_
    refine x_icmp_ge (pc := 11) (tgt := 18) (x := x1) (y := v10) dX8_isRapid_11 rfl (fun hc => ?_) (fun hc => ?_)
    · replace hf := it_t hc hf
      refine x_iconst (pc := 18) (v := 0) dX8_isRapid_18 (by decide) ?_
      obtain ⟨rfl, rfl⟩ := ret_s hf
      exact x_retz (pc := 19) dX8_isRapid_19 rfl (by decide)
    · replace hf := it_f hc hf
      refine x_iconst (pc := 14) (v := 1) dX8_isRapid_14 (by decide) ?_
      refine x_goto (pc := 15) (tgt := 19) dX8_isRapid_15 rfl ?_
      obtain ⟨rfl, rfl⟩ := ret_s hf
      exact x_retz (pc := 19) dX8_isRapid_19 rfl (by decide)

def f_X8_isWater (h : AH) (x0 : Int32) : Option (Int32 × AH) :=
  bd2 (f_X8_isIn h x0 0 999) fun v5 h5 =>
  bd (bl v5) fun v8 =>
  some (v8, h5)

set_option maxRecDepth 100000 in
set_option maxHeartbeats 4000000 in
theorem tm_X8_isWater {g : GT} {h : AH} {x0 : Int32} {r : Int32} {h' : AH} (hf : f_X8_isWater h x0 = some (r, h')) : Xm g mX8_isWater [.int (x0)] h (some (.int r)) h' := by
  refine xm_of mo_X8_isWater (Nat.le_of_ble_eq_true rfl) (ls := [some (.int (x0))]) rfl ?_
  rw [f_X8_isWater] at hf
  refine x_iload_n (pc := 0) (x := x0) dX8_isWater_0 rfl ?_
  refine x_iconst (pc := 1) (v := 0) dX8_isWater_1 (by decide) ?_
  refine x_sipush (pc := 2) (v := 999) dX8_isWater_2 (by decide) ?_
  replace hf := bd2_s hf; obtain ⟨v5, h5, e5, hf⟩ := hf
  refine x_cSi (pc := 5) (M' := mX8_isIn) (as := [.int (x0), .int (0), .int (999)]) (st := []) dX8_isWater_5 mo_X8_isIn lk_8_48 sm_X8_isIn ⟨Nat.le_of_ble_eq_true rfl, Nat.le_of_ble_eq_true rfl⟩ rfl (Nat.le_of_ble_eq_true rfl) rfl (tm_X8_isIn e5) ?_
  replace hf := bd_s hf; obtain ⟨v8, e8, hf⟩ := hf
  obtain ⟨z8, q8⟩ := bl_s e8
  obtain ⟨rfl, rfl⟩ := ret_s hf
  rw [q8]
  exact x_retz (pc := 8) dX8_isWater_8 rfl z8

def f_X8_landing (h : AH) (x0 : Option Nat) (x1 : Int32) : Option (Int32 × AH) :=
  bd2 (f_X8_isIn h x1 0 250) fun v5 h5 =>
  if ¬ v5 = 0 then (
    bd (gR h5 x0 8 0) fun v19 =>
    bd (ldI h5 v19 4) fun v23 =>
    if ¬ v23 = 8 then (
      bd (gR h5 x0 8 0) fun v39 =>
      bd (ldI h5 v39 4) fun v43 =>
      bd (isO h5 x0 8) fun _ =>
      bd2 (f_X8_becomes h5 x0 4 (v43 + 1)) fun v46 h46 =>
      bd (gR h46 x0 8 0) fun v51 =>
      bd (stI h46 v51 (66 + v46) x1) fun h59 =>
      some (v46 + 1, h59)
    ) else (
      bd (isO h5 x0 8) fun _ =>
      bd2 (f_X8_finding h5 x0 (-100005)) fun v32 h32 =>
      some (v32, h32)
    )
  ) else (
    bd (isO h5 x0 8) fun _ =>
    bd2 (f_X8_finding h5 x0 (-100001)) fun v14 h14 =>
    some (v14, h14)
  )

set_option maxRecDepth 100000 in
set_option maxHeartbeats 4000000 in
theorem tm_X8_landing {g : GT} {h : AH} {x0 : Option Nat} {x1 : Int32} {r : Int32} {h' : AH} (hf : f_X8_landing h x0 x1 = some (r, h')) : Xm g mX8_landing [va_rf (x0), .int (x1)] h (some (.int r)) h' := by
  refine xm_of mo_X8_landing (Nat.le_of_ble_eq_true rfl) (ls := [some (va_rf (x0)), some (.int (x1)), none]) rfl ?_
  rw [f_X8_landing] at hf
  refine x_iload_n (pc := 0) (x := x1) dX8_landing_0 rfl ?_
  refine x_iconst (pc := 1) (v := 0) dX8_landing_1 (by decide) ?_
  refine x_sipush (pc := 2) (v := 250) dX8_landing_2 (by decide) ?_
  replace hf := bd2_s hf; obtain ⟨v5, h5, e5, hf⟩ := hf
  refine x_cSi (pc := 5) (M' := mX8_isIn) (as := [.int (x1), .int (0), .int (250)]) (st := []) dX8_landing_5 mo_X8_isIn lk_8_48 sm_X8_isIn ⟨Nat.le_of_ble_eq_true rfl, Nat.le_of_ble_eq_true rfl⟩ rfl (Nat.le_of_ble_eq_true rfl) rfl (tm_X8_isIn e5) ?_
  refine x_if_ne (pc := 8) (tgt := 18) (x := v5) dX8_landing_8 rfl (fun hc => ?_) (fun hc => ?_)
  · replace hf := it_t hc hf
    refine x_aload_n (pc := 18) (a := x0) dX8_landing_18 rfl ?_
    replace hf := bd_s hf; obtain ⟨v19, e19, hf⟩ := hf
    refine x_getR (pc := 19) dX8_landing_19 fl_8_7 e19 ?_
    refine x_iconst (pc := 22) (v := 4) dX8_landing_22 (by decide) ?_
    replace hf := bd_s hf; obtain ⟨v23, e23, hf⟩ := hf
    refine x_ldI (pc := 23) dX8_landing_23 e23 ?_
    refine x_bipush (pc := 24) (v := 8) dX8_landing_24 (by decide) ?_
    refine x_icmp_ne (pc := 26) (tgt := 36) (x := v23) (y := 8) dX8_landing_26 rfl (fun hc => ?_) (fun hc => ?_)
    · replace hf := it_t hc hf
      refine x_aload_n (pc := 36) (a := x0) dX8_landing_36 rfl ?_
      refine x_iconst (pc := 37) (v := 4) dX8_landing_37 (by decide) ?_
      refine x_aload_n (pc := 38) (a := x0) dX8_landing_38 rfl ?_
      replace hf := bd_s hf; obtain ⟨v39, e39, hf⟩ := hf
      refine x_getR (pc := 39) dX8_landing_39 fl_8_7 e39 ?_
      refine x_iconst (pc := 42) (v := 4) dX8_landing_42 (by decide) ?_
      replace hf := bd_s hf; obtain ⟨v43, e43, hf⟩ := hf
      refine x_ldI (pc := 43) dX8_landing_43 e43 ?_
      refine x_iconst (pc := 44) (v := 1) dX8_landing_44 (by decide) ?_
      refine x_iadd (pc := 45) dX8_landing_45 ?_
      replace hf := bd_s hf; obtain ⟨u46, i46, hf⟩ := hf
      replace hf := bd2_s hf; obtain ⟨v46, h46, e46, hf⟩ := hf
      refine x_cVi (pc := 46) (M' := mX8_becomes) (as := [.int (4), .int (v43 + 1)]) (st := []) (a := x0) (ci := 8) dX8_landing_46 mo_X8_becomes lk_8_63 im_X8_becomes se_X8_becomes rfl ⟨Nat.le_of_ble_eq_true rfl, Nat.le_of_ble_eq_true rfl⟩ rfl (Nat.le_of_ble_eq_true rfl) rfl i46 (tm_X8_becomes e46) ?_
      refine x_istore_n (pc := 49) (ls' := [some (va_rf (x0)), some (.int (x1)), some (.int (v46))]) dX8_landing_49 (by decide) rfl ?_
      refine x_aload_n (pc := 50) (a := x0) dX8_landing_50 rfl ?_
      replace hf := bd_s hf; obtain ⟨v51, e51, hf⟩ := hf
      refine x_getR (pc := 51) dX8_landing_51 fl_8_7 e51 ?_
      refine x_bipush (pc := 54) (v := 66) dX8_landing_54 (by decide) ?_
      refine x_iload_n (pc := 56) (x := v46) dX8_landing_56 rfl ?_
      refine x_iadd (pc := 57) dX8_landing_57 ?_
      refine x_iload_n (pc := 58) (x := x1) dX8_landing_58 rfl ?_
      replace hf := bd_s hf; obtain ⟨h59, e59, hf⟩ := hf
      refine x_stI (pc := 59) dX8_landing_59 e59 ?_
      refine x_iload_n (pc := 60) (x := v46) dX8_landing_60 rfl ?_
      refine x_iconst (pc := 61) (v := 1) dX8_landing_61 (by decide) ?_
      refine x_iadd (pc := 62) dX8_landing_62 ?_
      obtain ⟨rfl, rfl⟩ := ret_s hf
      exact x_reti (pc := 63) dX8_landing_63 rfl
    · replace hf := it_n hc hf
      refine x_aload_n (pc := 29) (a := x0) dX8_landing_29 rfl ?_
      refine x_ldc (pc := 30) (v := -100005) dX8_landing_30 kc_8_68 ?_
      replace hf := bd_s hf; obtain ⟨u32, i32, hf⟩ := hf
      replace hf := bd2_s hf; obtain ⟨v32, h32, e32, hf⟩ := hf
      refine x_cVi (pc := 32) (M' := mX8_finding) (as := [.int ((-100005))]) (st := []) (a := x0) (ci := 8) dX8_landing_32 mo_X8_finding lk_8_56 im_X8_finding se_X8_finding rfl ⟨Nat.le_of_ble_eq_true rfl, Nat.le_of_ble_eq_true rfl⟩ rfl (Nat.le_of_ble_eq_true rfl) rfl i32 (tm_X8_finding e32) ?_
      obtain ⟨rfl, rfl⟩ := ret_s hf
      exact x_reti (pc := 35) dX8_landing_35 rfl
  · replace hf := it_n hc hf
    refine x_aload_n (pc := 11) (a := x0) dX8_landing_11 rfl ?_
    refine x_ldc (pc := 12) (v := -100001) dX8_landing_12 kc_8_67 ?_
    replace hf := bd_s hf; obtain ⟨u14, i14, hf⟩ := hf
    replace hf := bd2_s hf; obtain ⟨v14, h14, e14, hf⟩ := hf
    refine x_cVi (pc := 14) (M' := mX8_finding) (as := [.int ((-100001))]) (st := []) (a := x0) (ci := 8) dX8_landing_14 mo_X8_finding lk_8_56 im_X8_finding se_X8_finding rfl ⟨Nat.le_of_ble_eq_true rfl, Nat.le_of_ble_eq_true rfl⟩ rfl (Nat.le_of_ble_eq_true rfl) rfl i14 (tm_X8_finding e14) ?_
    obtain ⟨rfl, rfl⟩ := ret_s hf
    exact x_reti (pc := 17) dX8_landing_17 rfl

def f_X8_launch (h : AH) (x0 : Option Nat) (x1 : Int32) (x2 : Int32) : Option (Int32 × AH) :=
  bd (isO h x0 8) fun _ =>
  bd2 (f_X8_isTrip h x0 x1) fun v2 h2 =>
  if v2 = 0 then (
    bd (isO h2 x0 8) fun _ =>
    bd2 (f_X8_finding h2 x0 (-100001)) fun v18 h18 =>
    some (v18, h18)
  ) else (
    bd2 (f_X8_isDay h2 x2) fun v9 h9 =>
    if ¬ v9 = 0 then (
      bd (isO h9 x0 8) fun _ =>
      bd2 (f_X8_becomes h9 x0 ((194 + (5 * x1)) + 1) x2) fun v33 h33 =>
      bd (isO h33 x0 8) fun _ =>
      bd (f_X8_noNights h33 x0 x1) fun h39 =>
      some (v33, h39)
    ) else (
      bd (isO h9 x0 8) fun _ =>
      bd2 (f_X8_finding h9 x0 (-100001)) fun v18 h18 =>
      some (v18, h18)
    )
  )

set_option maxRecDepth 100000 in
set_option maxHeartbeats 4000000 in
theorem tm_X8_launch {g : GT} {h : AH} {x0 : Option Nat} {x1 : Int32} {x2 : Int32} {r : Int32} {h' : AH} (hf : f_X8_launch h x0 x1 x2 = some (r, h')) : Xm g mX8_launch [va_rf (x0), .int (x1), .int (x2)] h (some (.int r)) h' := by
  refine xm_of mo_X8_launch (Nat.le_of_ble_eq_true rfl) (ls := [some (va_rf (x0)), some (.int (x1)), some (.int (x2)), none]) rfl ?_
  rw [f_X8_launch] at hf
  refine x_aload_n (pc := 0) (a := x0) dX8_launch_0 rfl ?_
  refine x_iload_n (pc := 1) (x := x1) dX8_launch_1 rfl ?_
  replace hf := bd_s hf; obtain ⟨u2, i2, hf⟩ := hf
  replace hf := bd2_s hf; obtain ⟨v2, h2, e2, hf⟩ := hf
  refine x_cVi (pc := 2) (M' := mX8_isTrip) (as := [.int (x1)]) (st := []) (a := x0) (ci := 8) dX8_launch_2 mo_X8_isTrip lk_8_91 im_X8_isTrip se_X8_isTrip rfl ⟨Nat.le_of_ble_eq_true rfl, Nat.le_of_ble_eq_true rfl⟩ rfl (Nat.le_of_ble_eq_true rfl) rfl i2 (tm_X8_isTrip e2) ?_
  refine x_if_eq (pc := 5) (tgt := 15) (x := v2) dX8_launch_5 rfl (fun hc => ?_) (fun hc => ?_)
  · replace hf := it_t hc hf
    refine x_aload_n (pc := 15) (a := x0) dX8_launch_15 rfl ?_
    refine x_ldc (pc := 16) (v := -100001) dX8_launch_16 kc_8_67 ?_
    replace hf := bd_s hf; obtain ⟨u18, i18, hf⟩ := hf
    replace hf := bd2_s hf; obtain ⟨v18, h18, e18, hf⟩ := hf
    refine x_cVi (pc := 18) (M' := mX8_finding) (as := [.int ((-100001))]) (st := []) (a := x0) (ci := 8) dX8_launch_18 mo_X8_finding lk_8_56 im_X8_finding se_X8_finding rfl ⟨Nat.le_of_ble_eq_true rfl, Nat.le_of_ble_eq_true rfl⟩ rfl (Nat.le_of_ble_eq_true rfl) rfl i18 (tm_X8_finding e18) ?_
    obtain ⟨rfl, rfl⟩ := ret_s hf
    exact x_reti (pc := 21) dX8_launch_21 rfl
  · replace hf := it_f hc hf
    refine x_iload_n (pc := 8) (x := x2) dX8_launch_8 rfl ?_
    replace hf := bd2_s hf; obtain ⟨v9, h9, e9, hf⟩ := hf
    refine x_cSi (pc := 9) (M' := mX8_isDay) (as := [.int (x2)]) (st := []) dX8_launch_9 mo_X8_isDay lk_8_74 sm_X8_isDay ⟨Nat.le_of_ble_eq_true rfl, Nat.le_of_ble_eq_true rfl⟩ rfl (Nat.le_of_ble_eq_true rfl) rfl (tm_X8_isDay e9) ?_
    refine x_if_ne (pc := 12) (tgt := 22) (x := v9) dX8_launch_12 rfl (fun hc => ?_) (fun hc => ?_)
    · replace hf := it_t hc hf
      refine x_aload_n (pc := 22) (a := x0) dX8_launch_22 rfl ?_
      refine x_sipush (pc := 23) (v := 194) dX8_launch_23 (by decide) ?_
      refine x_iconst (pc := 26) (v := 5) dX8_launch_26 (by decide) ?_
      refine x_iload_n (pc := 27) (x := x1) dX8_launch_27 rfl ?_
      refine x_imul (pc := 28) dX8_launch_28 ?_
      refine x_iadd (pc := 29) dX8_launch_29 ?_
      refine x_iconst (pc := 30) (v := 1) dX8_launch_30 (by decide) ?_
      refine x_iadd (pc := 31) dX8_launch_31 ?_
      refine x_iload_n (pc := 32) (x := x2) dX8_launch_32 rfl ?_
      replace hf := bd_s hf; obtain ⟨u33, i33, hf⟩ := hf
      replace hf := bd2_s hf; obtain ⟨v33, h33, e33, hf⟩ := hf
      refine x_cVi (pc := 33) (M' := mX8_becomes) (as := [.int ((194 + (5 * x1)) + 1), .int (x2)]) (st := []) (a := x0) (ci := 8) dX8_launch_33 mo_X8_becomes lk_8_63 im_X8_becomes se_X8_becomes rfl ⟨Nat.le_of_ble_eq_true rfl, Nat.le_of_ble_eq_true rfl⟩ rfl (Nat.le_of_ble_eq_true rfl) rfl i33 (tm_X8_becomes e33) ?_
      refine x_istore_n (pc := 36) (ls' := [some (va_rf (x0)), some (.int (x1)), some (.int (x2)), some (.int (v33))]) dX8_launch_36 (by decide) rfl ?_
      refine x_aload_n (pc := 37) (a := x0) dX8_launch_37 rfl ?_
      refine x_iload_n (pc := 38) (x := x1) dX8_launch_38 rfl ?_
      replace hf := bd_s hf; obtain ⟨u39, i39, hf⟩ := hf
      replace hf := bd_s hf; obtain ⟨h39, e39, hf⟩ := hf
      refine x_cVv (pc := 39) (M' := mX8_noNights) (as := [.int (x1)]) (st := []) (a := x0) (ci := 8) dX8_launch_39 mo_X8_noNights lk_8_87 im_X8_noNights se_X8_noNights rfl ⟨Nat.le_of_ble_eq_true rfl, Nat.le_of_ble_eq_true rfl⟩ rfl (Nat.le_of_ble_eq_true rfl) rfl i39 (tm_X8_noNights e39) ?_
      refine x_iload_n (pc := 42) (x := v33) dX8_launch_42 rfl ?_
      obtain ⟨rfl, rfl⟩ := ret_s hf
      exact x_reti (pc := 43) dX8_launch_43 rfl
    · replace hf := it_n hc hf
      refine x_aload_n (pc := 15) (a := x0) dX8_launch_15 rfl ?_
      refine x_ldc (pc := 16) (v := -100001) dX8_launch_16 kc_8_67 ?_
      replace hf := bd_s hf; obtain ⟨u18, i18, hf⟩ := hf
      replace hf := bd2_s hf; obtain ⟨v18, h18, e18, hf⟩ := hf
      refine x_cVi (pc := 18) (M' := mX8_finding) (as := [.int ((-100001))]) (st := []) (a := x0) (ci := 8) dX8_launch_18 mo_X8_finding lk_8_56 im_X8_finding se_X8_finding rfl ⟨Nat.le_of_ble_eq_true rfl, Nat.le_of_ble_eq_true rfl⟩ rfl (Nat.le_of_ble_eq_true rfl) rfl i18 (tm_X8_finding e18) ?_
      obtain ⟨rfl, rfl⟩ := ret_s hf
      exact x_reti (pc := 21) dX8_launch_21 rfl

def g_X8_let_107 : Nat → AH → Option Nat → Int32 → Int32 → Int32 → Option (Int32 × AH)
  | 0, _, _, _, _, _ => none
  | n + 1, h, x0, x1, x2, x3 =>
    bd (gR h x0 8 4) fun v109 =>
    bd (ldI h v109 x2) fun v113 =>
    if v113 ≤ x3 then (
      bd (gR h x0 8 4) fun v148 =>
      bd (ldI h v148 x2) fun v152 =>
      some (v152, h)
    ) else (
      bd (gR h x0 8 0) fun v118 =>
      bd (gR h x0 8 5) fun v130 =>
      bd (ldI h v130 ((40 * x2) + x3)) fun v139 =>
      bd (stI h v118 ((74 + (4 * x1)) + x3) v139) fun h140 =>
      g_X8_let_107  n h140 x0 x1 x2 (x3 + 1)
    )

set_option maxRecDepth 100000 in
set_option maxHeartbeats 4000000 in
theorem tg_X8_let_107 {g : GT} : ∀ (n : Nat) {h : AH} {x0 : Option Nat} {x1 : Int32} {x2 : Int32} {x3 : Int32} {r : Int32} {h' : AH}, g_X8_let_107 n h x0 x1 x2 x3 = some (r, h') → Xj g mX8_let h 107 [some (va_rf (x0)), some (.int (x1)), some (.int (x2)), some (.int (x3))] [] (some (.int r)) h' := by
  intro n
  induction n with
  | zero =>
    intros
    rename_i z
    cases z
  | succ n ih =>
    intro h x0 x1 x2 x3 r h' hf
    rw [g_X8_let_107] at hf
    refine x_iload_n (pc := 107) (x := x3) dX8_let_107 rfl ?_
    refine x_aload_n (pc := 108) (a := x0) dX8_let_108 rfl ?_
    replace hf := bd_s hf; obtain ⟨v109, e109, hf⟩ := hf
    refine x_getR (pc := 109) dX8_let_109 fl_8_19 e109 ?_
    refine x_iload_n (pc := 112) (x := x2) dX8_let_112 rfl ?_
    replace hf := bd_s hf; obtain ⟨v113, e113, hf⟩ := hf
    refine x_ldI (pc := 113) dX8_let_113 e113 ?_
    refine x_icmp_ge (pc := 114) (tgt := 147) (x := x3) (y := v113) dX8_let_114 rfl (fun hc => ?_) (fun hc => ?_)
    · replace hf := it_t hc hf
      refine x_aload_n (pc := 147) (a := x0) dX8_let_147 rfl ?_
      replace hf := bd_s hf; obtain ⟨v148, e148, hf⟩ := hf
      refine x_getR (pc := 148) dX8_let_148 fl_8_19 e148 ?_
      refine x_iload_n (pc := 151) (x := x2) dX8_let_151 rfl ?_
      replace hf := bd_s hf; obtain ⟨v152, e152, hf⟩ := hf
      refine x_ldI (pc := 152) dX8_let_152 e152 ?_
      obtain ⟨rfl, rfl⟩ := ret_s hf
      exact x_reti (pc := 153) dX8_let_153 rfl
    · replace hf := it_f hc hf
      refine x_aload_n (pc := 117) (a := x0) dX8_let_117 rfl ?_
      replace hf := bd_s hf; obtain ⟨v118, e118, hf⟩ := hf
      refine x_getR (pc := 118) dX8_let_118 fl_8_7 e118 ?_
      refine x_bipush (pc := 121) (v := 74) dX8_let_121 (by decide) ?_
      refine x_iconst (pc := 123) (v := 4) dX8_let_123 (by decide) ?_
      refine x_iload_n (pc := 124) (x := x1) dX8_let_124 rfl ?_
      refine x_imul (pc := 125) dX8_let_125 ?_
      refine x_iadd (pc := 126) dX8_let_126 ?_
      refine x_iload_n (pc := 127) (x := x3) dX8_let_127 rfl ?_
      refine x_iadd (pc := 128) dX8_let_128 ?_
      refine x_aload_n (pc := 129) (a := x0) dX8_let_129 rfl ?_
      replace hf := bd_s hf; obtain ⟨v130, e130, hf⟩ := hf
      refine x_getR (pc := 130) dX8_let_130 fl_8_22 e130 ?_
      refine x_bipush (pc := 133) (v := 40) dX8_let_133 (by decide) ?_
      refine x_iload_n (pc := 135) (x := x2) dX8_let_135 rfl ?_
      refine x_imul (pc := 136) dX8_let_136 ?_
      refine x_iload_n (pc := 137) (x := x3) dX8_let_137 rfl ?_
      refine x_iadd (pc := 138) dX8_let_138 ?_
      replace hf := bd_s hf; obtain ⟨v139, e139, hf⟩ := hf
      refine x_ldI (pc := 139) dX8_let_139 e139 ?_
      replace hf := bd_s hf; obtain ⟨h140, e140, hf⟩ := hf
      refine x_stI (pc := 140) dX8_let_140 e140 ?_
      refine x_iinc (pc := 141) (x := x3) (v := x3 + 1) (ls' := [some (va_rf (x0)), some (.int (x1)), some (.int (x2)), some (.int (x3 + 1))]) dX8_let_141 rfl rfl (by decide) rfl ?_
      refine x_goto (pc := 144) (tgt := 107) dX8_let_144 rfl ?_
      exact ih hf

def g_X8_let_61 : Nat → AH → Option Nat → Int32 → Int32 → Int32 → Option (Int32 × AH)
  | 0, _, _, _, _, _ => none
  | n + 1, h, x0, x1, x2, x3 =>
    bd (gR h x0 8 4) fun v63 =>
    bd (ldI h v63 x2) fun v67 =>
    if v67 ≤ x3 then (
      bd (isO h x0 8) fun _ =>
      bd (f_X8_keep h x0) fun h102 =>
      g_X8_let_107  NN h102 x0 x1 x2 0
    ) else (
      bd (gR h x0 8 5) fun v72 =>
      bd (ldI h v72 ((40 * x2) + x3)) fun v81 =>
      bd2 (f_X8_isWater h v81) fun v82 h82 =>
      if ¬ v82 = 0 then (
        g_X8_let_61  n h82 x0 x1 x2 (x3 + 1)
      ) else (
        bd (isO h82 x0 8) fun _ =>
        bd2 (f_X8_finding h82 x0 (-100001)) fun v91 h91 =>
        some (v91, h91)
      )
    )

set_option maxRecDepth 100000 in
set_option maxHeartbeats 4000000 in
theorem tg_X8_let_61 {g : GT} : ∀ (n : Nat) {h : AH} {x0 : Option Nat} {x1 : Int32} {x2 : Int32} {x3 : Int32} {r : Int32} {h' : AH}, g_X8_let_61 n h x0 x1 x2 x3 = some (r, h') → Xj g mX8_let h 61 [some (va_rf (x0)), some (.int (x1)), some (.int (x2)), some (.int (x3))] [] (some (.int r)) h' := by
  intro n
  induction n with
  | zero =>
    intros
    rename_i z
    cases z
  | succ n ih =>
    intro h x0 x1 x2 x3 r h' hf
    rw [g_X8_let_61] at hf
    refine x_iload_n (pc := 61) (x := x3) dX8_let_61 rfl ?_
    refine x_aload_n (pc := 62) (a := x0) dX8_let_62 rfl ?_
    replace hf := bd_s hf; obtain ⟨v63, e63, hf⟩ := hf
    refine x_getR (pc := 63) dX8_let_63 fl_8_19 e63 ?_
    refine x_iload_n (pc := 66) (x := x2) dX8_let_66 rfl ?_
    replace hf := bd_s hf; obtain ⟨v67, e67, hf⟩ := hf
    refine x_ldI (pc := 67) dX8_let_67 e67 ?_
    refine x_icmp_ge (pc := 68) (tgt := 101) (x := x3) (y := v67) dX8_let_68 rfl (fun hc => ?_) (fun hc => ?_)
    · replace hf := it_t hc hf
      refine x_aload_n (pc := 101) (a := x0) dX8_let_101 rfl ?_
      replace hf := bd_s hf; obtain ⟨u102, i102, hf⟩ := hf
      replace hf := bd_s hf; obtain ⟨h102, e102, hf⟩ := hf
      refine x_cVv (pc := 102) (M' := mX8_keep) (as := []) (st := []) (a := x0) (ci := 8) dX8_let_102 mo_X8_keep lk_8_60 im_X8_keep se_X8_keep rfl ⟨Nat.le_of_ble_eq_true rfl, Nat.le_of_ble_eq_true rfl⟩ rfl (Nat.le_of_ble_eq_true rfl) rfl i102 (tm_X8_keep e102) ?_
      refine x_iconst (pc := 105) (v := 0) dX8_let_105 (by decide) ?_
      refine x_istore_n (pc := 106) (ls' := [some (va_rf (x0)), some (.int (x1)), some (.int (x2)), some (.int (0))]) dX8_let_106 (by decide) rfl ?_
      exact tg_X8_let_107  NN hf
    · replace hf := it_f hc hf
      refine x_aload_n (pc := 71) (a := x0) dX8_let_71 rfl ?_
      replace hf := bd_s hf; obtain ⟨v72, e72, hf⟩ := hf
      refine x_getR (pc := 72) dX8_let_72 fl_8_22 e72 ?_
      refine x_bipush (pc := 75) (v := 40) dX8_let_75 (by decide) ?_
      refine x_iload_n (pc := 77) (x := x2) dX8_let_77 rfl ?_
      refine x_imul (pc := 78) dX8_let_78 ?_
      refine x_iload_n (pc := 79) (x := x3) dX8_let_79 rfl ?_
      refine x_iadd (pc := 80) dX8_let_80 ?_
      replace hf := bd_s hf; obtain ⟨v81, e81, hf⟩ := hf
      refine x_ldI (pc := 81) dX8_let_81 e81 ?_
      replace hf := bd2_s hf; obtain ⟨v82, h82, e82, hf⟩ := hf
      refine x_cSi (pc := 82) (M' := mX8_isWater) (as := [.int (v81)]) (st := []) dX8_let_82 mo_X8_isWater lk_8_69 sm_X8_isWater ⟨Nat.le_of_ble_eq_true rfl, Nat.le_of_ble_eq_true rfl⟩ rfl (Nat.le_of_ble_eq_true rfl) rfl (tm_X8_isWater e82) ?_
      refine x_if_ne (pc := 85) (tgt := 95) (x := v82) dX8_let_85 rfl (fun hc => ?_) (fun hc => ?_)
      · replace hf := it_t hc hf
        refine x_iinc (pc := 95) (x := x3) (v := x3 + 1) (ls' := [some (va_rf (x0)), some (.int (x1)), some (.int (x2)), some (.int (x3 + 1))]) dX8_let_95 rfl rfl (by decide) rfl ?_
        refine x_goto (pc := 98) (tgt := 61) dX8_let_98 rfl ?_
        exact ih hf
      · replace hf := it_n hc hf
        refine x_aload_n (pc := 88) (a := x0) dX8_let_88 rfl ?_
        refine x_ldc (pc := 89) (v := -100001) dX8_let_89 kc_8_67 ?_
        replace hf := bd_s hf; obtain ⟨u91, i91, hf⟩ := hf
        replace hf := bd2_s hf; obtain ⟨v91, h91, e91, hf⟩ := hf
        refine x_cVi (pc := 91) (M' := mX8_finding) (as := [.int ((-100001))]) (st := []) (a := x0) (ci := 8) dX8_let_91 mo_X8_finding lk_8_56 im_X8_finding se_X8_finding rfl ⟨Nat.le_of_ble_eq_true rfl, Nat.le_of_ble_eq_true rfl⟩ rfl (Nat.le_of_ble_eq_true rfl) rfl i91 (tm_X8_finding e91) ?_
        obtain ⟨rfl, rfl⟩ := ret_s hf
        exact x_reti (pc := 94) dX8_let_94 rfl

def f_X8_let (h : AH) (x0 : Option Nat) (x1 : Int32) (x2 : Int32) : Option (Int32 × AH) :=
  bd2 (f_X8_isDay h x1) fun v1 h1 =>
  if v1 = 0 then (
    bd (isO h1 x0 8) fun _ =>
    bd2 (f_X8_finding h1 x0 (-100001)) fun v17 h17 =>
    some (v17, h17)
  ) else (
    bd2 (f_X8_isSheet h1 x2) fun v8 h8 =>
    if ¬ v8 = 0 then (
      bd (gR h8 x0 8 3) fun v22 =>
      bd (ldI h8 v22 x2) fun v26 =>
      if ¬ v26 = 0 then (
        bd (gR h8 x0 8 4) fun v41 =>
        bd (ldI h8 v41 x2) fun v45 =>
        if ((4 * x1) + v45) ≤ 120 then (
          g_X8_let_61  NN h8 x0 x1 x2 0
        ) else (
          bd (isO h8 x0 8) fun _ =>
          bd2 (f_X8_finding h8 x0 (-100003)) fun v55 h55 =>
          some (v55, h55)
        )
      ) else (
        bd (isO h8 x0 8) fun _ =>
        bd2 (f_X8_finding h8 x0 (-100002)) fun v33 h33 =>
        some (v33, h33)
      )
    ) else (
      bd (isO h8 x0 8) fun _ =>
      bd2 (f_X8_finding h8 x0 (-100001)) fun v17 h17 =>
      some (v17, h17)
    )
  )

set_option maxRecDepth 100000 in
set_option maxHeartbeats 4000000 in
theorem tm_X8_let {g : GT} {h : AH} {x0 : Option Nat} {x1 : Int32} {x2 : Int32} {r : Int32} {h' : AH} (hf : f_X8_let h x0 x1 x2 = some (r, h')) : Xm g mX8_let [va_rf (x0), .int (x1), .int (x2)] h (some (.int r)) h' := by
  refine xm_of mo_X8_let (Nat.le_of_ble_eq_true rfl) (ls := [some (va_rf (x0)), some (.int (x1)), some (.int (x2)), none]) rfl ?_
  rw [f_X8_let] at hf
  refine x_iload_n (pc := 0) (x := x1) dX8_let_0 rfl ?_
  replace hf := bd2_s hf; obtain ⟨v1, h1, e1, hf⟩ := hf
  refine x_cSi (pc := 1) (M' := mX8_isDay) (as := [.int (x1)]) (st := []) dX8_let_1 mo_X8_isDay lk_8_74 sm_X8_isDay ⟨Nat.le_of_ble_eq_true rfl, Nat.le_of_ble_eq_true rfl⟩ rfl (Nat.le_of_ble_eq_true rfl) rfl (tm_X8_isDay e1) ?_
  refine x_if_eq (pc := 4) (tgt := 14) (x := v1) dX8_let_4 rfl (fun hc => ?_) (fun hc => ?_)
  · replace hf := it_t hc hf
    refine x_aload_n (pc := 14) (a := x0) dX8_let_14 rfl ?_
    refine x_ldc (pc := 15) (v := -100001) dX8_let_15 kc_8_67 ?_
    replace hf := bd_s hf; obtain ⟨u17, i17, hf⟩ := hf
    replace hf := bd2_s hf; obtain ⟨v17, h17, e17, hf⟩ := hf
    refine x_cVi (pc := 17) (M' := mX8_finding) (as := [.int ((-100001))]) (st := []) (a := x0) (ci := 8) dX8_let_17 mo_X8_finding lk_8_56 im_X8_finding se_X8_finding rfl ⟨Nat.le_of_ble_eq_true rfl, Nat.le_of_ble_eq_true rfl⟩ rfl (Nat.le_of_ble_eq_true rfl) rfl i17 (tm_X8_finding e17) ?_
    obtain ⟨rfl, rfl⟩ := ret_s hf
    exact x_reti (pc := 20) dX8_let_20 rfl
  · replace hf := it_f hc hf
    refine x_iload_n (pc := 7) (x := x2) dX8_let_7 rfl ?_
    replace hf := bd2_s hf; obtain ⟨v8, h8, e8, hf⟩ := hf
    refine x_cSi (pc := 8) (M' := mX8_isSheet) (as := [.int (x2)]) (st := []) dX8_let_8 mo_X8_isSheet lk_8_156 sm_X8_isSheet ⟨Nat.le_of_ble_eq_true rfl, Nat.le_of_ble_eq_true rfl⟩ rfl (Nat.le_of_ble_eq_true rfl) rfl (tm_X8_isSheet e8) ?_
    refine x_if_ne (pc := 11) (tgt := 21) (x := v8) dX8_let_11 rfl (fun hc => ?_) (fun hc => ?_)
    · replace hf := it_t hc hf
      refine x_aload_n (pc := 21) (a := x0) dX8_let_21 rfl ?_
      replace hf := bd_s hf; obtain ⟨v22, e22, hf⟩ := hf
      refine x_getR (pc := 22) dX8_let_22 fl_8_16 e22 ?_
      refine x_iload_n (pc := 25) (x := x2) dX8_let_25 rfl ?_
      replace hf := bd_s hf; obtain ⟨v26, e26, hf⟩ := hf
      refine x_ldI (pc := 26) dX8_let_26 e26 ?_
      refine x_if_ne (pc := 27) (tgt := 37) (x := v26) dX8_let_27 rfl (fun hc => ?_) (fun hc => ?_)
      · replace hf := it_t hc hf
        refine x_iconst (pc := 37) (v := 4) dX8_let_37 (by decide) ?_
        refine x_iload_n (pc := 38) (x := x1) dX8_let_38 rfl ?_
        refine x_imul (pc := 39) dX8_let_39 ?_
        refine x_aload_n (pc := 40) (a := x0) dX8_let_40 rfl ?_
        replace hf := bd_s hf; obtain ⟨v41, e41, hf⟩ := hf
        refine x_getR (pc := 41) dX8_let_41 fl_8_19 e41 ?_
        refine x_iload_n (pc := 44) (x := x2) dX8_let_44 rfl ?_
        replace hf := bd_s hf; obtain ⟨v45, e45, hf⟩ := hf
        refine x_ldI (pc := 45) dX8_let_45 e45 ?_
        refine x_iadd (pc := 46) dX8_let_46 ?_
        refine x_bipush (pc := 47) (v := 120) dX8_let_47 (by decide) ?_
        refine x_icmp_le (pc := 49) (tgt := 59) (x := ((4 * x1) + v45)) (y := 120) dX8_let_49 rfl (fun hc => ?_) (fun hc => ?_)
        · replace hf := it_t hc hf
          refine x_iconst (pc := 59) (v := 0) dX8_let_59 (by decide) ?_
          refine x_istore_n (pc := 60) (ls' := [some (va_rf (x0)), some (.int (x1)), some (.int (x2)), some (.int (0))]) dX8_let_60 (by decide) rfl ?_
          exact tg_X8_let_61  NN hf
        · replace hf := it_f hc hf
          refine x_aload_n (pc := 52) (a := x0) dX8_let_52 rfl ?_
          refine x_ldc (pc := 53) (v := -100003) dX8_let_53 kc_8_73 ?_
          replace hf := bd_s hf; obtain ⟨u55, i55, hf⟩ := hf
          replace hf := bd2_s hf; obtain ⟨v55, h55, e55, hf⟩ := hf
          refine x_cVi (pc := 55) (M' := mX8_finding) (as := [.int ((-100003))]) (st := []) (a := x0) (ci := 8) dX8_let_55 mo_X8_finding lk_8_56 im_X8_finding se_X8_finding rfl ⟨Nat.le_of_ble_eq_true rfl, Nat.le_of_ble_eq_true rfl⟩ rfl (Nat.le_of_ble_eq_true rfl) rfl i55 (tm_X8_finding e55) ?_
          obtain ⟨rfl, rfl⟩ := ret_s hf
          exact x_reti (pc := 58) dX8_let_58 rfl
      · replace hf := it_n hc hf
        refine x_aload_n (pc := 30) (a := x0) dX8_let_30 rfl ?_
        refine x_ldc (pc := 31) (v := -100002) dX8_let_31 kc_8_159 ?_
        replace hf := bd_s hf; obtain ⟨u33, i33, hf⟩ := hf
        replace hf := bd2_s hf; obtain ⟨v33, h33, e33, hf⟩ := hf
        refine x_cVi (pc := 33) (M' := mX8_finding) (as := [.int ((-100002))]) (st := []) (a := x0) (ci := 8) dX8_let_33 mo_X8_finding lk_8_56 im_X8_finding se_X8_finding rfl ⟨Nat.le_of_ble_eq_true rfl, Nat.le_of_ble_eq_true rfl⟩ rfl (Nat.le_of_ble_eq_true rfl) rfl i33 (tm_X8_finding e33) ?_
        obtain ⟨rfl, rfl⟩ := ret_s hf
        exact x_reti (pc := 36) dX8_let_36 rfl
    · replace hf := it_n hc hf
      refine x_aload_n (pc := 14) (a := x0) dX8_let_14 rfl ?_
      refine x_ldc (pc := 15) (v := -100001) dX8_let_15 kc_8_67 ?_
      replace hf := bd_s hf; obtain ⟨u17, i17, hf⟩ := hf
      replace hf := bd2_s hf; obtain ⟨v17, h17, e17, hf⟩ := hf
      refine x_cVi (pc := 17) (M' := mX8_finding) (as := [.int ((-100001))]) (st := []) (a := x0) (ci := 8) dX8_let_17 mo_X8_finding lk_8_56 im_X8_finding se_X8_finding rfl ⟨Nat.le_of_ble_eq_true rfl, Nat.le_of_ble_eq_true rfl⟩ rfl (Nat.le_of_ble_eq_true rfl) rfl i17 (tm_X8_finding e17) ?_
      obtain ⟨rfl, rfl⟩ := ret_s hf
      exact x_reti (pc := 20) dX8_let_20 rfl

def j_X8_near_138 (k52 : AH → Option Nat → Int32 → Int32 → Int32 → Int32 → Int32 → Option (Int32 × AH)) (h : AH) (x0 : Option Nat) (x1 : Int32) (x2 : Int32) (x3 : Int32) (x5 : Int32) (y0 : Int32) (y1 : Int32) : Option (Int32 × AH) :=
  k52 h x0 x1 x2 x3 (y0 + y1) (x5 + 1)

set_option maxRecDepth 100000 in
set_option maxHeartbeats 4000000 in
theorem tj_X8_near_138 {g : GT} {k52 : AH → Option Nat → Int32 → Int32 → Int32 → Int32 → Int32 → Option (Int32 × AH)} (hk52 : ∀ (h : AH) (x0 : Option Nat) (x1 : Int32) (x2 : Int32) (x3 : Int32) (x4 : Int32) (x5 : Int32) (r : Int32) (h' : AH), k52 h x0 x1 x2 x3 x4 x5 = some (r, h') → Xj g mX8_near h 52 [some (va_rf (x0)), some (.int (x1)), some (.int (x2)), some (.int (x3)), some (.int (x4)), some (.int (x5)), none, none, none] [] (some (.int r)) h') {h : AH} {x0 : Option Nat} {x1 : Int32} {x2 : Int32} {x3 : Int32} {x5 : Int32} {y0 : Int32} {y1 : Int32} {r : Int32} {h' : AH} (hf : j_X8_near_138 k52 h x0 x1 x2 x3 x5 y0 y1 = some (r, h')) : Xj g mX8_near h 138 [some (va_rf (x0)), some (.int (x1)), some (.int (x2)), some (.int (x3)), none, some (.int (x5)), none, none, none] [.int (y1), .int (y0)] (some (.int r)) h' := by
  rw [j_X8_near_138] at hf
  refine x_iadd (pc := 138) dX8_near_138 ?_
  refine x_istore (pc := 139) (ls' := [some (va_rf (x0)), some (.int (x1)), some (.int (x2)), some (.int (x3)), some (.int (y0 + y1)), some (.int (x5)), none, none, none]) dX8_near_139 (by decide) rfl ?_
  refine x_iinc (pc := 141) (x := x5) (v := x5 + 1) (ls' := [some (va_rf (x0)), some (.int (x1)), some (.int (x2)), some (.int (x3)), some (.int (y0 + y1)), some (.int (x5 + 1)), none, none, none]) dX8_near_141 rfl rfl (by decide) rfl ?_
  refine x_goto (pc := 144) (tgt := 52) dX8_near_144 rfl ?_
  exact hk52 _ _ _ _ _ _ _ _ _ hf

def g_X8_near_52 : Nat → AH → Option Nat → Int32 → Int32 → Int32 → Int32 → Int32 → Option (Int32 × AH)
  | 0, _, _, _, _, _, _, _ => none
  | n + 1, h, x0, x1, x2, x3, x4, x5 =>
    if 30 ≤ x5 then (
      some (x4, h)
    ) else (
      bd (gR h x0 8 0) fun v60 =>
      bd (ldI h v60 ((244 + (30 * x1)) + x5)) fun v74 =>
      bd (gR h x0 8 0) fun v78 =>
      bd (ldI h v78 ((244 + (30 * x2)) + x5)) fun v92 =>
      if v74 < 0 then (
        g_X8_near_52  n h x0 x1 x2 x3 x4 (x5 + 1)
      ) else (
        if v92 < 0 then (
          g_X8_near_52  n h x0 x1 x2 x3 x4 (x5 + 1)
        ) else (
          bd (isO h x0 8) fun _ =>
          bd2 (f_X8_mileOf h x0 v74) fun v108 h108 =>
          bd (isO h108 x0 8) fun _ =>
          bd2 (f_X8_mileOf h108 x0 v92) fun v114 h114 =>
          bd2 (f_X8_isIn h114 (v108 - v114) (-x3) x3) fun v127 h127 =>
          if v127 = 0 then (
            j_X8_near_138 (fun h x0 x1 x2 x3 x4 x5 => g_X8_near_52  n h x0 x1 x2 x3 x4 x5) h127 x0 x1 x2 x3 x5 x4 0
          ) else (
            j_X8_near_138 (fun h x0 x1 x2 x3 x4 x5 => g_X8_near_52  n h x0 x1 x2 x3 x4 x5) h127 x0 x1 x2 x3 x5 x4 1
          )
        )
      )
    )

set_option maxRecDepth 100000 in
set_option maxHeartbeats 4000000 in
theorem tg_X8_near_52 {g : GT} : ∀ (n : Nat) {h : AH} {x0 : Option Nat} {x1 : Int32} {x2 : Int32} {x3 : Int32} {x4 : Int32} {x5 : Int32} {r : Int32} {h' : AH}, g_X8_near_52 n h x0 x1 x2 x3 x4 x5 = some (r, h') → Xj g mX8_near h 52 [some (va_rf (x0)), some (.int (x1)), some (.int (x2)), some (.int (x3)), some (.int (x4)), some (.int (x5)), none, none, none] [] (some (.int r)) h' := by
  intro n
  induction n with
  | zero =>
    intros
    rename_i z
    cases z
  | succ n ih =>
    intro h x0 x1 x2 x3 x4 x5 r h' hf
    rw [g_X8_near_52] at hf
    refine x_iload (pc := 52) (x := x5) dX8_near_52 rfl ?_
    refine x_bipush (pc := 54) (v := 30) dX8_near_54 (by decide) ?_
    refine x_icmp_ge (pc := 56) (tgt := 147) (x := x5) (y := 30) dX8_near_56 rfl (fun hc => ?_) (fun hc => ?_)
    · replace hf := it_t hc hf
      refine x_iload (pc := 147) (x := x4) dX8_near_147 rfl ?_
      obtain ⟨rfl, rfl⟩ := ret_s hf
      exact x_reti (pc := 149) dX8_near_149 rfl
    · replace hf := it_f hc hf
      refine x_aload_n (pc := 59) (a := x0) dX8_near_59 rfl ?_
      replace hf := bd_s hf; obtain ⟨v60, e60, hf⟩ := hf
      refine x_getR (pc := 60) dX8_near_60 fl_8_7 e60 ?_
      refine x_sipush (pc := 63) (v := 244) dX8_near_63 (by decide) ?_
      refine x_bipush (pc := 66) (v := 30) dX8_near_66 (by decide) ?_
      refine x_iload_n (pc := 68) (x := x1) dX8_near_68 rfl ?_
      refine x_imul (pc := 69) dX8_near_69 ?_
      refine x_iadd (pc := 70) dX8_near_70 ?_
      refine x_iload (pc := 71) (x := x5) dX8_near_71 rfl ?_
      refine x_iadd (pc := 73) dX8_near_73 ?_
      replace hf := bd_s hf; obtain ⟨v74, e74, hf⟩ := hf
      refine x_ldI (pc := 74) dX8_near_74 e74 ?_
      refine x_istore (pc := 75) (ls' := [some (va_rf (x0)), some (.int (x1)), some (.int (x2)), some (.int (x3)), some (.int (x4)), some (.int (x5)), some (.int (v74)), none, none]) dX8_near_75 (by decide) rfl ?_
      refine x_aload_n (pc := 77) (a := x0) dX8_near_77 rfl ?_
      replace hf := bd_s hf; obtain ⟨v78, e78, hf⟩ := hf
      refine x_getR (pc := 78) dX8_near_78 fl_8_7 e78 ?_
      refine x_sipush (pc := 81) (v := 244) dX8_near_81 (by decide) ?_
      refine x_bipush (pc := 84) (v := 30) dX8_near_84 (by decide) ?_
      refine x_iload_n (pc := 86) (x := x2) dX8_near_86 rfl ?_
      refine x_imul (pc := 87) dX8_near_87 ?_
      refine x_iadd (pc := 88) dX8_near_88 ?_
      refine x_iload (pc := 89) (x := x5) dX8_near_89 rfl ?_
      refine x_iadd (pc := 91) dX8_near_91 ?_
      replace hf := bd_s hf; obtain ⟨v92, e92, hf⟩ := hf
      refine x_ldI (pc := 92) dX8_near_92 e92 ?_
      refine x_istore (pc := 93) (ls' := [some (va_rf (x0)), some (.int (x1)), some (.int (x2)), some (.int (x3)), some (.int (x4)), some (.int (x5)), some (.int (v74)), some (.int (v92)), none]) dX8_near_93 (by decide) rfl ?_
      refine x_iload (pc := 95) (x := v74) dX8_near_95 rfl ?_
      refine x_if_lt (pc := 97) (tgt := 141) (x := v74) dX8_near_97 rfl (fun hc => ?_) (fun hc => ?_)
      · replace hf := it_t hc hf
        refine x_iinc (pc := 141) (x := x5) (v := x5 + 1) (ls' := [some (va_rf (x0)), some (.int (x1)), some (.int (x2)), some (.int (x3)), some (.int (x4)), some (.int (x5 + 1)), some (.int (v74)), some (.int (v92)), none]) dX8_near_141 rfl rfl (by decide) rfl ?_
        refine x_goto (pc := 144) (tgt := 52) dX8_near_144 rfl ?_
        refine x_mask [true, true, true, true, true, true, false, false, false] rfl ?_
        exact ih hf
      · replace hf := it_f hc hf
        refine x_iload (pc := 100) (x := v92) dX8_near_100 rfl ?_
        refine x_if_lt (pc := 102) (tgt := 141) (x := v92) dX8_near_102 rfl (fun hc => ?_) (fun hc => ?_)
        · replace hf := it_t hc hf
          refine x_iinc (pc := 141) (x := x5) (v := x5 + 1) (ls' := [some (va_rf (x0)), some (.int (x1)), some (.int (x2)), some (.int (x3)), some (.int (x4)), some (.int (x5 + 1)), some (.int (v74)), some (.int (v92)), none]) dX8_near_141 rfl rfl (by decide) rfl ?_
          refine x_goto (pc := 144) (tgt := 52) dX8_near_144 rfl ?_
          refine x_mask [true, true, true, true, true, true, false, false, false] rfl ?_
          exact ih hf
        · replace hf := it_f hc hf
          refine x_aload_n (pc := 105) (a := x0) dX8_near_105 rfl ?_
          refine x_iload (pc := 106) (x := v74) dX8_near_106 rfl ?_
          replace hf := bd_s hf; obtain ⟨u108, i108, hf⟩ := hf
          replace hf := bd2_s hf; obtain ⟨v108, h108, e108, hf⟩ := hf
          refine x_cVi (pc := 108) (M' := mX8_mileOf) (as := [.int (v74)]) (st := []) (a := x0) (ci := 8) dX8_near_108 mo_X8_mileOf lk_8_109 im_X8_mileOf se_X8_mileOf rfl ⟨Nat.le_of_ble_eq_true rfl, Nat.le_of_ble_eq_true rfl⟩ rfl (Nat.le_of_ble_eq_true rfl) rfl i108 (tm_X8_mileOf e108) ?_
          refine x_aload_n (pc := 111) (a := x0) dX8_near_111 rfl ?_
          refine x_iload (pc := 112) (x := v92) dX8_near_112 rfl ?_
          replace hf := bd_s hf; obtain ⟨u114, i114, hf⟩ := hf
          replace hf := bd2_s hf; obtain ⟨v114, h114, e114, hf⟩ := hf
          refine x_cVi (pc := 114) (M' := mX8_mileOf) (as := [.int (v92)]) (st := [.int (v108)]) (a := x0) (ci := 8) dX8_near_114 mo_X8_mileOf lk_8_109 im_X8_mileOf se_X8_mileOf rfl ⟨Nat.le_of_ble_eq_true rfl, Nat.le_of_ble_eq_true rfl⟩ rfl (Nat.le_of_ble_eq_true rfl) rfl i114 (tm_X8_mileOf e114) ?_
          refine x_isub (pc := 117) dX8_near_117 ?_
          refine x_istore (pc := 118) (ls' := [some (va_rf (x0)), some (.int (x1)), some (.int (x2)), some (.int (x3)), some (.int (x4)), some (.int (x5)), some (.int (v74)), some (.int (v92)), some (.int (v108 - v114))]) dX8_near_118 (by decide) rfl ?_
          refine x_iload (pc := 120) (x := x4) dX8_near_120 rfl ?_
          refine x_iload (pc := 122) (x := v108 - v114) dX8_near_122 rfl ?_
          refine x_iload_n (pc := 124) (x := x3) dX8_near_124 rfl ?_
          refine x_ineg (pc := 125) dX8_near_125 ?_
          refine x_iload_n (pc := 126) (x := x3) dX8_near_126 rfl ?_
          replace hf := bd2_s hf; obtain ⟨v127, h127, e127, hf⟩ := hf
          refine x_cSi (pc := 127) (M' := mX8_isIn) (as := [.int (v108 - v114), .int (-x3), .int (x3)]) (st := [.int (x4)]) dX8_near_127 mo_X8_isIn lk_8_48 sm_X8_isIn ⟨Nat.le_of_ble_eq_true rfl, Nat.le_of_ble_eq_true rfl⟩ rfl (Nat.le_of_ble_eq_true rfl) rfl (tm_X8_isIn e127) ?_
          refine x_if_eq (pc := 130) (tgt := 137) (x := v127) dX8_near_130 rfl (fun hc => ?_) (fun hc => ?_)
          · replace hf := it_t hc hf
            refine x_iconst (pc := 137) (v := 0) dX8_near_137 (by decide) ?_
            refine x_mask [true, true, true, true, false, true, false, false, false] rfl ?_
            exact tj_X8_near_138 (fun _ _ _ _ _ _ _ _ _ z => ih z) hf
          · replace hf := it_f hc hf
            refine x_iconst (pc := 133) (v := 1) dX8_near_133 (by decide) ?_
            refine x_goto (pc := 134) (tgt := 138) dX8_near_134 rfl ?_
            refine x_mask [true, true, true, true, false, true, false, false, false] rfl ?_
            exact tj_X8_near_138 (fun _ _ _ _ _ _ _ _ _ z => ih z) hf

def f_X8_near (h : AH) (x0 : Option Nat) (x1 : Int32) (x2 : Int32) (x3 : Int32) : Option (Int32 × AH) :=
  bd (isO h x0 8) fun _ =>
  bd2 (f_X8_isTrip h x0 x1) fun v2 h2 =>
  if v2 = 0 then (
    bd (isO h2 x0 8) fun _ =>
    bd2 (f_X8_finding h2 x0 (-100001)) fun v30 h30 =>
    some (v30, h30)
  ) else (
    bd (isO h2 x0 8) fun _ =>
    bd2 (f_X8_isTrip h2 x0 x2) fun v10 h10 =>
    if v10 = 0 then (
      bd (isO h10 x0 8) fun _ =>
      bd2 (f_X8_finding h10 x0 (-100001)) fun v30 h30 =>
      some (v30, h30)
    ) else (
      bd2 (f_X8_isIn h10 x3 0 250) fun v21 h21 =>
      if ¬ v21 = 0 then (
        if ¬ x1 = x2 then (
          g_X8_near_52  NN h21 x0 x1 x2 x3 0 0
        ) else (
          bd (isO h21 x0 8) fun _ =>
          bd2 (f_X8_finding h21 x0 (-100003)) fun v42 h42 =>
          some (v42, h42)
        )
      ) else (
        bd (isO h21 x0 8) fun _ =>
        bd2 (f_X8_finding h21 x0 (-100001)) fun v30 h30 =>
        some (v30, h30)
      )
    )
  )

set_option maxRecDepth 100000 in
set_option maxHeartbeats 4000000 in
theorem tm_X8_near {g : GT} {h : AH} {x0 : Option Nat} {x1 : Int32} {x2 : Int32} {x3 : Int32} {r : Int32} {h' : AH} (hf : f_X8_near h x0 x1 x2 x3 = some (r, h')) : Xm g mX8_near [va_rf (x0), .int (x1), .int (x2), .int (x3)] h (some (.int r)) h' := by
  refine xm_of mo_X8_near (Nat.le_of_ble_eq_true rfl) (ls := [some (va_rf (x0)), some (.int (x1)), some (.int (x2)), some (.int (x3)), none, none, none, none, none]) rfl ?_
  rw [f_X8_near] at hf
  refine x_aload_n (pc := 0) (a := x0) dX8_near_0 rfl ?_
  refine x_iload_n (pc := 1) (x := x1) dX8_near_1 rfl ?_
  replace hf := bd_s hf; obtain ⟨u2, i2, hf⟩ := hf
  replace hf := bd2_s hf; obtain ⟨v2, h2, e2, hf⟩ := hf
  refine x_cVi (pc := 2) (M' := mX8_isTrip) (as := [.int (x1)]) (st := []) (a := x0) (ci := 8) dX8_near_2 mo_X8_isTrip lk_8_91 im_X8_isTrip se_X8_isTrip rfl ⟨Nat.le_of_ble_eq_true rfl, Nat.le_of_ble_eq_true rfl⟩ rfl (Nat.le_of_ble_eq_true rfl) rfl i2 (tm_X8_isTrip e2) ?_
  refine x_if_eq (pc := 5) (tgt := 27) (x := v2) dX8_near_5 rfl (fun hc => ?_) (fun hc => ?_)
  · replace hf := it_t hc hf
    refine x_aload_n (pc := 27) (a := x0) dX8_near_27 rfl ?_
    refine x_ldc (pc := 28) (v := -100001) dX8_near_28 kc_8_67 ?_
    replace hf := bd_s hf; obtain ⟨u30, i30, hf⟩ := hf
    replace hf := bd2_s hf; obtain ⟨v30, h30, e30, hf⟩ := hf
    refine x_cVi (pc := 30) (M' := mX8_finding) (as := [.int ((-100001))]) (st := []) (a := x0) (ci := 8) dX8_near_30 mo_X8_finding lk_8_56 im_X8_finding se_X8_finding rfl ⟨Nat.le_of_ble_eq_true rfl, Nat.le_of_ble_eq_true rfl⟩ rfl (Nat.le_of_ble_eq_true rfl) rfl i30 (tm_X8_finding e30) ?_
    obtain ⟨rfl, rfl⟩ := ret_s hf
    exact x_reti (pc := 33) dX8_near_33 rfl
  · replace hf := it_f hc hf
    refine x_aload_n (pc := 8) (a := x0) dX8_near_8 rfl ?_
    refine x_iload_n (pc := 9) (x := x2) dX8_near_9 rfl ?_
    replace hf := bd_s hf; obtain ⟨u10, i10, hf⟩ := hf
    replace hf := bd2_s hf; obtain ⟨v10, h10, e10, hf⟩ := hf
    refine x_cVi (pc := 10) (M' := mX8_isTrip) (as := [.int (x2)]) (st := []) (a := x0) (ci := 8) dX8_near_10 mo_X8_isTrip lk_8_91 im_X8_isTrip se_X8_isTrip rfl ⟨Nat.le_of_ble_eq_true rfl, Nat.le_of_ble_eq_true rfl⟩ rfl (Nat.le_of_ble_eq_true rfl) rfl i10 (tm_X8_isTrip e10) ?_
    refine x_if_eq (pc := 13) (tgt := 27) (x := v10) dX8_near_13 rfl (fun hc => ?_) (fun hc => ?_)
    · replace hf := it_t hc hf
      refine x_aload_n (pc := 27) (a := x0) dX8_near_27 rfl ?_
      refine x_ldc (pc := 28) (v := -100001) dX8_near_28 kc_8_67 ?_
      replace hf := bd_s hf; obtain ⟨u30, i30, hf⟩ := hf
      replace hf := bd2_s hf; obtain ⟨v30, h30, e30, hf⟩ := hf
      refine x_cVi (pc := 30) (M' := mX8_finding) (as := [.int ((-100001))]) (st := []) (a := x0) (ci := 8) dX8_near_30 mo_X8_finding lk_8_56 im_X8_finding se_X8_finding rfl ⟨Nat.le_of_ble_eq_true rfl, Nat.le_of_ble_eq_true rfl⟩ rfl (Nat.le_of_ble_eq_true rfl) rfl i30 (tm_X8_finding e30) ?_
      obtain ⟨rfl, rfl⟩ := ret_s hf
      exact x_reti (pc := 33) dX8_near_33 rfl
    · replace hf := it_f hc hf
      refine x_iload_n (pc := 16) (x := x3) dX8_near_16 rfl ?_
      refine x_iconst (pc := 17) (v := 0) dX8_near_17 (by decide) ?_
      refine x_sipush (pc := 18) (v := 250) dX8_near_18 (by decide) ?_
      replace hf := bd2_s hf; obtain ⟨v21, h21, e21, hf⟩ := hf
      refine x_cSi (pc := 21) (M' := mX8_isIn) (as := [.int (x3), .int (0), .int (250)]) (st := []) dX8_near_21 mo_X8_isIn lk_8_48 sm_X8_isIn ⟨Nat.le_of_ble_eq_true rfl, Nat.le_of_ble_eq_true rfl⟩ rfl (Nat.le_of_ble_eq_true rfl) rfl (tm_X8_isIn e21) ?_
      refine x_if_ne (pc := 24) (tgt := 34) (x := v21) dX8_near_24 rfl (fun hc => ?_) (fun hc => ?_)
      · replace hf := it_t hc hf
        refine x_iload_n (pc := 34) (x := x1) dX8_near_34 rfl ?_
        refine x_iload_n (pc := 35) (x := x2) dX8_near_35 rfl ?_
        refine x_icmp_ne (pc := 36) (tgt := 46) (x := x1) (y := x2) dX8_near_36 rfl (fun hc => ?_) (fun hc => ?_)
        · replace hf := it_t hc hf
          refine x_iconst (pc := 46) (v := 0) dX8_near_46 (by decide) ?_
          refine x_istore (pc := 47) (ls' := [some (va_rf (x0)), some (.int (x1)), some (.int (x2)), some (.int (x3)), some (.int (0)), none, none, none, none]) dX8_near_47 (by decide) rfl ?_
          refine x_iconst (pc := 49) (v := 0) dX8_near_49 (by decide) ?_
          refine x_istore (pc := 50) (ls' := [some (va_rf (x0)), some (.int (x1)), some (.int (x2)), some (.int (x3)), some (.int (0)), some (.int (0)), none, none, none]) dX8_near_50 (by decide) rfl ?_
          exact tg_X8_near_52  NN hf
        · replace hf := it_n hc hf
          refine x_aload_n (pc := 39) (a := x0) dX8_near_39 rfl ?_
          refine x_ldc (pc := 40) (v := -100003) dX8_near_40 kc_8_73 ?_
          replace hf := bd_s hf; obtain ⟨u42, i42, hf⟩ := hf
          replace hf := bd2_s hf; obtain ⟨v42, h42, e42, hf⟩ := hf
          refine x_cVi (pc := 42) (M' := mX8_finding) (as := [.int ((-100003))]) (st := []) (a := x0) (ci := 8) dX8_near_42 mo_X8_finding lk_8_56 im_X8_finding se_X8_finding rfl ⟨Nat.le_of_ble_eq_true rfl, Nat.le_of_ble_eq_true rfl⟩ rfl (Nat.le_of_ble_eq_true rfl) rfl i42 (tm_X8_finding e42) ?_
          obtain ⟨rfl, rfl⟩ := ret_s hf
          exact x_reti (pc := 45) dX8_near_45 rfl
      · replace hf := it_n hc hf
        refine x_aload_n (pc := 27) (a := x0) dX8_near_27 rfl ?_
        refine x_ldc (pc := 28) (v := -100001) dX8_near_28 kc_8_67 ?_
        replace hf := bd_s hf; obtain ⟨u30, i30, hf⟩ := hf
        replace hf := bd2_s hf; obtain ⟨v30, h30, e30, hf⟩ := hf
        refine x_cVi (pc := 30) (M' := mX8_finding) (as := [.int ((-100001))]) (st := []) (a := x0) (ci := 8) dX8_near_30 mo_X8_finding lk_8_56 im_X8_finding se_X8_finding rfl ⟨Nat.le_of_ble_eq_true rfl, Nat.le_of_ble_eq_true rfl⟩ rfl (Nat.le_of_ble_eq_true rfl) rfl i30 (tm_X8_finding e30) ?_
        obtain ⟨rfl, rfl⟩ := ret_s hf
        exact x_reti (pc := 33) dX8_near_33 rfl
