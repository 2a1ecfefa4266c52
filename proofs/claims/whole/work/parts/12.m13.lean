def j_L_law_1039 (L : Nat) (xs : Nat → Int32) (k18 : AH → Option Nat → Option Nat → Int32 → Option (Int32 × AH)) (h : AH) (x1 : Option Nat) (x2 : Option Nat) (x3 : Int32) (y0 : Int32) (y1 : Option Nat) (y2 : Int32) (y3 : Int32) : Option (Int32 × AH) :=
  bd (isO h y1 8) fun _ =>
  bd2 (f_X8_chance h y1 y2 y3) fun v1039 h1039 =>
  if y0 = v1039 then (
    k18 h1039 x1 x2 (x3 + 6)
  ) else (
    some (0, h1039)
  )

set_option maxRecDepth 100000 in
set_option maxHeartbeats 4000000 in
theorem tj_L_law_1039 {g : GT} {k18 : AH → Option Nat → Option Nat → Int32 → Option (Int32 × AH)} (hk18 : ∀ (h : AH) (x1 : Option Nat) (x2 : Option Nat) (x3 : Int32) (r : Int32) (h' : AH), k18 h x1 x2 x3 = some (r, h') → Xj g mL_law h 18 [some (.retAddr 0), some (va_rf (x1)), some (va_rf (x2)), some (.int (x3))] [] (some (.int r)) h') {h : AH} {x1 : Option Nat} {x2 : Option Nat} {x3 : Int32} {y0 : Int32} {y1 : Option Nat} {y2 : Int32} {y3 : Int32} {r : Int32} {h' : AH} (hf : j_L_law_1039 (g_n g) (g_x g) k18 h x1 x2 x3 y0 y1 y2 y3 = some (r, h')) : Xj g mL_law h 1039 [some (.retAddr 0), some (va_rf (x1)), some (va_rf (x2)), some (.int (x3))] [.int (y3), .int (y2), va_rf (y1), .int (y0)] (some (.int r)) h' := by
  rw [j_L_law_1039] at hf
  replace hf := bd_s hf; obtain ⟨u1039, i1039, hf⟩ := hf
  replace hf := bd2_s hf; obtain ⟨v1039, h1039, e1039, hf⟩ := hf
  refine x_cVi (pc := 1039) (M' := mX8_chance) (as := [.int (y2), .int (y3)]) (st := [.int (y0)]) (a := y1) (ci := 8) dL_law_1039 mo_X8_chance lk_L_117 im_X8_chance se_X8_chance rfl ⟨Nat.le_of_ble_eq_true rfl, Nat.le_of_ble_eq_true rfl⟩ rfl (Nat.le_of_ble_eq_true rfl) rfl i1039 (tm_X8_chance e1039) ?_
  refine x_icmp_eq (pc := 1042) (tgt := 1331) (x := y0) (y := v1039) dL_law_1042 rfl (fun hc => ?_) (fun hc => ?_)
  · replace hf := it_t hc hf
    refine x_iinc (pc := 1331) (x := x3) (v := x3 + 6) (ls' := [some (.retAddr 0), some (va_rf (x1)), some (va_rf (x2)), some (.int (x3 + 6))]) dL_law_1331 rfl rfl (by decide) rfl ?_
    refine x_goto (pc := 1334) (tgt := 18) dL_law_1334 rfl ?_
    exact hk18 _ _ _ _ _ _ hf
  · replace hf := it_f hc hf
    refine x_iconst (pc := 1045) (v := 0) dL_law_1045 (by decide) ?_
    obtain ⟨rfl, rfl⟩ := ret_s hf
    exact x_retz (pc := 1046) dL_law_1046 rfl (by decide)

def j_L_law_1017 (L : Nat) (xs : Nat → Int32) (k18 : AH → Option Nat → Option Nat → Int32 → Option (Int32 × AH)) (h : AH) (x1 : Option Nat) (x2 : Option Nat) (x3 : Int32) (y0 : Option Nat) (y1 : Int32) (y2 : Int32) : Option (Int32 × AH) :=
  bd (isO h y0 7) fun _ =>
  bd2 (f_X7_chance h y0 y1 y2) fun v1017 h1017 =>
  bd (ldS L xs (x3 + 1)) fun v1025 =>
  bd (ldS L xs (x3 + 2)) fun v1030 =>
  if v1030 = 0 then (
    j_L_law_1039 L xs k18 h1017 x1 x2 x3 v1017 x2 v1025 0
  ) else (
    j_L_law_1039 L xs k18 h1017 x1 x2 x3 v1017 x2 v1025 1
  )

set_option maxRecDepth 100000 in
set_option maxHeartbeats 4000000 in
theorem tj_L_law_1017 {g : GT} {k18 : AH → Option Nat → Option Nat → Int32 → Option (Int32 × AH)} (hk18 : ∀ (h : AH) (x1 : Option Nat) (x2 : Option Nat) (x3 : Int32) (r : Int32) (h' : AH), k18 h x1 x2 x3 = some (r, h') → Xj g mL_law h 18 [some (.retAddr 0), some (va_rf (x1)), some (va_rf (x2)), some (.int (x3))] [] (some (.int r)) h') {h : AH} {x1 : Option Nat} {x2 : Option Nat} {x3 : Int32} {y0 : Option Nat} {y1 : Int32} {y2 : Int32} {r : Int32} {h' : AH} (hf : j_L_law_1017 (g_n g) (g_x g) k18 h x1 x2 x3 y0 y1 y2 = some (r, h')) : Xj g mL_law h 1017 [some (.retAddr 0), some (va_rf (x1)), some (va_rf (x2)), some (.int (x3))] [.int (y2), .int (y1), va_rf (y0)] (some (.int r)) h' := by
  rw [j_L_law_1017] at hf
  replace hf := bd_s hf; obtain ⟨u1017, i1017, hf⟩ := hf
  replace hf := bd2_s hf; obtain ⟨v1017, h1017, e1017, hf⟩ := hf
  refine x_cVi (pc := 1017) (M' := mX7_chance) (as := [.int (y1), .int (y2)]) (st := []) (a := y0) (ci := 7) dL_law_1017 mo_X7_chance lk_L_114 im_X7_chance se_X7_chance rfl ⟨Nat.le_of_ble_eq_true rfl, Nat.le_of_ble_eq_true rfl⟩ rfl (Nat.le_of_ble_eq_true rfl) rfl i1017 (tm_X7_chance e1017) ?_
  refine x_aload_n (pc := 1020) (a := x2) dL_law_1020 rfl ?_
  refine x_aloadS (pc := 1021) dL_law_1021 rfl ?_
  refine x_iload_n (pc := 1022) (x := x3) dL_law_1022 rfl ?_
  refine x_iconst (pc := 1023) (v := 1) dL_law_1023 (by decide) ?_
  refine x_iadd (pc := 1024) dL_law_1024 ?_
  replace hf := bd_s hf; obtain ⟨v1025, e1025, hf⟩ := hf
  refine x_ldSo (pc := 1025) dL_law_1025 e1025 ?_
  refine x_aloadS (pc := 1026) dL_law_1026 rfl ?_
  refine x_iload_n (pc := 1027) (x := x3) dL_law_1027 rfl ?_
  refine x_iconst (pc := 1028) (v := 2) dL_law_1028 (by decide) ?_
  refine x_iadd (pc := 1029) dL_law_1029 ?_
  replace hf := bd_s hf; obtain ⟨v1030, e1030, hf⟩ := hf
  refine x_ldSo (pc := 1030) dL_law_1030 e1030 ?_
  refine x_if_eq (pc := 1031) (tgt := 1038) (x := v1030) dL_law_1031 rfl (fun hc => ?_) (fun hc => ?_)
  · replace hf := it_t hc hf
    refine x_iconst (pc := 1038) (v := 0) dL_law_1038 (by decide) ?_
    exact tj_L_law_1039 hk18 hf
  · replace hf := it_f hc hf
    refine x_iconst (pc := 1034) (v := 1) dL_law_1034 (by decide) ?_
    refine x_goto (pc := 1035) (tgt := 1039) dL_law_1035 rfl ?_
    exact tj_L_law_1039 hk18 hf

def j_L_law_244 (L : Nat) (xs : Nat → Int32) (k18 : AH → Option Nat → Option Nat → Int32 → Option (Int32 × AH)) (h : AH) (x1 : Option Nat) (x2 : Option Nat) (x3 : Int32) (y0 : Int32) (y1 : Option Nat) (y2 : Int32) (y3 : Int32) : Option (Int32 × AH) :=
  bd (isO h y1 8) fun _ =>
  bd2 (f_X8_camp h y1 y2 y3) fun v244 h244 =>
  if y0 = v244 then (
    k18 h244 x1 x2 (x3 + 6)
  ) else (
    some (0, h244)
  )

set_option maxRecDepth 100000 in
set_option maxHeartbeats 4000000 in
theorem tj_L_law_244 {g : GT} {k18 : AH → Option Nat → Option Nat → Int32 → Option (Int32 × AH)} (hk18 : ∀ (h : AH) (x1 : Option Nat) (x2 : Option Nat) (x3 : Int32) (r : Int32) (h' : AH), k18 h x1 x2 x3 = some (r, h') → Xj g mL_law h 18 [some (.retAddr 0), some (va_rf (x1)), some (va_rf (x2)), some (.int (x3))] [] (some (.int r)) h') {h : AH} {x1 : Option Nat} {x2 : Option Nat} {x3 : Int32} {y0 : Int32} {y1 : Option Nat} {y2 : Int32} {y3 : Int32} {r : Int32} {h' : AH} (hf : j_L_law_244 (g_n g) (g_x g) k18 h x1 x2 x3 y0 y1 y2 y3 = some (r, h')) : Xj g mL_law h 244 [some (.retAddr 0), some (va_rf (x1)), some (va_rf (x2)), some (.int (x3))] [.int (y3), .int (y2), va_rf (y1), .int (y0)] (some (.int r)) h' := by
  rw [j_L_law_244] at hf
  replace hf := bd_s hf; obtain ⟨u244, i244, hf⟩ := hf
  replace hf := bd2_s hf; obtain ⟨v244, h244, e244, hf⟩ := hf
  refine x_cVi (pc := 244) (M' := mX8_camp) (as := [.int (y2), .int (y3)]) (st := [.int (y0)]) (a := y1) (ci := 8) dL_law_244 mo_X8_camp lk_L_22 im_X8_camp se_X8_camp rfl ⟨Nat.le_of_ble_eq_true rfl, Nat.le_of_ble_eq_true rfl⟩ rfl (Nat.le_of_ble_eq_true rfl) rfl i244 (tm_X8_camp e244) ?_
  refine x_icmp_eq (pc := 247) (tgt := 1331) (x := y0) (y := v244) dL_law_247 rfl (fun hc => ?_) (fun hc => ?_)
  · replace hf := it_t hc hf
    refine x_iinc (pc := 1331) (x := x3) (v := x3 + 6) (ls' := [some (.retAddr 0), some (va_rf (x1)), some (va_rf (x2)), some (.int (x3 + 6))]) dL_law_1331 rfl rfl (by decide) rfl ?_
    refine x_goto (pc := 1334) (tgt := 18) dL_law_1334 rfl ?_
    exact hk18 _ _ _ _ _ _ hf
  · replace hf := it_f hc hf
    refine x_iconst (pc := 250) (v := 0) dL_law_250 (by decide) ?_
    obtain ⟨rfl, rfl⟩ := ret_s hf
    exact x_retz (pc := 251) dL_law_251 rfl (by decide)

def j_L_law_222 (L : Nat) (xs : Nat → Int32) (k18 : AH → Option Nat → Option Nat → Int32 → Option (Int32 × AH)) (h : AH) (x1 : Option Nat) (x2 : Option Nat) (x3 : Int32) (y0 : Option Nat) (y1 : Int32) (y2 : Int32) : Option (Int32 × AH) :=
  bd (isO h y0 7) fun _ =>
  bd2 (f_X7_camp h y0 y1 y2) fun v222 h222 =>
  bd (ldS L xs (x3 + 1)) fun v230 =>
  bd (ldS L xs (x3 + 2)) fun v235 =>
  if v235 = 0 then (
    j_L_law_244 L xs k18 h222 x1 x2 x3 v222 x2 v230 0
  ) else (
    j_L_law_244 L xs k18 h222 x1 x2 x3 v222 x2 v230 1
  )

set_option maxRecDepth 100000 in
set_option maxHeartbeats 4000000 in
theorem tj_L_law_222 {g : GT} {k18 : AH → Option Nat → Option Nat → Int32 → Option (Int32 × AH)} (hk18 : ∀ (h : AH) (x1 : Option Nat) (x2 : Option Nat) (x3 : Int32) (r : Int32) (h' : AH), k18 h x1 x2 x3 = some (r, h') → Xj g mL_law h 18 [some (.retAddr 0), some (va_rf (x1)), some (va_rf (x2)), some (.int (x3))] [] (some (.int r)) h') {h : AH} {x1 : Option Nat} {x2 : Option Nat} {x3 : Int32} {y0 : Option Nat} {y1 : Int32} {y2 : Int32} {r : Int32} {h' : AH} (hf : j_L_law_222 (g_n g) (g_x g) k18 h x1 x2 x3 y0 y1 y2 = some (r, h')) : Xj g mL_law h 222 [some (.retAddr 0), some (va_rf (x1)), some (va_rf (x2)), some (.int (x3))] [.int (y2), .int (y1), va_rf (y0)] (some (.int r)) h' := by
  rw [j_L_law_222] at hf
  replace hf := bd_s hf; obtain ⟨u222, i222, hf⟩ := hf
  replace hf := bd2_s hf; obtain ⟨v222, h222, e222, hf⟩ := hf
  refine x_cVi (pc := 222) (M' := mX7_camp) (as := [.int (y1), .int (y2)]) (st := []) (a := y0) (ci := 7) dL_law_222 mo_X7_camp lk_L_18 im_X7_camp se_X7_camp rfl ⟨Nat.le_of_ble_eq_true rfl, Nat.le_of_ble_eq_true rfl⟩ rfl (Nat.le_of_ble_eq_true rfl) rfl i222 (tm_X7_camp e222) ?_
  refine x_aload_n (pc := 225) (a := x2) dL_law_225 rfl ?_
  refine x_aloadS (pc := 226) dL_law_226 rfl ?_
  refine x_iload_n (pc := 227) (x := x3) dL_law_227 rfl ?_
  refine x_iconst (pc := 228) (v := 1) dL_law_228 (by decide) ?_
  refine x_iadd (pc := 229) dL_law_229 ?_
  replace hf := bd_s hf; obtain ⟨v230, e230, hf⟩ := hf
  refine x_ldSo (pc := 230) dL_law_230 e230 ?_
  refine x_aloadS (pc := 231) dL_law_231 rfl ?_
  refine x_iload_n (pc := 232) (x := x3) dL_law_232 rfl ?_
  refine x_iconst (pc := 233) (v := 2) dL_law_233 (by decide) ?_
  refine x_iadd (pc := 234) dL_law_234 ?_
  replace hf := bd_s hf; obtain ⟨v235, e235, hf⟩ := hf
  refine x_ldSo (pc := 235) dL_law_235 e235 ?_
  refine x_if_eq (pc := 236) (tgt := 243) (x := v235) dL_law_236 rfl (fun hc => ?_) (fun hc => ?_)
  · replace hf := it_t hc hf
    refine x_iconst (pc := 243) (v := 0) dL_law_243 (by decide) ?_
    exact tj_L_law_244 hk18 hf
  · replace hf := it_f hc hf
    refine x_iconst (pc := 239) (v := 1) dL_law_239 (by decide) ?_
    refine x_goto (pc := 240) (tgt := 244) dL_law_240 rfl ?_
    exact tj_L_law_244 hk18 hf

def g_L_law_18 (L : Nat) (xs : Nat → Int32) : Nat → AH → Option Nat → Option Nat → Int32 → Option (Int32 × AH)
  | 0, _, _, _, _ => none
  | n + 1, h, x1, x2, x3 =>
    if ((Int32.ofNat L) - 6) < x3 then (
      some (1, h)
    ) else (
      bd (ldS L xs x3) fun v29 =>
      if (v29 &&& 63) = 0 then (
        bd (ldS L xs (x3 + 1)) fun v185 =>
        bd (isO h x1 7) fun _ =>
        bd2 (f_X7_end h x1 v185) fun v186 h186 =>
        bd (ldS L xs (x3 + 1)) fun v194 =>
        bd (isO h186 x2 8) fun _ =>
        bd2 (f_X8_end h186 x2 v194) fun v195 h195 =>
        if v186 = v195 then (
          g_L_law_18 L xs  n h195 x1 x2 (x3 + 6)
        ) else (
          some (0, h195)
        )
      ) else
      if (v29 &&& 63) = 1 then (
        bd (ldS L xs (x3 + 1)) fun v208 =>
        bd (ldS L xs (x3 + 2)) fun v213 =>
        if v213 = 0 then (
          j_L_law_222 L xs (fun h x1 x2 x3 => g_L_law_18 L xs  n h x1 x2 x3) h x1 x2 x3 x1 v208 0
        ) else (
          j_L_law_222 L xs (fun h x1 x2 x3 => g_L_law_18 L xs  n h x1 x2 x3) h x1 x2 x3 x1 v208 1
        )
      ) else
      if (v29 &&& 63) = 2 then (
        bd (ldS L xs (x3 + 1)) fun v257 =>
        bd (ldS L xs (x3 + 2)) fun v262 =>
        bd (ldS L xs (x3 + 3)) fun v267 =>
        bd (isO h x1 7) fun _ =>
        bd2 (f_X7_rapid h x1 v257 v262 v267) fun v268 h268 =>
        bd (ldS L xs (x3 + 1)) fun v276 =>
        bd (ldS L xs (x3 + 2)) fun v281 =>
        bd (ldS L xs (x3 + 3)) fun v286 =>
        bd (isO h268 x2 8) fun _ =>
        bd2 (f_X8_rapid h268 x2 v276 v281 v286) fun v287 h287 =>
        if v268 = v287 then (
          g_L_law_18 L xs  n h287 x1 x2 (x3 + 6)
        ) else (
          some (0, h287)
        )
      ) else
      if (v29 &&& 63) = 3 then (
        bd (ldS L xs (x3 + 1)) fun v300 =>
        bd (isO h x1 7) fun _ =>
        bd2 (f_X7_landing h x1 v300) fun v301 h301 =>
        bd (ldS L xs (x3 + 1)) fun v309 =>
        bd (isO h301 x2 8) fun _ =>
        bd2 (f_X8_landing h301 x2 v309) fun v310 h310 =>
        if v301 = v310 then (
          g_L_law_18 L xs  n h310 x1 x2 (x3 + 6)
        ) else (
          some (0, h310)
        )
      ) else
      if (v29 &&& 63) = 4 then (
        bd (ldS L xs (x3 + 1)) fun v323 =>
        bd (isO h x1 7) fun _ =>
        bd2 (f_X7_speed h x1 v323) fun v324 h324 =>
        bd (ldS L xs (x3 + 1)) fun v332 =>
        bd (isO h324 x2 8) fun _ =>
        bd2 (f_X8_speed h324 x2 v332) fun v333 h333 =>
        if v324 = v333 then (
          g_L_law_18 L xs  n h333 x1 x2 (x3 + 6)
        ) else (
          some (0, h333)
        )
      ) else
      if (v29 &&& 63) = 5 then (
        bd (ldS L xs (x3 + 1)) fun v346 =>
        bd (ldS L xs (x3 + 2)) fun v351 =>
        bd (ldS L xs (x3 + 3)) fun v356 =>
        bd (isO h x1 7) fun _ =>
        bd2 (f_X7_water h x1 v346 v351 v356) fun v357 h357 =>
        bd (ldS L xs (x3 + 1)) fun v365 =>
        bd (ldS L xs (x3 + 2)) fun v370 =>
        bd (ldS L xs (x3 + 3)) fun v375 =>
        bd (isO h357 x2 8) fun _ =>
        bd2 (f_X8_water h357 x2 v365 v370 v375) fun v376 h376 =>
        if v357 = v376 then (
          g_L_law_18 L xs  n h376 x1 x2 (x3 + 6)
        ) else (
          some (0, h376)
        )
      ) else
      if (v29 &&& 63) = 6 then (
        bd (ldS L xs (x3 + 1)) fun v389 =>
        bd (ldS L xs (x3 + 2)) fun v394 =>
        bd (ldS L xs (x3 + 3)) fun v399 =>
        bd (isO h x1 7) fun _ =>
        bd2 (f_X7_waterAt h x1 v389 v394 v399) fun v400 h400 =>
        bd (ldS L xs (x3 + 1)) fun v408 =>
        bd (ldS L xs (x3 + 2)) fun v413 =>
        bd (ldS L xs (x3 + 3)) fun v418 =>
        bd (isO h400 x2 8) fun _ =>
        bd2 (f_X8_waterAt h400 x2 v408 v413 v418) fun v419 h419 =>
        if v400 = v419 then (
          g_L_law_18 L xs  n h419 x1 x2 (x3 + 6)
        ) else (
          some (0, h419)
        )
      ) else
      if (v29 &&& 63) = 7 then (
        bd (ldS L xs (x3 + 1)) fun v432 =>
        bd (ldS L xs (x3 + 2)) fun v437 =>
        bd (ldS L xs (x3 + 3)) fun v442 =>
        bd (isO h x1 7) fun _ =>
        bd2 (f_X7_runs h x1 v432 v437 v442) fun v443 h443 =>
        bd (ldS L xs (x3 + 1)) fun v451 =>
        bd (ldS L xs (x3 + 2)) fun v456 =>
        bd (ldS L xs (x3 + 3)) fun v461 =>
        bd (isO h443 x2 8) fun _ =>
        bd2 (f_X8_runs h443 x2 v451 v456 v461) fun v462 h462 =>
        if v443 = v462 then (
          g_L_law_18 L xs  n h462 x1 x2 (x3 + 6)
        ) else (
          some (0, h462)
        )
      ) else
      if (v29 &&& 63) = 8 then (
        bd (ldS L xs (x3 + 1)) fun v475 =>
        bd (ldS L xs (x3 + 2)) fun v480 =>
        bd (ldS L xs (x3 + 3)) fun v485 =>
        bd (ldS L xs (x3 + 4)) fun v490 =>
        bd (ldS L xs (x3 + 5)) fun v495 =>
        bd (isO h x1 7) fun _ =>
        bd2 (f_X7_trip h x1 v475 v480 v485 v490 v495) fun v496 h496 =>
        bd (ldS L xs (x3 + 1)) fun v504 =>
        bd (ldS L xs (x3 + 2)) fun v509 =>
        bd (ldS L xs (x3 + 3)) fun v514 =>
        bd (ldS L xs (x3 + 4)) fun v519 =>
        bd (ldS L xs (x3 + 5)) fun v524 =>
        bd (isO h496 x2 8) fun _ =>
        bd2 (f_X8_trip h496 x2 v504 v509 v514 v519 v524) fun v525 h525 =>
        if v496 = v525 then (
          g_L_law_18 L xs  n h525 x1 x2 (x3 + 6)
        ) else (
          some (0, h525)
        )
      ) else
      if (v29 &&& 63) = 9 then (
        bd (ldS L xs (x3 + 1)) fun v538 =>
        bd (ldS L xs (x3 + 2)) fun v543 =>
        bd (isO h x1 7) fun _ =>
        bd2 (f_X7_as h x1 v538 v543) fun v544 h544 =>
        bd (ldS L xs (x3 + 1)) fun v552 =>
        bd (ldS L xs (x3 + 2)) fun v557 =>
        bd (isO h544 x2 8) fun _ =>
        bd2 (f_X8_as h544 x2 v552 v557) fun v558 h558 =>
        if v544 = v558 then (
          g_L_law_18 L xs  n h558 x1 x2 (x3 + 6)
        ) else (
          some (0, h558)
        )
      ) else
      if (v29 &&& 63) = 10 then (
        bd (ldS L xs (x3 + 1)) fun v571 =>
        bd (ldS L xs (x3 + 2)) fun v576 =>
        bd (isO h x1 7) fun _ =>
        bd2 (f_X7_of h x1 v571 v576) fun v577 h577 =>
        bd (ldS L xs (x3 + 1)) fun v585 =>
        bd (ldS L xs (x3 + 2)) fun v590 =>
        bd (isO h577 x2 8) fun _ =>
        bd2 (f_X8_of h577 x2 v585 v590) fun v591 h591 =>
        if v577 = v591 then (
          g_L_law_18 L xs  n h591 x1 x2 (x3 + 6)
        ) else (
          some (0, h591)
        )
      ) else
      if (v29 &&& 63) = 11 then (
        bd (ldS L xs (x3 + 1)) fun v604 =>
        bd (ldS L xs (x3 + 2)) fun v609 =>
        bd (isO h x1 7) fun _ =>
        bd2 (f_X7_launch h x1 v604 v609) fun v610 h610 =>
        bd (ldS L xs (x3 + 1)) fun v618 =>
        bd (ldS L xs (x3 + 2)) fun v623 =>
        bd (isO h610 x2 8) fun _ =>
        bd2 (f_X8_launch h610 x2 v618 v623) fun v624 h624 =>
        if v610 = v624 then (
          g_L_law_18 L xs  n h624 x1 x2 (x3 + 6)
        ) else (
          some (0, h624)
        )
      ) else
      if (v29 &&& 63) = 12 then (
        bd (ldS L xs (x3 + 1)) fun v637 =>
        bd (ldS L xs (x3 + 2)) fun v642 =>
        bd (ldS L xs (x3 + 3)) fun v647 =>
        bd (isO h x1 7) fun _ =>
        bd2 (f_X7_night h x1 v637 v642 v647) fun v648 h648 =>
        bd (ldS L xs (x3 + 1)) fun v656 =>
        bd (ldS L xs (x3 + 2)) fun v661 =>
        bd (ldS L xs (x3 + 3)) fun v666 =>
        bd (isO h648 x2 8) fun _ =>
        bd2 (f_X8_night h648 x2 v656 v661 v666) fun v667 h667 =>
        if v648 = v667 then (
          g_L_law_18 L xs  n h667 x1 x2 (x3 + 6)
        ) else (
          some (0, h667)
        )
      ) else
      if (v29 &&& 63) = 13 then (
        bd (ldS L xs (x3 + 1)) fun v680 =>
        bd (ldS L xs (x3 + 2)) fun v685 =>
        bd (isO h x1 7) fun _ =>
        bd2 (f_X7_at h x1 v680 v685) fun v686 h686 =>
        bd (ldS L xs (x3 + 1)) fun v694 =>
        bd (ldS L xs (x3 + 2)) fun v699 =>
        bd (isO h686 x2 8) fun _ =>
        bd2 (f_X8_at h686 x2 v694 v699) fun v700 h700 =>
        if v686 = v700 then (
          g_L_law_18 L xs  n h700 x1 x2 (x3 + 6)
        ) else (
          some (0, h700)
        )
      ) else
      if (v29 &&& 63) = 14 then (
        bd (ldS L xs (x3 + 1)) fun v713 =>
        bd (ldS L xs (x3 + 2)) fun v718 =>
        bd (isO h x1 7) fun _ =>
        bd2 (f_X7_who h x1 v713 v718) fun v719 h719 =>
        bd (ldS L xs (x3 + 1)) fun v727 =>
        bd (ldS L xs (x3 + 2)) fun v732 =>
        bd (isO h719 x2 8) fun _ =>
        bd2 (f_X8_who h719 x2 v727 v732) fun v733 h733 =>
        if v719 = v733 then (
          g_L_law_18 L xs  n h733 x1 x2 (x3 + 6)
        ) else (
          some (0, h733)
        )
      ) else
      if (v29 &&& 63) = 15 then (
        bd (ldS L xs (x3 + 1)) fun v746 =>
        bd (isO h x1 7) fun _ =>
        bd2 (f_X7_plan h x1 v746) fun v747 h747 =>
        bd (ldS L xs (x3 + 1)) fun v755 =>
        bd (isO h747 x2 8) fun _ =>
        bd2 (f_X8_plan h747 x2 v755) fun v756 h756 =>
        if v747 = v756 then (
          g_L_law_18 L xs  n h756 x1 x2 (x3 + 6)
        ) else (
          some (0, h756)
        )
      ) else
      if (v29 &&& 63) = 16 then (
        bd (ldS L xs (x3 + 1)) fun v769 =>
        bd (ldS L xs (x3 + 2)) fun v774 =>
        bd (isO h x1 7) fun _ =>
        bd2 (f_X7_planned h x1 v769 v774) fun v775 h775 =>
        bd (ldS L xs (x3 + 1)) fun v783 =>
        bd (ldS L xs (x3 + 2)) fun v788 =>
        bd (isO h775 x2 8) fun _ =>
        bd2 (f_X8_planned h775 x2 v783 v788) fun v789 h789 =>
        if v775 = v789 then (
          g_L_law_18 L xs  n h789 x1 x2 (x3 + 6)
        ) else (
          some (0, h789)
        )
      ) else
      if (v29 &&& 63) = 17 then (
        bd (ldS L xs (x3 + 1)) fun v802 =>
        bd (isO h x1 7) fun _ =>
        bd2 (f_X7_take h x1 v802) fun v803 h803 =>
        bd (ldS L xs (x3 + 1)) fun v811 =>
        bd (isO h803 x2 8) fun _ =>
        bd2 (f_X8_take h803 x2 v811) fun v812 h812 =>
        if v803 = v812 then (
          g_L_law_18 L xs  n h812 x1 x2 (x3 + 6)
        ) else (
          some (0, h812)
        )
      ) else
      if (v29 &&& 63) = 18 then (
        bd (ldS L xs (x3 + 1)) fun v825 =>
        bd (isO h x1 7) fun _ =>
        bd2 (f_X7_calendar h x1 v825) fun v826 h826 =>
        bd (ldS L xs (x3 + 1)) fun v834 =>
        bd (isO h826 x2 8) fun _ =>
        bd2 (f_X8_calendar h826 x2 v834) fun v835 h835 =>
        if v826 = v835 then (
          g_L_law_18 L xs  n h835 x1 x2 (x3 + 6)
        ) else (
          some (0, h835)
        )
      ) else
      if (v29 &&& 63) = 19 then (
        bd (ldS L xs (x3 + 1)) fun v848 =>
        bd (isO h x1 7) fun _ =>
        bd2 (f_X7_fill h x1 v848) fun v849 h849 =>
        bd (ldS L xs (x3 + 1)) fun v857 =>
        bd (isO h849 x2 8) fun _ =>
        bd2 (f_X8_fill h849 x2 v857) fun v858 h858 =>
        if v849 = v858 then (
          g_L_law_18 L xs  n h858 x1 x2 (x3 + 6)
        ) else (
          some (0, h858)
        )
      ) else
      if (v29 &&& 63) = 20 then (
        bd (ldS L xs (x3 + 1)) fun v871 =>
        bd (ldS L xs (x3 + 2)) fun v876 =>
        bd (ldS L xs (x3 + 3)) fun v881 =>
        bd (isO h x1 7) fun _ =>
        bd2 (f_X7_near h x1 v871 v876 v881) fun v882 h882 =>
        bd (ldS L xs (x3 + 1)) fun v890 =>
        bd (ldS L xs (x3 + 2)) fun v895 =>
        bd (ldS L xs (x3 + 3)) fun v900 =>
        bd (isO h882 x2 8) fun _ =>
        bd2 (f_X8_near h882 x2 v890 v895 v900) fun v901 h901 =>
        if v882 = v901 then (
          g_L_law_18 L xs  n h901 x1 x2 (x3 + 6)
        ) else (
          some (0, h901)
        )
      ) else
      if (v29 &&& 63) = 21 then (
        bd (ldS L xs (x3 + 1)) fun v914 =>
        bd (ldS L xs (x3 + 2)) fun v919 =>
        bd (isO h x1 7) fun _ =>
        bd2 (f_X7_hurt h x1 v914 v919) fun v920 h920 =>
        bd (ldS L xs (x3 + 1)) fun v928 =>
        bd (ldS L xs (x3 + 2)) fun v933 =>
        bd (isO h920 x2 8) fun _ =>
        bd2 (f_X8_hurt h920 x2 v928 v933) fun v934 h934 =>
        if v920 = v934 then (
          g_L_law_18 L xs  n h934 x1 x2 (x3 + 6)
        ) else (
          some (0, h934)
        )
      ) else
      if (v29 &&& 63) = 22 then (
        bd (ldS L xs (x3 + 1)) fun v947 =>
        bd (isO h x1 7) fun _ =>
        bd2 (f_X7_applicant h x1 v947) fun v948 h948 =>
        bd (ldS L xs (x3 + 1)) fun v956 =>
        bd (isO h948 x2 8) fun _ =>
        bd2 (f_X8_applicant h948 x2 v956) fun v957 h957 =>
        if v948 = v957 then (
          g_L_law_18 L xs  n h957 x1 x2 (x3 + 6)
        ) else (
          some (0, h957)
        )
      ) else
      if (v29 &&& 63) = 23 then (
        bd (ldS L xs (x3 + 1)) fun v970 =>
        bd (ldS L xs (x3 + 2)) fun v975 =>
        bd (isO h x1 7) fun _ =>
        bd2 (f_X7_weigh h x1 v970 v975) fun v976 h976 =>
        bd (ldS L xs (x3 + 1)) fun v984 =>
        bd (ldS L xs (x3 + 2)) fun v989 =>
        bd (isO h976 x2 8) fun _ =>
        bd2 (f_X8_weigh h976 x2 v984 v989) fun v990 h990 =>
        if v976 = v990 then (
          g_L_law_18 L xs  n h990 x1 x2 (x3 + 6)
        ) else (
          some (0, h990)
        )
      ) else
      if (v29 &&& 63) = 24 then (
        bd (ldS L xs (x3 + 1)) fun v1003 =>
        bd (ldS L xs (x3 + 2)) fun v1008 =>
        if v1008 = 0 then (
          j_L_law_1017 L xs (fun h x1 x2 x3 => g_L_law_18 L xs  n h x1 x2 x3) h x1 x2 x3 x1 v1003 0
        ) else (
          j_L_law_1017 L xs (fun h x1 x2 x3 => g_L_law_18 L xs  n h x1 x2 x3) h x1 x2 x3 x1 v1003 1
        )
      ) else
      if (v29 &&& 63) = 25 then (
        bd (ldS L xs (x3 + 1)) fun v1052 =>
        bd (ldS L xs (x3 + 2)) fun v1057 =>
        bd (isO h x1 7) fun _ =>
        bd2 (f_X7_drawn h x1 v1052 v1057) fun v1058 h1058 =>
        bd (ldS L xs (x3 + 1)) fun v1066 =>
        bd (ldS L xs (x3 + 2)) fun v1071 =>
        bd (isO h1058 x2 8) fun _ =>
        bd2 (f_X8_drawn h1058 x2 v1066 v1071) fun v1072 h1072 =>
        if v1058 = v1072 then (
          g_L_law_18 L xs  n h1072 x1 x2 (x3 + 6)
        ) else (
          some (0, h1072)
        )
      ) else
      if (v29 &&& 63) = 26 then (
        bd (ldS L xs (x3 + 1)) fun v1085 =>
        bd (ldS L xs (x3 + 2)) fun v1090 =>
        bd (isO h x1 7) fun _ =>
        bd2 (f_X7_turn h x1 v1085 v1090) fun v1091 h1091 =>
        bd (ldS L xs (x3 + 1)) fun v1099 =>
        bd (ldS L xs (x3 + 2)) fun v1104 =>
        bd (isO h1091 x2 8) fun _ =>
        bd2 (f_X8_turn h1091 x2 v1099 v1104) fun v1105 h1105 =>
        if v1091 = v1105 then (
          g_L_law_18 L xs  n h1105 x1 x2 (x3 + 6)
        ) else (
          some (0, h1105)
        )
      ) else
      if (v29 &&& 63) = 27 then (
        bd (ldS L xs (x3 + 1)) fun v1118 =>
        bd (ldS L xs (x3 + 2)) fun v1123 =>
        bd (ldS L xs (x3 + 3)) fun v1128 =>
        bd (isO h x1 7) fun _ =>
        bd2 (f_X7_sheet h x1 v1118 v1123 v1128) fun v1129 h1129 =>
        bd (ldS L xs (x3 + 1)) fun v1137 =>
        bd (ldS L xs (x3 + 2)) fun v1142 =>
        bd (ldS L xs (x3 + 3)) fun v1147 =>
        bd (isO h1129 x2 8) fun _ =>
        bd2 (f_X8_sheet h1129 x2 v1137 v1142 v1147) fun v1148 h1148 =>
        if v1129 = v1148 then (
          g_L_law_18 L xs  n h1148 x1 x2 (x3 + 6)
        ) else (
          some (0, h1148)
        )
      ) else
      if (v29 &&& 63) = 28 then (
        bd (ldS L xs (x3 + 1)) fun v1161 =>
        bd (ldS L xs (x3 + 2)) fun v1166 =>
        bd (ldS L xs (x3 + 3)) fun v1171 =>
        bd (isO h x1 7) fun _ =>
        bd2 (f_X7_put h x1 v1161 v1166 v1171) fun v1172 h1172 =>
        bd (ldS L xs (x3 + 1)) fun v1180 =>
        bd (ldS L xs (x3 + 2)) fun v1185 =>
        bd (ldS L xs (x3 + 3)) fun v1190 =>
        bd (isO h1172 x2 8) fun _ =>
        bd2 (f_X8_put h1172 x2 v1180 v1185 v1190) fun v1191 h1191 =>
        if v1172 = v1191 then (
          g_L_law_18 L xs  n h1191 x1 x2 (x3 + 6)
        ) else (
          some (0, h1191)
        )
      ) else
      if (v29 &&& 63) = 29 then (
        bd (ldS L xs (x3 + 1)) fun v1204 =>
        bd (ldS L xs (x3 + 2)) fun v1209 =>
        bd (ldS L xs (x3 + 3)) fun v1214 =>
        bd (ldS L xs (x3 + 4)) fun v1219 =>
        bd (ldS L xs (x3 + 5)) fun v1224 =>
        bd (isO h x1 7) fun _ =>
        bd2 (f_X7_copy h x1 v1204 v1209 v1214 v1219 v1224) fun v1225 h1225 =>
        bd (ldS L xs (x3 + 1)) fun v1233 =>
        bd (ldS L xs (x3 + 2)) fun v1238 =>
        bd (ldS L xs (x3 + 3)) fun v1243 =>
        bd (ldS L xs (x3 + 4)) fun v1248 =>
        bd (ldS L xs (x3 + 5)) fun v1253 =>
        bd (isO h1225 x2 8) fun _ =>
        bd2 (f_X8_copy h1225 x2 v1233 v1238 v1243 v1248 v1253) fun v1254 h1254 =>
        if v1225 = v1254 then (
          g_L_law_18 L xs  n h1254 x1 x2 (x3 + 6)
        ) else (
          some (0, h1254)
        )
      ) else
      if (v29 &&& 63) = 30 then (
        bd (ldS L xs (x3 + 1)) fun v1267 =>
        bd (ldS L xs (x3 + 2)) fun v1272 =>
        bd (isO h x1 7) fun _ =>
        bd2 (f_X7_let h x1 v1267 v1272) fun v1273 h1273 =>
        bd (ldS L xs (x3 + 1)) fun v1281 =>
        bd (ldS L xs (x3 + 2)) fun v1286 =>
        bd (isO h1273 x2 8) fun _ =>
        bd2 (f_X8_let h1273 x2 v1281 v1286) fun v1287 h1287 =>
        if v1273 = v1287 then (
          g_L_law_18 L xs  n h1287 x1 x2 (x3 + 6)
        ) else (
          some (0, h1287)
        )
      ) else
      if (v29 &&& 63) = 31 then (
        bd (isO h x1 7) fun _ =>
        bd2 (f_X7_undo h x1) fun v1296 h1296 =>
        bd (isO h1296 x2 8) fun _ =>
        bd2 (f_X8_undo h1296 x2) fun v1300 h1300 =>
        if v1296 = v1300 then (
          g_L_law_18 L xs  n h1300 x1 x2 (x3 + 6)
        ) else (
          some (0, h1300)
        )
      ) else
      if (v29 &&& 63) = 32 then (
        bd (ldS L xs (x3 + 1)) fun v1313 =>
        bd (isO h x1 7) fun _ =>
        bd2 (f_X7_all h x1 v1313) fun v1314 h1314 =>
        bd (ldS L xs (x3 + 1)) fun v1322 =>
        bd (isO h1314 x2 8) fun _ =>
        bd2 (f_X8_all h1314 x2 v1322) fun v1323 h1323 =>
        if v1314 = v1323 then (
          g_L_law_18 L xs  n h1323 x1 x2 (x3 + 6)
        ) else (
          some (0, h1323)
        )
      ) else
      (
        g_L_law_18 L xs  n h x1 x2 (x3 + 6)
      )
    )

set_option maxRecDepth 100000 in
set_option maxHeartbeats 4000000 in
theorem tg_L_law_18 {g : GT} : ∀ (n : Nat) {h : AH} {x1 : Option Nat} {x2 : Option Nat} {x3 : Int32} {r : Int32} {h' : AH}, g_L_law_18 (g_n g) (g_x g) n h x1 x2 x3 = some (r, h') → Xj g mL_law h 18 [some (.retAddr 0), some (va_rf (x1)), some (va_rf (x2)), some (.int (x3))] [] (some (.int r)) h' := by
  intro n
  induction n with
  | zero =>
    intros
    rename_i z
    cases z
  | succ n ih =>
    intro h x1 x2 x3 r h' hf
    rw [g_L_law_18] at hf
    refine x_iload_n (pc := 18) (x := x3) dL_law_18 rfl ?_
    refine x_aloadS (pc := 19) dL_law_19 rfl ?_
    refine x_lenS (pc := 20) dL_law_20 ?_
    refine x_bipush (pc := 21) (v := 6) dL_law_21 (by decide) ?_
    refine x_isub (pc := 23) dL_law_23 ?_
    refine x_icmp_gt (pc := 24) (tgt := 1337) (x := x3) (y := ((Int32.ofNat (g_n g)) - 6)) dL_law_24 rfl (fun hc => ?_) (fun hc => ?_)
    · replace hf := it_t hc hf
      refine x_iconst (pc := 1337) (v := 1) dL_law_1337 (by decide) ?_
      obtain ⟨rfl, rfl⟩ := ret_s hf
      exact x_retz (pc := 1338) dL_law_1338 rfl (by decide)
    · replace hf := it_f hc hf
      refine x_aloadS (pc := 27) dL_law_27 rfl ?_
      refine x_iload_n (pc := 28) (x := x3) dL_law_28 rfl ?_
      replace hf := bd_s hf; obtain ⟨v29, e29, hf⟩ := hf
      refine x_ldSo (pc := 29) dL_law_29 e29 ?_
      refine x_bipush (pc := 30) (v := 63) dL_law_30 (by decide) ?_
      refine x_iand (pc := 32) dL_law_32 ?_
      by_cases hc0 : (v29 &&& 63) = 0
      · replace hf := it_t hc0 hf
        refine x_tabK (pc := 33) (k := 0) (tgt := 180) dL_law_33 hc0 (by decide) (by decide) (by rfl) rfl ?_
        refine x_aload_n (pc := 180) (a := x1) dL_law_180 rfl ?_
        refine x_aloadS (pc := 181) dL_law_181 rfl ?_
        refine x_iload_n (pc := 182) (x := x3) dL_law_182 rfl ?_
        refine x_iconst (pc := 183) (v := 1) dL_law_183 (by decide) ?_
        refine x_iadd (pc := 184) dL_law_184 ?_
        replace hf := bd_s hf; obtain ⟨v185, e185, hf⟩ := hf
        refine x_ldSo (pc := 185) dL_law_185 e185 ?_
        replace hf := bd_s hf; obtain ⟨u186, i186, hf⟩ := hf
        replace hf := bd2_s hf; obtain ⟨v186, h186, e186, hf⟩ := hf
        refine x_cVi (pc := 186) (M' := mX7_end) (as := [.int (v185)]) (st := []) (a := x1) (ci := 7) dL_law_186 mo_X7_end lk_L_13 im_X7_end se_X7_end rfl ⟨Nat.le_of_ble_eq_true rfl, Nat.le_of_ble_eq_true rfl⟩ rfl (Nat.le_of_ble_eq_true rfl) rfl i186 (tm_X7_end e186) ?_
        refine x_aload_n (pc := 189) (a := x2) dL_law_189 rfl ?_
        refine x_aloadS (pc := 190) dL_law_190 rfl ?_
        refine x_iload_n (pc := 191) (x := x3) dL_law_191 rfl ?_
        refine x_iconst (pc := 192) (v := 1) dL_law_192 (by decide) ?_
        refine x_iadd (pc := 193) dL_law_193 ?_
        replace hf := bd_s hf; obtain ⟨v194, e194, hf⟩ := hf
        refine x_ldSo (pc := 194) dL_law_194 e194 ?_
        replace hf := bd_s hf; obtain ⟨u195, i195, hf⟩ := hf
        replace hf := bd2_s hf; obtain ⟨v195, h195, e195, hf⟩ := hf
        refine x_cVi (pc := 195) (M' := mX8_end) (as := [.int (v194)]) (st := [.int (v186)]) (a := x2) (ci := 8) dL_law_195 mo_X8_end lk_L_17 im_X8_end se_X8_end rfl ⟨Nat.le_of_ble_eq_true rfl, Nat.le_of_ble_eq_true rfl⟩ rfl (Nat.le_of_ble_eq_true rfl) rfl i195 (tm_X8_end e195) ?_
        refine x_icmp_eq (pc := 198) (tgt := 1331) (x := v186) (y := v195) dL_law_198 rfl (fun hc => ?_) (fun hc => ?_)
        · replace hf := it_t hc hf
          refine x_iinc (pc := 1331) (x := x3) (v := x3 + 6) (ls' := [some (.retAddr 0), some (va_rf (x1)), some (va_rf (x2)), some (.int (x3 + 6))]) dL_law_1331 rfl rfl (by decide) rfl ?_
          refine x_goto (pc := 1334) (tgt := 18) dL_law_1334 rfl ?_
          exact ih hf
        · replace hf := it_f hc hf
          refine x_iconst (pc := 201) (v := 0) dL_law_201 (by decide) ?_
          obtain ⟨rfl, rfl⟩ := ret_s hf
          exact x_retz (pc := 202) dL_law_202 rfl (by decide)
      replace hf := it_f hc0 hf
      by_cases hc1 : (v29 &&& 63) = 1
      · replace hf := it_t hc1 hf
        refine x_tabK (pc := 33) (k := 1) (tgt := 203) dL_law_33 hc1 (by decide) (by decide) (by rfl) rfl ?_
        refine x_aload_n (pc := 203) (a := x1) dL_law_203 rfl ?_
        refine x_aloadS (pc := 204) dL_law_204 rfl ?_
        refine x_iload_n (pc := 205) (x := x3) dL_law_205 rfl ?_
        refine x_iconst (pc := 206) (v := 1) dL_law_206 (by decide) ?_
        refine x_iadd (pc := 207) dL_law_207 ?_
        replace hf := bd_s hf; obtain ⟨v208, e208, hf⟩ := hf
        refine x_ldSo (pc := 208) dL_law_208 e208 ?_
        refine x_aloadS (pc := 209) dL_law_209 rfl ?_
        refine x_iload_n (pc := 210) (x := x3) dL_law_210 rfl ?_
        refine x_iconst (pc := 211) (v := 2) dL_law_211 (by decide) ?_
        refine x_iadd (pc := 212) dL_law_212 ?_
        replace hf := bd_s hf; obtain ⟨v213, e213, hf⟩ := hf
        refine x_ldSo (pc := 213) dL_law_213 e213 ?_
        refine x_if_eq (pc := 214) (tgt := 221) (x := v213) dL_law_214 rfl (fun hc => ?_) (fun hc => ?_)
        · replace hf := it_t hc hf
          refine x_iconst (pc := 221) (v := 0) dL_law_221 (by decide) ?_
          exact tj_L_law_222 (fun _ _ _ _ _ _ z => ih z) hf
        · replace hf := it_f hc hf
          refine x_iconst (pc := 217) (v := 1) dL_law_217 (by decide) ?_
          refine x_goto (pc := 218) (tgt := 222) dL_law_218 rfl ?_
          exact tj_L_law_222 (fun _ _ _ _ _ _ z => ih z) hf
      replace hf := it_f hc1 hf
      by_cases hc2 : (v29 &&& 63) = 2
      · replace hf := it_t hc2 hf
        refine x_tabK (pc := 33) (k := 2) (tgt := 252) dL_law_33 hc2 (by decide) (by decide) (by rfl) rfl ?_
        refine x_aload_n (pc := 252) (a := x1) dL_law_252 rfl ?_
        refine x_aloadS (pc := 253) dL_law_253 rfl ?_
        refine x_iload_n (pc := 254) (x := x3) dL_law_254 rfl ?_
        refine x_iconst (pc := 255) (v := 1) dL_law_255 (by decide) ?_
        refine x_iadd (pc := 256) dL_law_256 ?_
        replace hf := bd_s hf; obtain ⟨v257, e257, hf⟩ := hf
        refine x_ldSo (pc := 257) dL_law_257 e257 ?_
        refine x_aloadS (pc := 258) dL_law_258 rfl ?_
        refine x_iload_n (pc := 259) (x := x3) dL_law_259 rfl ?_
        refine x_iconst (pc := 260) (v := 2) dL_law_260 (by decide) ?_
        refine x_iadd (pc := 261) dL_law_261 ?_
        replace hf := bd_s hf; obtain ⟨v262, e262, hf⟩ := hf
        refine x_ldSo (pc := 262) dL_law_262 e262 ?_
        refine x_aloadS (pc := 263) dL_law_263 rfl ?_
        refine x_iload_n (pc := 264) (x := x3) dL_law_264 rfl ?_
        refine x_iconst (pc := 265) (v := 3) dL_law_265 (by decide) ?_
        refine x_iadd (pc := 266) dL_law_266 ?_
        replace hf := bd_s hf; obtain ⟨v267, e267, hf⟩ := hf
        refine x_ldSo (pc := 267) dL_law_267 e267 ?_
        replace hf := bd_s hf; obtain ⟨u268, i268, hf⟩ := hf
        replace hf := bd2_s hf; obtain ⟨v268, h268, e268, hf⟩ := hf
        refine x_cVi (pc := 268) (M' := mX7_rapid) (as := [.int (v257), .int (v262), .int (v267)]) (st := []) (a := x1) (ci := 7) dL_law_268 mo_X7_rapid lk_L_23 im_X7_rapid se_X7_rapid rfl ⟨Nat.le_of_ble_eq_true rfl, Nat.le_of_ble_eq_true rfl⟩ rfl (Nat.le_of_ble_eq_true rfl) rfl i268 (tm_X7_rapid e268) ?_
        refine x_aload_n (pc := 271) (a := x2) dL_law_271 rfl ?_
        refine x_aloadS (pc := 272) dL_law_272 rfl ?_
        refine x_iload_n (pc := 273) (x := x3) dL_law_273 rfl ?_
        refine x_iconst (pc := 274) (v := 1) dL_law_274 (by decide) ?_
        refine x_iadd (pc := 275) dL_law_275 ?_
        replace hf := bd_s hf; obtain ⟨v276, e276, hf⟩ := hf
        refine x_ldSo (pc := 276) dL_law_276 e276 ?_
        refine x_aloadS (pc := 277) dL_law_277 rfl ?_
        refine x_iload_n (pc := 278) (x := x3) dL_law_278 rfl ?_
        refine x_iconst (pc := 279) (v := 2) dL_law_279 (by decide) ?_
        refine x_iadd (pc := 280) dL_law_280 ?_
        replace hf := bd_s hf; obtain ⟨v281, e281, hf⟩ := hf
        refine x_ldSo (pc := 281) dL_law_281 e281 ?_
        refine x_aloadS (pc := 282) dL_law_282 rfl ?_
        refine x_iload_n (pc := 283) (x := x3) dL_law_283 rfl ?_
        refine x_iconst (pc := 284) (v := 3) dL_law_284 (by decide) ?_
        refine x_iadd (pc := 285) dL_law_285 ?_
        replace hf := bd_s hf; obtain ⟨v286, e286, hf⟩ := hf
        refine x_ldSo (pc := 286) dL_law_286 e286 ?_
        replace hf := bd_s hf; obtain ⟨u287, i287, hf⟩ := hf
        replace hf := bd2_s hf; obtain ⟨v287, h287, e287, hf⟩ := hf
        refine x_cVi (pc := 287) (M' := mX8_rapid) (as := [.int (v276), .int (v281), .int (v286)]) (st := [.int (v268)]) (a := x2) (ci := 8) dL_law_287 mo_X8_rapid lk_L_27 im_X8_rapid se_X8_rapid rfl ⟨Nat.le_of_ble_eq_true rfl, Nat.le_of_ble_eq_true rfl⟩ rfl (Nat.le_of_ble_eq_true rfl) rfl i287 (tm_X8_rapid e287) ?_
        refine x_icmp_eq (pc := 290) (tgt := 1331) (x := v268) (y := v287) dL_law_290 rfl (fun hc => ?_) (fun hc => ?_)
        · replace hf := it_t hc hf
          refine x_iinc (pc := 1331) (x := x3) (v := x3 + 6) (ls' := [some (.retAddr 0), some (va_rf (x1)), some (va_rf (x2)), some (.int (x3 + 6))]) dL_law_1331 rfl rfl (by decide) rfl ?_
          refine x_goto (pc := 1334) (tgt := 18) dL_law_1334 rfl ?_
          exact ih hf
        · replace hf := it_f hc hf
          refine x_iconst (pc := 293) (v := 0) dL_law_293 (by decide) ?_
          obtain ⟨rfl, rfl⟩ := ret_s hf
          exact x_retz (pc := 294) dL_law_294 rfl (by decide)
      replace hf := it_f hc2 hf
      by_cases hc3 : (v29 &&& 63) = 3
      · replace hf := it_t hc3 hf
        refine x_tabK (pc := 33) (k := 3) (tgt := 295) dL_law_33 hc3 (by decide) (by decide) (by rfl) rfl ?_
        refine x_aload_n (pc := 295) (a := x1) dL_law_295 rfl ?_
        refine x_aloadS (pc := 296) dL_law_296 rfl ?_
        refine x_iload_n (pc := 297) (x := x3) dL_law_297 rfl ?_
        refine x_iconst (pc := 298) (v := 1) dL_law_298 (by decide) ?_
        refine x_iadd (pc := 299) dL_law_299 ?_
        replace hf := bd_s hf; obtain ⟨v300, e300, hf⟩ := hf
        refine x_ldSo (pc := 300) dL_law_300 e300 ?_
        replace hf := bd_s hf; obtain ⟨u301, i301, hf⟩ := hf
        replace hf := bd2_s hf; obtain ⟨v301, h301, e301, hf⟩ := hf
        refine x_cVi (pc := 301) (M' := mX7_landing) (as := [.int (v300)]) (st := []) (a := x1) (ci := 7) dL_law_301 mo_X7_landing lk_L_28 im_X7_landing se_X7_landing rfl ⟨Nat.le_of_ble_eq_true rfl, Nat.le_of_ble_eq_true rfl⟩ rfl (Nat.le_of_ble_eq_true rfl) rfl i301 (tm_X7_landing e301) ?_
        refine x_aload_n (pc := 304) (a := x2) dL_law_304 rfl ?_
        refine x_aloadS (pc := 305) dL_law_305 rfl ?_
        refine x_iload_n (pc := 306) (x := x3) dL_law_306 rfl ?_
        refine x_iconst (pc := 307) (v := 1) dL_law_307 (by decide) ?_
        refine x_iadd (pc := 308) dL_law_308 ?_
        replace hf := bd_s hf; obtain ⟨v309, e309, hf⟩ := hf
        refine x_ldSo (pc := 309) dL_law_309 e309 ?_
        replace hf := bd_s hf; obtain ⟨u310, i310, hf⟩ := hf
        replace hf := bd2_s hf; obtain ⟨v310, h310, e310, hf⟩ := hf
        refine x_cVi (pc := 310) (M' := mX8_landing) (as := [.int (v309)]) (st := [.int (v301)]) (a := x2) (ci := 8) dL_law_310 mo_X8_landing lk_L_31 im_X8_landing se_X8_landing rfl ⟨Nat.le_of_ble_eq_true rfl, Nat.le_of_ble_eq_true rfl⟩ rfl (Nat.le_of_ble_eq_true rfl) rfl i310 (tm_X8_landing e310) ?_
        refine x_icmp_eq (pc := 313) (tgt := 1331) (x := v301) (y := v310) dL_law_313 rfl (fun hc => ?_) (fun hc => ?_)
        · replace hf := it_t hc hf
          refine x_iinc (pc := 1331) (x := x3) (v := x3 + 6) (ls' := [some (.retAddr 0), some (va_rf (x1)), some (va_rf (x2)), some (.int (x3 + 6))]) dL_law_1331 rfl rfl (by decide) rfl ?_
          refine x_goto (pc := 1334) (tgt := 18) dL_law_1334 rfl ?_
          exact ih hf
        · replace hf := it_f hc hf
          refine x_iconst (pc := 316) (v := 0) dL_law_316 (by decide) ?_
          obtain ⟨rfl, rfl⟩ := ret_s hf
          exact x_retz (pc := 317) dL_law_317 rfl (by decide)
      replace hf := it_f hc3 hf
      by_cases hc4 : (v29 &&& 63) = 4
      · replace hf := it_t hc4 hf
        refine x_tabK (pc := 33) (k := 4) (tgt := 318) dL_law_33 hc4 (by decide) (by decide) (by rfl) rfl ?_
        refine x_aload_n (pc := 318) (a := x1) dL_law_318 rfl ?_
        refine x_aloadS (pc := 319) dL_law_319 rfl ?_
        refine x_iload_n (pc := 320) (x := x3) dL_law_320 rfl ?_
        refine x_iconst (pc := 321) (v := 1) dL_law_321 (by decide) ?_
        refine x_iadd (pc := 322) dL_law_322 ?_
        replace hf := bd_s hf; obtain ⟨v323, e323, hf⟩ := hf
        refine x_ldSo (pc := 323) dL_law_323 e323 ?_
        replace hf := bd_s hf; obtain ⟨u324, i324, hf⟩ := hf
        replace hf := bd2_s hf; obtain ⟨v324, h324, e324, hf⟩ := hf
        refine x_cVi (pc := 324) (M' := mX7_speed) (as := [.int (v323)]) (st := []) (a := x1) (ci := 7) dL_law_324 mo_X7_speed lk_L_32 im_X7_speed se_X7_speed rfl ⟨Nat.le_of_ble_eq_true rfl, Nat.le_of_ble_eq_true rfl⟩ rfl (Nat.le_of_ble_eq_true rfl) rfl i324 (tm_X7_speed e324) ?_
        refine x_aload_n (pc := 327) (a := x2) dL_law_327 rfl ?_
        refine x_aloadS (pc := 328) dL_law_328 rfl ?_
        refine x_iload_n (pc := 329) (x := x3) dL_law_329 rfl ?_
        refine x_iconst (pc := 330) (v := 1) dL_law_330 (by decide) ?_
        refine x_iadd (pc := 331) dL_law_331 ?_
        replace hf := bd_s hf; obtain ⟨v332, e332, hf⟩ := hf
        refine x_ldSo (pc := 332) dL_law_332 e332 ?_
        replace hf := bd_s hf; obtain ⟨u333, i333, hf⟩ := hf
        replace hf := bd2_s hf; obtain ⟨v333, h333, e333, hf⟩ := hf
        refine x_cVi (pc := 333) (M' := mX8_speed) (as := [.int (v332)]) (st := [.int (v324)]) (a := x2) (ci := 8) dL_law_333 mo_X8_speed lk_L_35 im_X8_speed se_X8_speed rfl ⟨Nat.le_of_ble_eq_true rfl, Nat.le_of_ble_eq_true rfl⟩ rfl (Nat.le_of_ble_eq_true rfl) rfl i333 (tm_X8_speed e333) ?_
        refine x_icmp_eq (pc := 336) (tgt := 1331) (x := v324) (y := v333) dL_law_336 rfl (fun hc => ?_) (fun hc => ?_)
        · replace hf := it_t hc hf
          refine x_iinc (pc := 1331) (x := x3) (v := x3 + 6) (ls' := [some (.retAddr 0), some (va_rf (x1)), some (va_rf (x2)), some (.int (x3 + 6))]) dL_law_1331 rfl rfl (by decide) rfl ?_
          refine x_goto (pc := 1334) (tgt := 18) dL_law_1334 rfl ?_
          exact ih hf
        · replace hf := it_f hc hf
          refine x_iconst (pc := 339) (v := 0) dL_law_339 (by decide) ?_
          obtain ⟨rfl, rfl⟩ := ret_s hf
          exact x_retz (pc := 340) dL_law_340 rfl (by decide)
      replace hf := it_f hc4 hf
      by_cases hc5 : (v29 &&& 63) = 5
      · replace hf := it_t hc5 hf
        refine x_tabK (pc := 33) (k := 5) (tgt := 341) dL_law_33 hc5 (by decide) (by decide) (by rfl) rfl ?_
        refine x_aload_n (pc := 341) (a := x1) dL_law_341 rfl ?_
        refine x_aloadS (pc := 342) dL_law_342 rfl ?_
        refine x_iload_n (pc := 343) (x := x3) dL_law_343 rfl ?_
        refine x_iconst (pc := 344) (v := 1) dL_law_344 (by decide) ?_
        refine x_iadd (pc := 345) dL_law_345 ?_
        replace hf := bd_s hf; obtain ⟨v346, e346, hf⟩ := hf
        refine x_ldSo (pc := 346) dL_law_346 e346 ?_
        refine x_aloadS (pc := 347) dL_law_347 rfl ?_
        refine x_iload_n (pc := 348) (x := x3) dL_law_348 rfl ?_
        refine x_iconst (pc := 349) (v := 2) dL_law_349 (by decide) ?_
        refine x_iadd (pc := 350) dL_law_350 ?_
        replace hf := bd_s hf; obtain ⟨v351, e351, hf⟩ := hf
        refine x_ldSo (pc := 351) dL_law_351 e351 ?_
        refine x_aloadS (pc := 352) dL_law_352 rfl ?_
        refine x_iload_n (pc := 353) (x := x3) dL_law_353 rfl ?_
        refine x_iconst (pc := 354) (v := 3) dL_law_354 (by decide) ?_
        refine x_iadd (pc := 355) dL_law_355 ?_
        replace hf := bd_s hf; obtain ⟨v356, e356, hf⟩ := hf
        refine x_ldSo (pc := 356) dL_law_356 e356 ?_
        replace hf := bd_s hf; obtain ⟨u357, i357, hf⟩ := hf
        replace hf := bd2_s hf; obtain ⟨v357, h357, e357, hf⟩ := hf
        refine x_cVi (pc := 357) (M' := mX7_water) (as := [.int (v346), .int (v351), .int (v356)]) (st := []) (a := x1) (ci := 7) dL_law_357 mo_X7_water lk_L_36 im_X7_water se_X7_water rfl ⟨Nat.le_of_ble_eq_true rfl, Nat.le_of_ble_eq_true rfl⟩ rfl (Nat.le_of_ble_eq_true rfl) rfl i357 (tm_X7_water e357) ?_
        refine x_aload_n (pc := 360) (a := x2) dL_law_360 rfl ?_
        refine x_aloadS (pc := 361) dL_law_361 rfl ?_
        refine x_iload_n (pc := 362) (x := x3) dL_law_362 rfl ?_
        refine x_iconst (pc := 363) (v := 1) dL_law_363 (by decide) ?_
        refine x_iadd (pc := 364) dL_law_364 ?_
        replace hf := bd_s hf; obtain ⟨v365, e365, hf⟩ := hf
        refine x_ldSo (pc := 365) dL_law_365 e365 ?_
        refine x_aloadS (pc := 366) dL_law_366 rfl ?_
        refine x_iload_n (pc := 367) (x := x3) dL_law_367 rfl ?_
        refine x_iconst (pc := 368) (v := 2) dL_law_368 (by decide) ?_
        refine x_iadd (pc := 369) dL_law_369 ?_
        replace hf := bd_s hf; obtain ⟨v370, e370, hf⟩ := hf
        refine x_ldSo (pc := 370) dL_law_370 e370 ?_
        refine x_aloadS (pc := 371) dL_law_371 rfl ?_
        refine x_iload_n (pc := 372) (x := x3) dL_law_372 rfl ?_
        refine x_iconst (pc := 373) (v := 3) dL_law_373 (by decide) ?_
        refine x_iadd (pc := 374) dL_law_374 ?_
        replace hf := bd_s hf; obtain ⟨v375, e375, hf⟩ := hf
        refine x_ldSo (pc := 375) dL_law_375 e375 ?_
        replace hf := bd_s hf; obtain ⟨u376, i376, hf⟩ := hf
        replace hf := bd2_s hf; obtain ⟨v376, h376, e376, hf⟩ := hf
        refine x_cVi (pc := 376) (M' := mX8_water) (as := [.int (v365), .int (v370), .int (v375)]) (st := [.int (v357)]) (a := x2) (ci := 8) dL_law_376 mo_X8_water lk_L_39 im_X8_water se_X8_water rfl ⟨Nat.le_of_ble_eq_true rfl, Nat.le_of_ble_eq_true rfl⟩ rfl (Nat.le_of_ble_eq_true rfl) rfl i376 (tm_X8_water e376) ?_
        refine x_icmp_eq (pc := 379) (tgt := 1331) (x := v357) (y := v376) dL_law_379 rfl (fun hc => ?_) (fun hc => ?_)
        · replace hf := it_t hc hf
          refine x_iinc (pc := 1331) (x := x3) (v := x3 + 6) (ls' := [some (.retAddr 0), some (va_rf (x1)), some (va_rf (x2)), some (.int (x3 + 6))]) dL_law_1331 rfl rfl (by decide) rfl ?_
          refine x_goto (pc := 1334) (tgt := 18) dL_law_1334 rfl ?_
          exact ih hf
        · replace hf := it_f hc hf
          refine x_iconst (pc := 382) (v := 0) dL_law_382 (by decide) ?_
          obtain ⟨rfl, rfl⟩ := ret_s hf
          exact x_retz (pc := 383) dL_law_383 rfl (by decide)
      replace hf := it_f hc5 hf
      by_cases hc6 : (v29 &&& 63) = 6
      · replace hf := it_t hc6 hf
        refine x_tabK (pc := 33) (k := 6) (tgt := 384) dL_law_33 hc6 (by decide) (by decide) (by rfl) rfl ?_
        refine x_aload_n (pc := 384) (a := x1) dL_law_384 rfl ?_
        refine x_aloadS (pc := 385) dL_law_385 rfl ?_
        refine x_iload_n (pc := 386) (x := x3) dL_law_386 rfl ?_
        refine x_iconst (pc := 387) (v := 1) dL_law_387 (by decide) ?_
        refine x_iadd (pc := 388) dL_law_388 ?_
        replace hf := bd_s hf; obtain ⟨v389, e389, hf⟩ := hf
        refine x_ldSo (pc := 389) dL_law_389 e389 ?_
        refine x_aloadS (pc := 390) dL_law_390 rfl ?_
        refine x_iload_n (pc := 391) (x := x3) dL_law_391 rfl ?_
        refine x_iconst (pc := 392) (v := 2) dL_law_392 (by decide) ?_
        refine x_iadd (pc := 393) dL_law_393 ?_
        replace hf := bd_s hf; obtain ⟨v394, e394, hf⟩ := hf
        refine x_ldSo (pc := 394) dL_law_394 e394 ?_
        refine x_aloadS (pc := 395) dL_law_395 rfl ?_
        refine x_iload_n (pc := 396) (x := x3) dL_law_396 rfl ?_
        refine x_iconst (pc := 397) (v := 3) dL_law_397 (by decide) ?_
        refine x_iadd (pc := 398) dL_law_398 ?_
        replace hf := bd_s hf; obtain ⟨v399, e399, hf⟩ := hf
        refine x_ldSo (pc := 399) dL_law_399 e399 ?_
        replace hf := bd_s hf; obtain ⟨u400, i400, hf⟩ := hf
        replace hf := bd2_s hf; obtain ⟨v400, h400, e400, hf⟩ := hf
        refine x_cVi (pc := 400) (M' := mX7_waterAt) (as := [.int (v389), .int (v394), .int (v399)]) (st := []) (a := x1) (ci := 7) dL_law_400 mo_X7_waterAt lk_L_40 im_X7_waterAt se_X7_waterAt rfl ⟨Nat.le_of_ble_eq_true rfl, Nat.le_of_ble_eq_true rfl⟩ rfl (Nat.le_of_ble_eq_true rfl) rfl i400 (tm_X7_waterAt e400) ?_
        refine x_aload_n (pc := 403) (a := x2) dL_law_403 rfl ?_
        refine x_aloadS (pc := 404) dL_law_404 rfl ?_
        refine x_iload_n (pc := 405) (x := x3) dL_law_405 rfl ?_
        refine x_iconst (pc := 406) (v := 1) dL_law_406 (by decide) ?_
        refine x_iadd (pc := 407) dL_law_407 ?_
        replace hf := bd_s hf; obtain ⟨v408, e408, hf⟩ := hf
        refine x_ldSo (pc := 408) dL_law_408 e408 ?_
        refine x_aloadS (pc := 409) dL_law_409 rfl ?_
        refine x_iload_n (pc := 410) (x := x3) dL_law_410 rfl ?_
        refine x_iconst (pc := 411) (v := 2) dL_law_411 (by decide) ?_
        refine x_iadd (pc := 412) dL_law_412 ?_
        replace hf := bd_s hf; obtain ⟨v413, e413, hf⟩ := hf
        refine x_ldSo (pc := 413) dL_law_413 e413 ?_
        refine x_aloadS (pc := 414) dL_law_414 rfl ?_
        refine x_iload_n (pc := 415) (x := x3) dL_law_415 rfl ?_
        refine x_iconst (pc := 416) (v := 3) dL_law_416 (by decide) ?_
        refine x_iadd (pc := 417) dL_law_417 ?_
        replace hf := bd_s hf; obtain ⟨v418, e418, hf⟩ := hf
        refine x_ldSo (pc := 418) dL_law_418 e418 ?_
        replace hf := bd_s hf; obtain ⟨u419, i419, hf⟩ := hf
        replace hf := bd2_s hf; obtain ⟨v419, h419, e419, hf⟩ := hf
        refine x_cVi (pc := 419) (M' := mX8_waterAt) (as := [.int (v408), .int (v413), .int (v418)]) (st := [.int (v400)]) (a := x2) (ci := 8) dL_law_419 mo_X8_waterAt lk_L_43 im_X8_waterAt se_X8_waterAt rfl ⟨Nat.le_of_ble_eq_true rfl, Nat.le_of_ble_eq_true rfl⟩ rfl (Nat.le_of_ble_eq_true rfl) rfl i419 (tm_X8_waterAt e419) ?_
        refine x_icmp_eq (pc := 422) (tgt := 1331) (x := v400) (y := v419) dL_law_422 rfl (fun hc => ?_) (fun hc => ?_)
        · replace hf := it_t hc hf
          refine x_iinc (pc := 1331) (x := x3) (v := x3 + 6) (ls' := [some (.retAddr 0), some (va_rf (x1)), some (va_rf (x2)), some (.int (x3 + 6))]) dL_law_1331 rfl rfl (by decide) rfl ?_
          refine x_goto (pc := 1334) (tgt := 18) dL_law_1334 rfl ?_
          exact ih hf
        · replace hf := it_f hc hf
          refine x_iconst (pc := 425) (v := 0) dL_law_425 (by decide) ?_
          obtain ⟨rfl, rfl⟩ := ret_s hf
          exact x_retz (pc := 426) dL_law_426 rfl (by decide)
      replace hf := it_f hc6 hf
      by_cases hc7 : (v29 &&& 63) = 7
      · replace hf := it_t hc7 hf
        refine x_tabK (pc := 33) (k := 7) (tgt := 427) dL_law_33 hc7 (by decide) (by decide) (by rfl) rfl ?_
        refine x_aload_n (pc := 427) (a := x1) dL_law_427 rfl ?_
        refine x_aloadS (pc := 428) dL_law_428 rfl ?_
        refine x_iload_n (pc := 429) (x := x3) dL_law_429 rfl ?_
        refine x_iconst (pc := 430) (v := 1) dL_law_430 (by decide) ?_
        refine x_iadd (pc := 431) dL_law_431 ?_
        replace hf := bd_s hf; obtain ⟨v432, e432, hf⟩ := hf
        refine x_ldSo (pc := 432) dL_law_432 e432 ?_
        refine x_aloadS (pc := 433) dL_law_433 rfl ?_
        refine x_iload_n (pc := 434) (x := x3) dL_law_434 rfl ?_
        refine x_iconst (pc := 435) (v := 2) dL_law_435 (by decide) ?_
        refine x_iadd (pc := 436) dL_law_436 ?_
        replace hf := bd_s hf; obtain ⟨v437, e437, hf⟩ := hf
        refine x_ldSo (pc := 437) dL_law_437 e437 ?_
        refine x_aloadS (pc := 438) dL_law_438 rfl ?_
        refine x_iload_n (pc := 439) (x := x3) dL_law_439 rfl ?_
        refine x_iconst (pc := 440) (v := 3) dL_law_440 (by decide) ?_
        refine x_iadd (pc := 441) dL_law_441 ?_
        replace hf := bd_s hf; obtain ⟨v442, e442, hf⟩ := hf
        refine x_ldSo (pc := 442) dL_law_442 e442 ?_
        replace hf := bd_s hf; obtain ⟨u443, i443, hf⟩ := hf
        replace hf := bd2_s hf; obtain ⟨v443, h443, e443, hf⟩ := hf
        refine x_cVi (pc := 443) (M' := mX7_runs) (as := [.int (v432), .int (v437), .int (v442)]) (st := []) (a := x1) (ci := 7) dL_law_443 mo_X7_runs lk_L_44 im_X7_runs se_X7_runs rfl ⟨Nat.le_of_ble_eq_true rfl, Nat.le_of_ble_eq_true rfl⟩ rfl (Nat.le_of_ble_eq_true rfl) rfl i443 (tm_X7_runs e443) ?_
        refine x_aload_n (pc := 446) (a := x2) dL_law_446 rfl ?_
        refine x_aloadS (pc := 447) dL_law_447 rfl ?_
        refine x_iload_n (pc := 448) (x := x3) dL_law_448 rfl ?_
        refine x_iconst (pc := 449) (v := 1) dL_law_449 (by decide) ?_
        refine x_iadd (pc := 450) dL_law_450 ?_
        replace hf := bd_s hf; obtain ⟨v451, e451, hf⟩ := hf
        refine x_ldSo (pc := 451) dL_law_451 e451 ?_
        refine x_aloadS (pc := 452) dL_law_452 rfl ?_
        refine x_iload_n (pc := 453) (x := x3) dL_law_453 rfl ?_
        refine x_iconst (pc := 454) (v := 2) dL_law_454 (by decide) ?_
        refine x_iadd (pc := 455) dL_law_455 ?_
        replace hf := bd_s hf; obtain ⟨v456, e456, hf⟩ := hf
        refine x_ldSo (pc := 456) dL_law_456 e456 ?_
        refine x_aloadS (pc := 457) dL_law_457 rfl ?_
        refine x_iload_n (pc := 458) (x := x3) dL_law_458 rfl ?_
        refine x_iconst (pc := 459) (v := 3) dL_law_459 (by decide) ?_
        refine x_iadd (pc := 460) dL_law_460 ?_
        replace hf := bd_s hf; obtain ⟨v461, e461, hf⟩ := hf
        refine x_ldSo (pc := 461) dL_law_461 e461 ?_
        replace hf := bd_s hf; obtain ⟨u462, i462, hf⟩ := hf
        replace hf := bd2_s hf; obtain ⟨v462, h462, e462, hf⟩ := hf
        refine x_cVi (pc := 462) (M' := mX8_runs) (as := [.int (v451), .int (v456), .int (v461)]) (st := [.int (v443)]) (a := x2) (ci := 8) dL_law_462 mo_X8_runs lk_L_47 im_X8_runs se_X8_runs rfl ⟨Nat.le_of_ble_eq_true rfl, Nat.le_of_ble_eq_true rfl⟩ rfl (Nat.le_of_ble_eq_true rfl) rfl i462 (tm_X8_runs e462) ?_
        refine x_icmp_eq (pc := 465) (tgt := 1331) (x := v443) (y := v462) dL_law_465 rfl (fun hc => ?_) (fun hc => ?_)
        · replace hf := it_t hc hf
          refine x_iinc (pc := 1331) (x := x3) (v := x3 + 6) (ls' := [some (.retAddr 0), some (va_rf (x1)), some (va_rf (x2)), some (.int (x3 + 6))]) dL_law_1331 rfl rfl (by decide) rfl ?_
          refine x_goto (pc := 1334) (tgt := 18) dL_law_1334 rfl ?_
          exact ih hf
        · replace hf := it_f hc hf
          refine x_iconst (pc := 468) (v := 0) dL_law_468 (by decide) ?_
          obtain ⟨rfl, rfl⟩ := ret_s hf
          exact x_retz (pc := 469) dL_law_469 rfl (by decide)
      replace hf := it_f hc7 hf
      by_cases hc8 : (v29 &&& 63) = 8
      · replace hf := it_t hc8 hf
        refine x_tabK (pc := 33) (k := 8) (tgt := 470) dL_law_33 hc8 (by decide) (by decide) (by rfl) rfl ?_
        refine x_aload_n (pc := 470) (a := x1) dL_law_470 rfl ?_
        refine x_aloadS (pc := 471) dL_law_471 rfl ?_
        refine x_iload_n (pc := 472) (x := x3) dL_law_472 rfl ?_
        refine x_iconst (pc := 473) (v := 1) dL_law_473 (by decide) ?_
        refine x_iadd (pc := 474) dL_law_474 ?_
        replace hf := bd_s hf; obtain ⟨v475, e475, hf⟩ := hf
        refine x_ldSo (pc := 475) dL_law_475 e475 ?_
        refine x_aloadS (pc := 476) dL_law_476 rfl ?_
        refine x_iload_n (pc := 477) (x := x3) dL_law_477 rfl ?_
        refine x_iconst (pc := 478) (v := 2) dL_law_478 (by decide) ?_
        refine x_iadd (pc := 479) dL_law_479 ?_
        replace hf := bd_s hf; obtain ⟨v480, e480, hf⟩ := hf
        refine x_ldSo (pc := 480) dL_law_480 e480 ?_
        refine x_aloadS (pc := 481) dL_law_481 rfl ?_
        refine x_iload_n (pc := 482) (x := x3) dL_law_482 rfl ?_
        refine x_iconst (pc := 483) (v := 3) dL_law_483 (by decide) ?_
        refine x_iadd (pc := 484) dL_law_484 ?_
        replace hf := bd_s hf; obtain ⟨v485, e485, hf⟩ := hf
        refine x_ldSo (pc := 485) dL_law_485 e485 ?_
        refine x_aloadS (pc := 486) dL_law_486 rfl ?_
        refine x_iload_n (pc := 487) (x := x3) dL_law_487 rfl ?_
        refine x_iconst (pc := 488) (v := 4) dL_law_488 (by decide) ?_
        refine x_iadd (pc := 489) dL_law_489 ?_
        replace hf := bd_s hf; obtain ⟨v490, e490, hf⟩ := hf
        refine x_ldSo (pc := 490) dL_law_490 e490 ?_
        refine x_aloadS (pc := 491) dL_law_491 rfl ?_
        refine x_iload_n (pc := 492) (x := x3) dL_law_492 rfl ?_
        refine x_iconst (pc := 493) (v := 5) dL_law_493 (by decide) ?_
        refine x_iadd (pc := 494) dL_law_494 ?_
        replace hf := bd_s hf; obtain ⟨v495, e495, hf⟩ := hf
        refine x_ldSo (pc := 495) dL_law_495 e495 ?_
        replace hf := bd_s hf; obtain ⟨u496, i496, hf⟩ := hf
        replace hf := bd2_s hf; obtain ⟨v496, h496, e496, hf⟩ := hf
        refine x_cVi (pc := 496) (M' := mX7_trip) (as := [.int (v475), .int (v480), .int (v485), .int (v490), .int (v495)]) (st := []) (a := x1) (ci := 7) dL_law_496 mo_X7_trip lk_L_48 im_X7_trip se_X7_trip rfl ⟨Nat.le_of_ble_eq_true rfl, Nat.le_of_ble_eq_true rfl⟩ rfl (Nat.le_of_ble_eq_true rfl) rfl i496 (tm_X7_trip e496) ?_
        refine x_aload_n (pc := 499) (a := x2) dL_law_499 rfl ?_
        refine x_aloadS (pc := 500) dL_law_500 rfl ?_
        refine x_iload_n (pc := 501) (x := x3) dL_law_501 rfl ?_
        refine x_iconst (pc := 502) (v := 1) dL_law_502 (by decide) ?_
        refine x_iadd (pc := 503) dL_law_503 ?_
        replace hf := bd_s hf; obtain ⟨v504, e504, hf⟩ := hf
        refine x_ldSo (pc := 504) dL_law_504 e504 ?_
        refine x_aloadS (pc := 505) dL_law_505 rfl ?_
        refine x_iload_n (pc := 506) (x := x3) dL_law_506 rfl ?_
        refine x_iconst (pc := 507) (v := 2) dL_law_507 (by decide) ?_
        refine x_iadd (pc := 508) dL_law_508 ?_
        replace hf := bd_s hf; obtain ⟨v509, e509, hf⟩ := hf
        refine x_ldSo (pc := 509) dL_law_509 e509 ?_
        refine x_aloadS (pc := 510) dL_law_510 rfl ?_
        refine x_iload_n (pc := 511) (x := x3) dL_law_511 rfl ?_
        refine x_iconst (pc := 512) (v := 3) dL_law_512 (by decide) ?_
        refine x_iadd (pc := 513) dL_law_513 ?_
        replace hf := bd_s hf; obtain ⟨v514, e514, hf⟩ := hf
        refine x_ldSo (pc := 514) dL_law_514 e514 ?_
        refine x_aloadS (pc := 515) dL_law_515 rfl ?_
        refine x_iload_n (pc := 516) (x := x3) dL_law_516 rfl ?_
        refine x_iconst (pc := 517) (v := 4) dL_law_517 (by decide) ?_
        refine x_iadd (pc := 518) dL_law_518 ?_
        replace hf := bd_s hf; obtain ⟨v519, e519, hf⟩ := hf
        refine x_ldSo (pc := 519) dL_law_519 e519 ?_
        refine x_aloadS (pc := 520) dL_law_520 rfl ?_
        refine x_iload_n (pc := 521) (x := x3) dL_law_521 rfl ?_
        refine x_iconst (pc := 522) (v := 5) dL_law_522 (by decide) ?_
        refine x_iadd (pc := 523) dL_law_523 ?_
        replace hf := bd_s hf; obtain ⟨v524, e524, hf⟩ := hf
        refine x_ldSo (pc := 524) dL_law_524 e524 ?_
        replace hf := bd_s hf; obtain ⟨u525, i525, hf⟩ := hf
        replace hf := bd2_s hf; obtain ⟨v525, h525, e525, hf⟩ := hf
        refine x_cVi (pc := 525) (M' := mX8_trip) (as := [.int (v504), .int (v509), .int (v514), .int (v519), .int (v524)]) (st := [.int (v496)]) (a := x2) (ci := 8) dL_law_525 mo_X8_trip lk_L_52 im_X8_trip se_X8_trip rfl ⟨Nat.le_of_ble_eq_true rfl, Nat.le_of_ble_eq_true rfl⟩ rfl (Nat.le_of_ble_eq_true rfl) rfl i525 (tm_X8_trip e525) ?_
        refine x_icmp_eq (pc := 528) (tgt := 1331) (x := v496) (y := v525) dL_law_528 rfl (fun hc => ?_) (fun hc => ?_)
        · replace hf := it_t hc hf
          refine x_iinc (pc := 1331) (x := x3) (v := x3 + 6) (ls' := [some (.retAddr 0), some (va_rf (x1)), some (va_rf (x2)), some (.int (x3 + 6))]) dL_law_1331 rfl rfl (by decide) rfl ?_
          refine x_goto (pc := 1334) (tgt := 18) dL_law_1334 rfl ?_
          exact ih hf
        · replace hf := it_f hc hf
          refine x_iconst (pc := 531) (v := 0) dL_law_531 (by decide) ?_
          obtain ⟨rfl, rfl⟩ := ret_s hf
          exact x_retz (pc := 532) dL_law_532 rfl (by decide)
      replace hf := it_f hc8 hf
      by_cases hc9 : (v29 &&& 63) = 9
      · replace hf := it_t hc9 hf
        refine x_tabK (pc := 33) (k := 9) (tgt := 533) dL_law_33 hc9 (by decide) (by decide) (by rfl) rfl ?_
        refine x_aload_n (pc := 533) (a := x1) dL_law_533 rfl ?_
        refine x_aloadS (pc := 534) dL_law_534 rfl ?_
        refine x_iload_n (pc := 535) (x := x3) dL_law_535 rfl ?_
        refine x_iconst (pc := 536) (v := 1) dL_law_536 (by decide) ?_
        refine x_iadd (pc := 537) dL_law_537 ?_
        replace hf := bd_s hf; obtain ⟨v538, e538, hf⟩ := hf
        refine x_ldSo (pc := 538) dL_law_538 e538 ?_
        refine x_aloadS (pc := 539) dL_law_539 rfl ?_
        refine x_iload_n (pc := 540) (x := x3) dL_law_540 rfl ?_
        refine x_iconst (pc := 541) (v := 2) dL_law_541 (by decide) ?_
        refine x_iadd (pc := 542) dL_law_542 ?_
        replace hf := bd_s hf; obtain ⟨v543, e543, hf⟩ := hf
        refine x_ldSo (pc := 543) dL_law_543 e543 ?_
        replace hf := bd_s hf; obtain ⟨u544, i544, hf⟩ := hf
        replace hf := bd2_s hf; obtain ⟨v544, h544, e544, hf⟩ := hf
        refine x_cVi (pc := 544) (M' := mX7_as) (as := [.int (v538), .int (v543)]) (st := []) (a := x1) (ci := 7) dL_law_544 mo_X7_as lk_L_53 im_X7_as se_X7_as rfl ⟨Nat.le_of_ble_eq_true rfl, Nat.le_of_ble_eq_true rfl⟩ rfl (Nat.le_of_ble_eq_true rfl) rfl i544 (tm_X7_as e544) ?_
        refine x_aload_n (pc := 547) (a := x2) dL_law_547 rfl ?_
        refine x_aloadS (pc := 548) dL_law_548 rfl ?_
        refine x_iload_n (pc := 549) (x := x3) dL_law_549 rfl ?_
        refine x_iconst (pc := 550) (v := 1) dL_law_550 (by decide) ?_
        refine x_iadd (pc := 551) dL_law_551 ?_
        replace hf := bd_s hf; obtain ⟨v552, e552, hf⟩ := hf
        refine x_ldSo (pc := 552) dL_law_552 e552 ?_
        refine x_aloadS (pc := 553) dL_law_553 rfl ?_
        refine x_iload_n (pc := 554) (x := x3) dL_law_554 rfl ?_
        refine x_iconst (pc := 555) (v := 2) dL_law_555 (by decide) ?_
        refine x_iadd (pc := 556) dL_law_556 ?_
        replace hf := bd_s hf; obtain ⟨v557, e557, hf⟩ := hf
        refine x_ldSo (pc := 557) dL_law_557 e557 ?_
        replace hf := bd_s hf; obtain ⟨u558, i558, hf⟩ := hf
        replace hf := bd2_s hf; obtain ⟨v558, h558, e558, hf⟩ := hf
        refine x_cVi (pc := 558) (M' := mX8_as) (as := [.int (v552), .int (v557)]) (st := [.int (v544)]) (a := x2) (ci := 8) dL_law_558 mo_X8_as lk_L_57 im_X8_as se_X8_as rfl ⟨Nat.le_of_ble_eq_true rfl, Nat.le_of_ble_eq_true rfl⟩ rfl (Nat.le_of_ble_eq_true rfl) rfl i558 (tm_X8_as e558) ?_
        refine x_icmp_eq (pc := 561) (tgt := 1331) (x := v544) (y := v558) dL_law_561 rfl (fun hc => ?_) (fun hc => ?_)
        · replace hf := it_t hc hf
          refine x_iinc (pc := 1331) (x := x3) (v := x3 + 6) (ls' := [some (.retAddr 0), some (va_rf (x1)), some (va_rf (x2)), some (.int (x3 + 6))]) dL_law_1331 rfl rfl (by decide) rfl ?_
          refine x_goto (pc := 1334) (tgt := 18) dL_law_1334 rfl ?_
          exact ih hf
        · replace hf := it_f hc hf
          refine x_iconst (pc := 564) (v := 0) dL_law_564 (by decide) ?_
          obtain ⟨rfl, rfl⟩ := ret_s hf
          exact x_retz (pc := 565) dL_law_565 rfl (by decide)
      replace hf := it_f hc9 hf
      by_cases hc10 : (v29 &&& 63) = 10
      · replace hf := it_t hc10 hf
        refine x_tabK (pc := 33) (k := 10) (tgt := 566) dL_law_33 hc10 (by decide) (by decide) (by rfl) rfl ?_
        refine x_aload_n (pc := 566) (a := x1) dL_law_566 rfl ?_
        refine x_aloadS (pc := 567) dL_law_567 rfl ?_
        refine x_iload_n (pc := 568) (x := x3) dL_law_568 rfl ?_
        refine x_iconst (pc := 569) (v := 1) dL_law_569 (by decide) ?_
        refine x_iadd (pc := 570) dL_law_570 ?_
        replace hf := bd_s hf; obtain ⟨v571, e571, hf⟩ := hf
        refine x_ldSo (pc := 571) dL_law_571 e571 ?_
        refine x_aloadS (pc := 572) dL_law_572 rfl ?_
        refine x_iload_n (pc := 573) (x := x3) dL_law_573 rfl ?_
        refine x_iconst (pc := 574) (v := 2) dL_law_574 (by decide) ?_
        refine x_iadd (pc := 575) dL_law_575 ?_
        replace hf := bd_s hf; obtain ⟨v576, e576, hf⟩ := hf
        refine x_ldSo (pc := 576) dL_law_576 e576 ?_
        replace hf := bd_s hf; obtain ⟨u577, i577, hf⟩ := hf
        replace hf := bd2_s hf; obtain ⟨v577, h577, e577, hf⟩ := hf
        refine x_cVi (pc := 577) (M' := mX7_of) (as := [.int (v571), .int (v576)]) (st := []) (a := x1) (ci := 7) dL_law_577 mo_X7_of lk_L_58 im_X7_of se_X7_of rfl ⟨Nat.le_of_ble_eq_true rfl, Nat.le_of_ble_eq_true rfl⟩ rfl (Nat.le_of_ble_eq_true rfl) rfl i577 (tm_X7_of e577) ?_
        refine x_aload_n (pc := 580) (a := x2) dL_law_580 rfl ?_
        refine x_aloadS (pc := 581) dL_law_581 rfl ?_
        refine x_iload_n (pc := 582) (x := x3) dL_law_582 rfl ?_
        refine x_iconst (pc := 583) (v := 1) dL_law_583 (by decide) ?_
        refine x_iadd (pc := 584) dL_law_584 ?_
        replace hf := bd_s hf; obtain ⟨v585, e585, hf⟩ := hf
        refine x_ldSo (pc := 585) dL_law_585 e585 ?_
        refine x_aloadS (pc := 586) dL_law_586 rfl ?_
        refine x_iload_n (pc := 587) (x := x3) dL_law_587 rfl ?_
        refine x_iconst (pc := 588) (v := 2) dL_law_588 (by decide) ?_
        refine x_iadd (pc := 589) dL_law_589 ?_
        replace hf := bd_s hf; obtain ⟨v590, e590, hf⟩ := hf
        refine x_ldSo (pc := 590) dL_law_590 e590 ?_
        replace hf := bd_s hf; obtain ⟨u591, i591, hf⟩ := hf
        replace hf := bd2_s hf; obtain ⟨v591, h591, e591, hf⟩ := hf
        refine x_cVi (pc := 591) (M' := mX8_of) (as := [.int (v585), .int (v590)]) (st := [.int (v577)]) (a := x2) (ci := 8) dL_law_591 mo_X8_of lk_L_61 im_X8_of se_X8_of rfl ⟨Nat.le_of_ble_eq_true rfl, Nat.le_of_ble_eq_true rfl⟩ rfl (Nat.le_of_ble_eq_true rfl) rfl i591 (tm_X8_of e591) ?_
        refine x_icmp_eq (pc := 594) (tgt := 1331) (x := v577) (y := v591) dL_law_594 rfl (fun hc => ?_) (fun hc => ?_)
        · replace hf := it_t hc hf
          refine x_iinc (pc := 1331) (x := x3) (v := x3 + 6) (ls' := [some (.retAddr 0), some (va_rf (x1)), some (va_rf (x2)), some (.int (x3 + 6))]) dL_law_1331 rfl rfl (by decide) rfl ?_
          refine x_goto (pc := 1334) (tgt := 18) dL_law_1334 rfl ?_
          exact ih hf
        · replace hf := it_f hc hf
          refine x_iconst (pc := 597) (v := 0) dL_law_597 (by decide) ?_
          obtain ⟨rfl, rfl⟩ := ret_s hf
          exact x_retz (pc := 598) dL_law_598 rfl (by decide)
      replace hf := it_f hc10 hf
      by_cases hc11 : (v29 &&& 63) = 11
      · replace hf := it_t hc11 hf
        refine x_tabK (pc := 33) (k := 11) (tgt := 599) dL_law_33 hc11 (by decide) (by decide) (by rfl) rfl ?_
        refine x_aload_n (pc := 599) (a := x1) dL_law_599 rfl ?_
        refine x_aloadS (pc := 600) dL_law_600 rfl ?_
        refine x_iload_n (pc := 601) (x := x3) dL_law_601 rfl ?_
        refine x_iconst (pc := 602) (v := 1) dL_law_602 (by decide) ?_
        refine x_iadd (pc := 603) dL_law_603 ?_
        replace hf := bd_s hf; obtain ⟨v604, e604, hf⟩ := hf
        refine x_ldSo (pc := 604) dL_law_604 e604 ?_
        refine x_aloadS (pc := 605) dL_law_605 rfl ?_
        refine x_iload_n (pc := 606) (x := x3) dL_law_606 rfl ?_
        refine x_iconst (pc := 607) (v := 2) dL_law_607 (by decide) ?_
        refine x_iadd (pc := 608) dL_law_608 ?_
        replace hf := bd_s hf; obtain ⟨v609, e609, hf⟩ := hf
        refine x_ldSo (pc := 609) dL_law_609 e609 ?_
        replace hf := bd_s hf; obtain ⟨u610, i610, hf⟩ := hf
        replace hf := bd2_s hf; obtain ⟨v610, h610, e610, hf⟩ := hf
        refine x_cVi (pc := 610) (M' := mX7_launch) (as := [.int (v604), .int (v609)]) (st := []) (a := x1) (ci := 7) dL_law_610 mo_X7_launch lk_L_62 im_X7_launch se_X7_launch rfl ⟨Nat.le_of_ble_eq_true rfl, Nat.le_of_ble_eq_true rfl⟩ rfl (Nat.le_of_ble_eq_true rfl) rfl i610 (tm_X7_launch e610) ?_
        refine x_aload_n (pc := 613) (a := x2) dL_law_613 rfl ?_
        refine x_aloadS (pc := 614) dL_law_614 rfl ?_
        refine x_iload_n (pc := 615) (x := x3) dL_law_615 rfl ?_
        refine x_iconst (pc := 616) (v := 1) dL_law_616 (by decide) ?_
        refine x_iadd (pc := 617) dL_law_617 ?_
        replace hf := bd_s hf; obtain ⟨v618, e618, hf⟩ := hf
        refine x_ldSo (pc := 618) dL_law_618 e618 ?_
        refine x_aloadS (pc := 619) dL_law_619 rfl ?_
        refine x_iload_n (pc := 620) (x := x3) dL_law_620 rfl ?_
        refine x_iconst (pc := 621) (v := 2) dL_law_621 (by decide) ?_
        refine x_iadd (pc := 622) dL_law_622 ?_
        replace hf := bd_s hf; obtain ⟨v623, e623, hf⟩ := hf
        refine x_ldSo (pc := 623) dL_law_623 e623 ?_
        replace hf := bd_s hf; obtain ⟨u624, i624, hf⟩ := hf
        replace hf := bd2_s hf; obtain ⟨v624, h624, e624, hf⟩ := hf
        refine x_cVi (pc := 624) (M' := mX8_launch) (as := [.int (v618), .int (v623)]) (st := [.int (v610)]) (a := x2) (ci := 8) dL_law_624 mo_X8_launch lk_L_65 im_X8_launch se_X8_launch rfl ⟨Nat.le_of_ble_eq_true rfl, Nat.le_of_ble_eq_true rfl⟩ rfl (Nat.le_of_ble_eq_true rfl) rfl i624 (tm_X8_launch e624) ?_
        refine x_icmp_eq (pc := 627) (tgt := 1331) (x := v610) (y := v624) dL_law_627 rfl (fun hc => ?_) (fun hc => ?_)
        · replace hf := it_t hc hf
          refine x_iinc (pc := 1331) (x := x3) (v := x3 + 6) (ls' := [some (.retAddr 0), some (va_rf (x1)), some (va_rf (x2)), some (.int (x3 + 6))]) dL_law_1331 rfl rfl (by decide) rfl ?_
          refine x_goto (pc := 1334) (tgt := 18) dL_law_1334 rfl ?_
          exact ih hf
        · replace hf := it_f hc hf
          refine x_iconst (pc := 630) (v := 0) dL_law_630 (by decide) ?_
          obtain ⟨rfl, rfl⟩ := ret_s hf
          exact x_retz (pc := 631) dL_law_631 rfl (by decide)
      replace hf := it_f hc11 hf
      by_cases hc12 : (v29 &&& 63) = 12
      · replace hf := it_t hc12 hf
        refine x_tabK (pc := 33) (k := 12) (tgt := 632) dL_law_33 hc12 (by decide) (by decide) (by rfl) rfl ?_
        refine x_aload_n (pc := 632) (a := x1) dL_law_632 rfl ?_
        refine x_aloadS (pc := 633) dL_law_633 rfl ?_
        refine x_iload_n (pc := 634) (x := x3) dL_law_634 rfl ?_
        refine x_iconst (pc := 635) (v := 1) dL_law_635 (by decide) ?_
        refine x_iadd (pc := 636) dL_law_636 ?_
        replace hf := bd_s hf; obtain ⟨v637, e637, hf⟩ := hf
        refine x_ldSo (pc := 637) dL_law_637 e637 ?_
        refine x_aloadS (pc := 638) dL_law_638 rfl ?_
        refine x_iload_n (pc := 639) (x := x3) dL_law_639 rfl ?_
        refine x_iconst (pc := 640) (v := 2) dL_law_640 (by decide) ?_
        refine x_iadd (pc := 641) dL_law_641 ?_
        replace hf := bd_s hf; obtain ⟨v642, e642, hf⟩ := hf
        refine x_ldSo (pc := 642) dL_law_642 e642 ?_
        refine x_aloadS (pc := 643) dL_law_643 rfl ?_
        refine x_iload_n (pc := 644) (x := x3) dL_law_644 rfl ?_
        refine x_iconst (pc := 645) (v := 3) dL_law_645 (by decide) ?_
        refine x_iadd (pc := 646) dL_law_646 ?_
        replace hf := bd_s hf; obtain ⟨v647, e647, hf⟩ := hf
        refine x_ldSo (pc := 647) dL_law_647 e647 ?_
        replace hf := bd_s hf; obtain ⟨u648, i648, hf⟩ := hf
        replace hf := bd2_s hf; obtain ⟨v648, h648, e648, hf⟩ := hf
        refine x_cVi (pc := 648) (M' := mX7_night) (as := [.int (v637), .int (v642), .int (v647)]) (st := []) (a := x1) (ci := 7) dL_law_648 mo_X7_night lk_L_66 im_X7_night se_X7_night rfl ⟨Nat.le_of_ble_eq_true rfl, Nat.le_of_ble_eq_true rfl⟩ rfl (Nat.le_of_ble_eq_true rfl) rfl i648 (tm_X7_night e648) ?_
        refine x_aload_n (pc := 651) (a := x2) dL_law_651 rfl ?_
        refine x_aloadS (pc := 652) dL_law_652 rfl ?_
        refine x_iload_n (pc := 653) (x := x3) dL_law_653 rfl ?_
        refine x_iconst (pc := 654) (v := 1) dL_law_654 (by decide) ?_
        refine x_iadd (pc := 655) dL_law_655 ?_
        replace hf := bd_s hf; obtain ⟨v656, e656, hf⟩ := hf
        refine x_ldSo (pc := 656) dL_law_656 e656 ?_
        refine x_aloadS (pc := 657) dL_law_657 rfl ?_
        refine x_iload_n (pc := 658) (x := x3) dL_law_658 rfl ?_
        refine x_iconst (pc := 659) (v := 2) dL_law_659 (by decide) ?_
        refine x_iadd (pc := 660) dL_law_660 ?_
        replace hf := bd_s hf; obtain ⟨v661, e661, hf⟩ := hf
        refine x_ldSo (pc := 661) dL_law_661 e661 ?_
        refine x_aloadS (pc := 662) dL_law_662 rfl ?_
        refine x_iload_n (pc := 663) (x := x3) dL_law_663 rfl ?_
        refine x_iconst (pc := 664) (v := 3) dL_law_664 (by decide) ?_
        refine x_iadd (pc := 665) dL_law_665 ?_
        replace hf := bd_s hf; obtain ⟨v666, e666, hf⟩ := hf
        refine x_ldSo (pc := 666) dL_law_666 e666 ?_
        replace hf := bd_s hf; obtain ⟨u667, i667, hf⟩ := hf
        replace hf := bd2_s hf; obtain ⟨v667, h667, e667, hf⟩ := hf
        refine x_cVi (pc := 667) (M' := mX8_night) (as := [.int (v656), .int (v661), .int (v666)]) (st := [.int (v648)]) (a := x2) (ci := 8) dL_law_667 mo_X8_night lk_L_69 im_X8_night se_X8_night rfl ⟨Nat.le_of_ble_eq_true rfl, Nat.le_of_ble_eq_true rfl⟩ rfl (Nat.le_of_ble_eq_true rfl) rfl i667 (tm_X8_night e667) ?_
        refine x_icmp_eq (pc := 670) (tgt := 1331) (x := v648) (y := v667) dL_law_670 rfl (fun hc => ?_) (fun hc => ?_)
        · replace hf := it_t hc hf
          refine x_iinc (pc := 1331) (x := x3) (v := x3 + 6) (ls' := [some (.retAddr 0), some (va_rf (x1)), some (va_rf (x2)), some (.int (x3 + 6))]) dL_law_1331 rfl rfl (by decide) rfl ?_
          refine x_goto (pc := 1334) (tgt := 18) dL_law_1334 rfl ?_
          exact ih hf
        · replace hf := it_f hc hf
          refine x_iconst (pc := 673) (v := 0) dL_law_673 (by decide) ?_
          obtain ⟨rfl, rfl⟩ := ret_s hf
          exact x_retz (pc := 674) dL_law_674 rfl (by decide)
      replace hf := it_f hc12 hf
      by_cases hc13 : (v29 &&& 63) = 13
      · replace hf := it_t hc13 hf
        refine x_tabK (pc := 33) (k := 13) (tgt := 675) dL_law_33 hc13 (by decide) (by decide) (by rfl) rfl ?_
        refine x_aload_n (pc := 675) (a := x1) dL_law_675 rfl ?_
        refine x_aloadS (pc := 676) dL_law_676 rfl ?_
        refine x_iload_n (pc := 677) (x := x3) dL_law_677 rfl ?_
        refine x_iconst (pc := 678) (v := 1) dL_law_678 (by decide) ?_
        refine x_iadd (pc := 679) dL_law_679 ?_
        replace hf := bd_s hf; obtain ⟨v680, e680, hf⟩ := hf
        refine x_ldSo (pc := 680) dL_law_680 e680 ?_
        refine x_aloadS (pc := 681) dL_law_681 rfl ?_
        refine x_iload_n (pc := 682) (x := x3) dL_law_682 rfl ?_
        refine x_iconst (pc := 683) (v := 2) dL_law_683 (by decide) ?_
        refine x_iadd (pc := 684) dL_law_684 ?_
        replace hf := bd_s hf; obtain ⟨v685, e685, hf⟩ := hf
        refine x_ldSo (pc := 685) dL_law_685 e685 ?_
        replace hf := bd_s hf; obtain ⟨u686, i686, hf⟩ := hf
        replace hf := bd2_s hf; obtain ⟨v686, h686, e686, hf⟩ := hf
        refine x_cVi (pc := 686) (M' := mX7_at) (as := [.int (v680), .int (v685)]) (st := []) (a := x1) (ci := 7) dL_law_686 mo_X7_at lk_L_70 im_X7_at se_X7_at rfl ⟨Nat.le_of_ble_eq_true rfl, Nat.le_of_ble_eq_true rfl⟩ rfl (Nat.le_of_ble_eq_true rfl) rfl i686 (tm_X7_at e686) ?_
        refine x_aload_n (pc := 689) (a := x2) dL_law_689 rfl ?_
        refine x_aloadS (pc := 690) dL_law_690 rfl ?_
        refine x_iload_n (pc := 691) (x := x3) dL_law_691 rfl ?_
        refine x_iconst (pc := 692) (v := 1) dL_law_692 (by decide) ?_
        refine x_iadd (pc := 693) dL_law_693 ?_
        replace hf := bd_s hf; obtain ⟨v694, e694, hf⟩ := hf
        refine x_ldSo (pc := 694) dL_law_694 e694 ?_
        refine x_aloadS (pc := 695) dL_law_695 rfl ?_
        refine x_iload_n (pc := 696) (x := x3) dL_law_696 rfl ?_
        refine x_iconst (pc := 697) (v := 2) dL_law_697 (by decide) ?_
        refine x_iadd (pc := 698) dL_law_698 ?_
        replace hf := bd_s hf; obtain ⟨v699, e699, hf⟩ := hf
        refine x_ldSo (pc := 699) dL_law_699 e699 ?_
        replace hf := bd_s hf; obtain ⟨u700, i700, hf⟩ := hf
        replace hf := bd2_s hf; obtain ⟨v700, h700, e700, hf⟩ := hf
        refine x_cVi (pc := 700) (M' := mX8_at) (as := [.int (v694), .int (v699)]) (st := [.int (v686)]) (a := x2) (ci := 8) dL_law_700 mo_X8_at lk_L_73 im_X8_at se_X8_at rfl ⟨Nat.le_of_ble_eq_true rfl, Nat.le_of_ble_eq_true rfl⟩ rfl (Nat.le_of_ble_eq_true rfl) rfl i700 (tm_X8_at e700) ?_
        refine x_icmp_eq (pc := 703) (tgt := 1331) (x := v686) (y := v700) dL_law_703 rfl (fun hc => ?_) (fun hc => ?_)
        · replace hf := it_t hc hf
          refine x_iinc (pc := 1331) (x := x3) (v := x3 + 6) (ls' := [some (.retAddr 0), some (va_rf (x1)), some (va_rf (x2)), some (.int (x3 + 6))]) dL_law_1331 rfl rfl (by decide) rfl ?_
          refine x_goto (pc := 1334) (tgt := 18) dL_law_1334 rfl ?_
          exact ih hf
        · replace hf := it_f hc hf
          refine x_iconst (pc := 706) (v := 0) dL_law_706 (by decide) ?_
          obtain ⟨rfl, rfl⟩ := ret_s hf
          exact x_retz (pc := 707) dL_law_707 rfl (by decide)
      replace hf := it_f hc13 hf
      by_cases hc14 : (v29 &&& 63) = 14
      · replace hf := it_t hc14 hf
        refine x_tabK (pc := 33) (k := 14) (tgt := 708) dL_law_33 hc14 (by decide) (by decide) (by rfl) rfl ?_
        refine x_aload_n (pc := 708) (a := x1) dL_law_708 rfl ?_
        refine x_aloadS (pc := 709) dL_law_709 rfl ?_
        refine x_iload_n (pc := 710) (x := x3) dL_law_710 rfl ?_
        refine x_iconst (pc := 711) (v := 1) dL_law_711 (by decide) ?_
        refine x_iadd (pc := 712) dL_law_712 ?_
        replace hf := bd_s hf; obtain ⟨v713, e713, hf⟩ := hf
        refine x_ldSo (pc := 713) dL_law_713 e713 ?_
        refine x_aloadS (pc := 714) dL_law_714 rfl ?_
        refine x_iload_n (pc := 715) (x := x3) dL_law_715 rfl ?_
        refine x_iconst (pc := 716) (v := 2) dL_law_716 (by decide) ?_
        refine x_iadd (pc := 717) dL_law_717 ?_
        replace hf := bd_s hf; obtain ⟨v718, e718, hf⟩ := hf
        refine x_ldSo (pc := 718) dL_law_718 e718 ?_
        replace hf := bd_s hf; obtain ⟨u719, i719, hf⟩ := hf
        replace hf := bd2_s hf; obtain ⟨v719, h719, e719, hf⟩ := hf
        refine x_cVi (pc := 719) (M' := mX7_who) (as := [.int (v713), .int (v718)]) (st := []) (a := x1) (ci := 7) dL_law_719 mo_X7_who lk_L_74 im_X7_who se_X7_who rfl ⟨Nat.le_of_ble_eq_true rfl, Nat.le_of_ble_eq_true rfl⟩ rfl (Nat.le_of_ble_eq_true rfl) rfl i719 (tm_X7_who e719) ?_
        refine x_aload_n (pc := 722) (a := x2) dL_law_722 rfl ?_
        refine x_aloadS (pc := 723) dL_law_723 rfl ?_
        refine x_iload_n (pc := 724) (x := x3) dL_law_724 rfl ?_
        refine x_iconst (pc := 725) (v := 1) dL_law_725 (by decide) ?_
        refine x_iadd (pc := 726) dL_law_726 ?_
        replace hf := bd_s hf; obtain ⟨v727, e727, hf⟩ := hf
        refine x_ldSo (pc := 727) dL_law_727 e727 ?_
        refine x_aloadS (pc := 728) dL_law_728 rfl ?_
        refine x_iload_n (pc := 729) (x := x3) dL_law_729 rfl ?_
        refine x_iconst (pc := 730) (v := 2) dL_law_730 (by decide) ?_
        refine x_iadd (pc := 731) dL_law_731 ?_
        replace hf := bd_s hf; obtain ⟨v732, e732, hf⟩ := hf
        refine x_ldSo (pc := 732) dL_law_732 e732 ?_
        replace hf := bd_s hf; obtain ⟨u733, i733, hf⟩ := hf
        replace hf := bd2_s hf; obtain ⟨v733, h733, e733, hf⟩ := hf
        refine x_cVi (pc := 733) (M' := mX8_who) (as := [.int (v727), .int (v732)]) (st := [.int (v719)]) (a := x2) (ci := 8) dL_law_733 mo_X8_who lk_L_77 im_X8_who se_X8_who rfl ⟨Nat.le_of_ble_eq_true rfl, Nat.le_of_ble_eq_true rfl⟩ rfl (Nat.le_of_ble_eq_true rfl) rfl i733 (tm_X8_who e733) ?_
        refine x_icmp_eq (pc := 736) (tgt := 1331) (x := v719) (y := v733) dL_law_736 rfl (fun hc => ?_) (fun hc => ?_)
        · replace hf := it_t hc hf
          refine x_iinc (pc := 1331) (x := x3) (v := x3 + 6) (ls' := [some (.retAddr 0), some (va_rf (x1)), some (va_rf (x2)), some (.int (x3 + 6))]) dL_law_1331 rfl rfl (by decide) rfl ?_
          refine x_goto (pc := 1334) (tgt := 18) dL_law_1334 rfl ?_
          exact ih hf
        · replace hf := it_f hc hf
          refine x_iconst (pc := 739) (v := 0) dL_law_739 (by decide) ?_
          obtain ⟨rfl, rfl⟩ := ret_s hf
          exact x_retz (pc := 740) dL_law_740 rfl (by decide)
      replace hf := it_f hc14 hf
      by_cases hc15 : (v29 &&& 63) = 15
      · replace hf := it_t hc15 hf
        refine x_tabK (pc := 33) (k := 15) (tgt := 741) dL_law_33 hc15 (by decide) (by decide) (by rfl) rfl ?_
        refine x_aload_n (pc := 741) (a := x1) dL_law_741 rfl ?_
        refine x_aloadS (pc := 742) dL_law_742 rfl ?_
        refine x_iload_n (pc := 743) (x := x3) dL_law_743 rfl ?_
        refine x_iconst (pc := 744) (v := 1) dL_law_744 (by decide) ?_
        refine x_iadd (pc := 745) dL_law_745 ?_
        replace hf := bd_s hf; obtain ⟨v746, e746, hf⟩ := hf
        refine x_ldSo (pc := 746) dL_law_746 e746 ?_
        replace hf := bd_s hf; obtain ⟨u747, i747, hf⟩ := hf
        replace hf := bd2_s hf; obtain ⟨v747, h747, e747, hf⟩ := hf
        refine x_cVi (pc := 747) (M' := mX7_plan) (as := [.int (v746)]) (st := []) (a := x1) (ci := 7) dL_law_747 mo_X7_plan lk_L_78 im_X7_plan se_X7_plan rfl ⟨Nat.le_of_ble_eq_true rfl, Nat.le_of_ble_eq_true rfl⟩ rfl (Nat.le_of_ble_eq_true rfl) rfl i747 (tm_X7_plan e747) ?_
        refine x_aload_n (pc := 750) (a := x2) dL_law_750 rfl ?_
        refine x_aloadS (pc := 751) dL_law_751 rfl ?_
        refine x_iload_n (pc := 752) (x := x3) dL_law_752 rfl ?_
        refine x_iconst (pc := 753) (v := 1) dL_law_753 (by decide) ?_
        refine x_iadd (pc := 754) dL_law_754 ?_
        replace hf := bd_s hf; obtain ⟨v755, e755, hf⟩ := hf
        refine x_ldSo (pc := 755) dL_law_755 e755 ?_
        replace hf := bd_s hf; obtain ⟨u756, i756, hf⟩ := hf
        replace hf := bd2_s hf; obtain ⟨v756, h756, e756, hf⟩ := hf
        refine x_cVi (pc := 756) (M' := mX8_plan) (as := [.int (v755)]) (st := [.int (v747)]) (a := x2) (ci := 8) dL_law_756 mo_X8_plan lk_L_81 im_X8_plan se_X8_plan rfl ⟨Nat.le_of_ble_eq_true rfl, Nat.le_of_ble_eq_true rfl⟩ rfl (Nat.le_of_ble_eq_true rfl) rfl i756 (tm_X8_plan e756) ?_
        refine x_icmp_eq (pc := 759) (tgt := 1331) (x := v747) (y := v756) dL_law_759 rfl (fun hc => ?_) (fun hc => ?_)
        · replace hf := it_t hc hf
          refine x_iinc (pc := 1331) (x := x3) (v := x3 + 6) (ls' := [some (.retAddr 0), some (va_rf (x1)), some (va_rf (x2)), some (.int (x3 + 6))]) dL_law_1331 rfl rfl (by decide) rfl ?_
          refine x_goto (pc := 1334) (tgt := 18) dL_law_1334 rfl ?_
          exact ih hf
        · replace hf := it_f hc hf
          refine x_iconst (pc := 762) (v := 0) dL_law_762 (by decide) ?_
          obtain ⟨rfl, rfl⟩ := ret_s hf
          exact x_retz (pc := 763) dL_law_763 rfl (by decide)
      replace hf := it_f hc15 hf
      by_cases hc16 : (v29 &&& 63) = 16
      · replace hf := it_t hc16 hf
        refine x_tabK (pc := 33) (k := 16) (tgt := 764) dL_law_33 hc16 (by decide) (by decide) (by rfl) rfl ?_
        refine x_aload_n (pc := 764) (a := x1) dL_law_764 rfl ?_
        refine x_aloadS (pc := 765) dL_law_765 rfl ?_
        refine x_iload_n (pc := 766) (x := x3) dL_law_766 rfl ?_
        refine x_iconst (pc := 767) (v := 1) dL_law_767 (by decide) ?_
        refine x_iadd (pc := 768) dL_law_768 ?_
        replace hf := bd_s hf; obtain ⟨v769, e769, hf⟩ := hf
        refine x_ldSo (pc := 769) dL_law_769 e769 ?_
        refine x_aloadS (pc := 770) dL_law_770 rfl ?_
        refine x_iload_n (pc := 771) (x := x3) dL_law_771 rfl ?_
        refine x_iconst (pc := 772) (v := 2) dL_law_772 (by decide) ?_
        refine x_iadd (pc := 773) dL_law_773 ?_
        replace hf := bd_s hf; obtain ⟨v774, e774, hf⟩ := hf
        refine x_ldSo (pc := 774) dL_law_774 e774 ?_
        replace hf := bd_s hf; obtain ⟨u775, i775, hf⟩ := hf
        replace hf := bd2_s hf; obtain ⟨v775, h775, e775, hf⟩ := hf
        refine x_cVi (pc := 775) (M' := mX7_planned) (as := [.int (v769), .int (v774)]) (st := []) (a := x1) (ci := 7) dL_law_775 mo_X7_planned lk_L_82 im_X7_planned se_X7_planned rfl ⟨Nat.le_of_ble_eq_true rfl, Nat.le_of_ble_eq_true rfl⟩ rfl (Nat.le_of_ble_eq_true rfl) rfl i775 (tm_X7_planned e775) ?_
        refine x_aload_n (pc := 778) (a := x2) dL_law_778 rfl ?_
        refine x_aloadS (pc := 779) dL_law_779 rfl ?_
        refine x_iload_n (pc := 780) (x := x3) dL_law_780 rfl ?_
        refine x_iconst (pc := 781) (v := 1) dL_law_781 (by decide) ?_
        refine x_iadd (pc := 782) dL_law_782 ?_
        replace hf := bd_s hf; obtain ⟨v783, e783, hf⟩ := hf
        refine x_ldSo (pc := 783) dL_law_783 e783 ?_
        refine x_aloadS (pc := 784) dL_law_784 rfl ?_
        refine x_iload_n (pc := 785) (x := x3) dL_law_785 rfl ?_
        refine x_iconst (pc := 786) (v := 2) dL_law_786 (by decide) ?_
        refine x_iadd (pc := 787) dL_law_787 ?_
        replace hf := bd_s hf; obtain ⟨v788, e788, hf⟩ := hf
        refine x_ldSo (pc := 788) dL_law_788 e788 ?_
        replace hf := bd_s hf; obtain ⟨u789, i789, hf⟩ := hf
        replace hf := bd2_s hf; obtain ⟨v789, h789, e789, hf⟩ := hf
        refine x_cVi (pc := 789) (M' := mX8_planned) (as := [.int (v783), .int (v788)]) (st := [.int (v775)]) (a := x2) (ci := 8) dL_law_789 mo_X8_planned lk_L_85 im_X8_planned se_X8_planned rfl ⟨Nat.le_of_ble_eq_true rfl, Nat.le_of_ble_eq_true rfl⟩ rfl (Nat.le_of_ble_eq_true rfl) rfl i789 (tm_X8_planned e789) ?_
        refine x_icmp_eq (pc := 792) (tgt := 1331) (x := v775) (y := v789) dL_law_792 rfl (fun hc => ?_) (fun hc => ?_)
        · replace hf := it_t hc hf
          refine x_iinc (pc := 1331) (x := x3) (v := x3 + 6) (ls' := [some (.retAddr 0), some (va_rf (x1)), some (va_rf (x2)), some (.int (x3 + 6))]) dL_law_1331 rfl rfl (by decide) rfl ?_
          refine x_goto (pc := 1334) (tgt := 18) dL_law_1334 rfl ?_
          exact ih hf
        · replace hf := it_f hc hf
          refine x_iconst (pc := 795) (v := 0) dL_law_795 (by decide) ?_
          obtain ⟨rfl, rfl⟩ := ret_s hf
          exact x_retz (pc := 796) dL_law_796 rfl (by decide)
      replace hf := it_f hc16 hf
      by_cases hc17 : (v29 &&& 63) = 17
      · replace hf := it_t hc17 hf
        refine x_tabK (pc := 33) (k := 17) (tgt := 797) dL_law_33 hc17 (by decide) (by decide) (by rfl) rfl ?_
        refine x_aload_n (pc := 797) (a := x1) dL_law_797 rfl ?_
        refine x_aloadS (pc := 798) dL_law_798 rfl ?_
        refine x_iload_n (pc := 799) (x := x3) dL_law_799 rfl ?_
        refine x_iconst (pc := 800) (v := 1) dL_law_800 (by decide) ?_
        refine x_iadd (pc := 801) dL_law_801 ?_
        replace hf := bd_s hf; obtain ⟨v802, e802, hf⟩ := hf
        refine x_ldSo (pc := 802) dL_law_802 e802 ?_
        replace hf := bd_s hf; obtain ⟨u803, i803, hf⟩ := hf
        replace hf := bd2_s hf; obtain ⟨v803, h803, e803, hf⟩ := hf
        refine x_cVi (pc := 803) (M' := mX7_take) (as := [.int (v802)]) (st := []) (a := x1) (ci := 7) dL_law_803 mo_X7_take lk_L_86 im_X7_take se_X7_take rfl ⟨Nat.le_of_ble_eq_true rfl, Nat.le_of_ble_eq_true rfl⟩ rfl (Nat.le_of_ble_eq_true rfl) rfl i803 (tm_X7_take e803) ?_
        refine x_aload_n (pc := 806) (a := x2) dL_law_806 rfl ?_
        refine x_aloadS (pc := 807) dL_law_807 rfl ?_
        refine x_iload_n (pc := 808) (x := x3) dL_law_808 rfl ?_
        refine x_iconst (pc := 809) (v := 1) dL_law_809 (by decide) ?_
        refine x_iadd (pc := 810) dL_law_810 ?_
        replace hf := bd_s hf; obtain ⟨v811, e811, hf⟩ := hf
        refine x_ldSo (pc := 811) dL_law_811 e811 ?_
        replace hf := bd_s hf; obtain ⟨u812, i812, hf⟩ := hf
        replace hf := bd2_s hf; obtain ⟨v812, h812, e812, hf⟩ := hf
        refine x_cVi (pc := 812) (M' := mX8_take) (as := [.int (v811)]) (st := [.int (v803)]) (a := x2) (ci := 8) dL_law_812 mo_X8_take lk_L_89 im_X8_take se_X8_take rfl ⟨Nat.le_of_ble_eq_true rfl, Nat.le_of_ble_eq_true rfl⟩ rfl (Nat.le_of_ble_eq_true rfl) rfl i812 (tm_X8_take e812) ?_
        refine x_icmp_eq (pc := 815) (tgt := 1331) (x := v803) (y := v812) dL_law_815 rfl (fun hc => ?_) (fun hc => ?_)
        · replace hf := it_t hc hf
          refine x_iinc (pc := 1331) (x := x3) (v := x3 + 6) (ls' := [some (.retAddr 0), some (va_rf (x1)), some (va_rf (x2)), some (.int (x3 + 6))]) dL_law_1331 rfl rfl (by decide) rfl ?_
          refine x_goto (pc := 1334) (tgt := 18) dL_law_1334 rfl ?_
          exact ih hf
        · replace hf := it_f hc hf
          refine x_iconst (pc := 818) (v := 0) dL_law_818 (by decide) ?_
          obtain ⟨rfl, rfl⟩ := ret_s hf
          exact x_retz (pc := 819) dL_law_819 rfl (by decide)
      replace hf := it_f hc17 hf
      by_cases hc18 : (v29 &&& 63) = 18
      · replace hf := it_t hc18 hf
        refine x_tabK (pc := 33) (k := 18) (tgt := 820) dL_law_33 hc18 (by decide) (by decide) (by rfl) rfl ?_
        refine x_aload_n (pc := 820) (a := x1) dL_law_820 rfl ?_
        refine x_aloadS (pc := 821) dL_law_821 rfl ?_
        refine x_iload_n (pc := 822) (x := x3) dL_law_822 rfl ?_
        refine x_iconst (pc := 823) (v := 1) dL_law_823 (by decide) ?_
        refine x_iadd (pc := 824) dL_law_824 ?_
        replace hf := bd_s hf; obtain ⟨v825, e825, hf⟩ := hf
        refine x_ldSo (pc := 825) dL_law_825 e825 ?_
        replace hf := bd_s hf; obtain ⟨u826, i826, hf⟩ := hf
        replace hf := bd2_s hf; obtain ⟨v826, h826, e826, hf⟩ := hf
        refine x_cVi (pc := 826) (M' := mX7_calendar) (as := [.int (v825)]) (st := []) (a := x1) (ci := 7) dL_law_826 mo_X7_calendar lk_L_90 im_X7_calendar se_X7_calendar rfl ⟨Nat.le_of_ble_eq_true rfl, Nat.le_of_ble_eq_true rfl⟩ rfl (Nat.le_of_ble_eq_true rfl) rfl i826 (tm_X7_calendar e826) ?_
        refine x_aload_n (pc := 829) (a := x2) dL_law_829 rfl ?_
        refine x_aloadS (pc := 830) dL_law_830 rfl ?_
        refine x_iload_n (pc := 831) (x := x3) dL_law_831 rfl ?_
        refine x_iconst (pc := 832) (v := 1) dL_law_832 (by decide) ?_
        refine x_iadd (pc := 833) dL_law_833 ?_
        replace hf := bd_s hf; obtain ⟨v834, e834, hf⟩ := hf
        refine x_ldSo (pc := 834) dL_law_834 e834 ?_
        replace hf := bd_s hf; obtain ⟨u835, i835, hf⟩ := hf
        replace hf := bd2_s hf; obtain ⟨v835, h835, e835, hf⟩ := hf
        refine x_cVi (pc := 835) (M' := mX8_calendar) (as := [.int (v834)]) (st := [.int (v826)]) (a := x2) (ci := 8) dL_law_835 mo_X8_calendar lk_L_93 im_X8_calendar se_X8_calendar rfl ⟨Nat.le_of_ble_eq_true rfl, Nat.le_of_ble_eq_true rfl⟩ rfl (Nat.le_of_ble_eq_true rfl) rfl i835 (tm_X8_calendar e835) ?_
        refine x_icmp_eq (pc := 838) (tgt := 1331) (x := v826) (y := v835) dL_law_838 rfl (fun hc => ?_) (fun hc => ?_)
        · replace hf := it_t hc hf
          refine x_iinc (pc := 1331) (x := x3) (v := x3 + 6) (ls' := [some (.retAddr 0), some (va_rf (x1)), some (va_rf (x2)), some (.int (x3 + 6))]) dL_law_1331 rfl rfl (by decide) rfl ?_
          refine x_goto (pc := 1334) (tgt := 18) dL_law_1334 rfl ?_
          exact ih hf
        · replace hf := it_f hc hf
          refine x_iconst (pc := 841) (v := 0) dL_law_841 (by decide) ?_
          obtain ⟨rfl, rfl⟩ := ret_s hf
          exact x_retz (pc := 842) dL_law_842 rfl (by decide)
      replace hf := it_f hc18 hf
      by_cases hc19 : (v29 &&& 63) = 19
      · replace hf := it_t hc19 hf
        refine x_tabK (pc := 33) (k := 19) (tgt := 843) dL_law_33 hc19 (by decide) (by decide) (by rfl) rfl ?_
        refine x_aload_n (pc := 843) (a := x1) dL_law_843 rfl ?_
        refine x_aloadS (pc := 844) dL_law_844 rfl ?_
        refine x_iload_n (pc := 845) (x := x3) dL_law_845 rfl ?_
        refine x_iconst (pc := 846) (v := 1) dL_law_846 (by decide) ?_
        refine x_iadd (pc := 847) dL_law_847 ?_
        replace hf := bd_s hf; obtain ⟨v848, e848, hf⟩ := hf
        refine x_ldSo (pc := 848) dL_law_848 e848 ?_
        replace hf := bd_s hf; obtain ⟨u849, i849, hf⟩ := hf
        replace hf := bd2_s hf; obtain ⟨v849, h849, e849, hf⟩ := hf
        refine x_cVi (pc := 849) (M' := mX7_fill) (as := [.int (v848)]) (st := []) (a := x1) (ci := 7) dL_law_849 mo_X7_fill lk_L_94 im_X7_fill se_X7_fill rfl ⟨Nat.le_of_ble_eq_true rfl, Nat.le_of_ble_eq_true rfl⟩ rfl (Nat.le_of_ble_eq_true rfl) rfl i849 (tm_X7_fill e849) ?_
        refine x_aload_n (pc := 852) (a := x2) dL_law_852 rfl ?_
        refine x_aloadS (pc := 853) dL_law_853 rfl ?_
        refine x_iload_n (pc := 854) (x := x3) dL_law_854 rfl ?_
        refine x_iconst (pc := 855) (v := 1) dL_law_855 (by decide) ?_
        refine x_iadd (pc := 856) dL_law_856 ?_
        replace hf := bd_s hf; obtain ⟨v857, e857, hf⟩ := hf
        refine x_ldSo (pc := 857) dL_law_857 e857 ?_
        replace hf := bd_s hf; obtain ⟨u858, i858, hf⟩ := hf
        replace hf := bd2_s hf; obtain ⟨v858, h858, e858, hf⟩ := hf
        refine x_cVi (pc := 858) (M' := mX8_fill) (as := [.int (v857)]) (st := [.int (v849)]) (a := x2) (ci := 8) dL_law_858 mo_X8_fill lk_L_97 im_X8_fill se_X8_fill rfl ⟨Nat.le_of_ble_eq_true rfl, Nat.le_of_ble_eq_true rfl⟩ rfl (Nat.le_of_ble_eq_true rfl) rfl i858 (tm_X8_fill e858) ?_
        refine x_icmp_eq (pc := 861) (tgt := 1331) (x := v849) (y := v858) dL_law_861 rfl (fun hc => ?_) (fun hc => ?_)
        · replace hf := it_t hc hf
          refine x_iinc (pc := 1331) (x := x3) (v := x3 + 6) (ls' := [some (.retAddr 0), some (va_rf (x1)), some (va_rf (x2)), some (.int (x3 + 6))]) dL_law_1331 rfl rfl (by decide) rfl ?_
          refine x_goto (pc := 1334) (tgt := 18) dL_law_1334 rfl ?_
          exact ih hf
        · replace hf := it_f hc hf
          refine x_iconst (pc := 864) (v := 0) dL_law_864 (by decide) ?_
          obtain ⟨rfl, rfl⟩ := ret_s hf
          exact x_retz (pc := 865) dL_law_865 rfl (by decide)
      replace hf := it_f hc19 hf
      by_cases hc20 : (v29 &&& 63) = 20
      · replace hf := it_t hc20 hf
        refine x_tabK (pc := 33) (k := 20) (tgt := 866) dL_law_33 hc20 (by decide) (by decide) (by rfl) rfl ?_
        refine x_aload_n (pc := 866) (a := x1) dL_law_866 rfl ?_
        refine x_aloadS (pc := 867) dL_law_867 rfl ?_
        refine x_iload_n (pc := 868) (x := x3) dL_law_868 rfl ?_
        refine x_iconst (pc := 869) (v := 1) dL_law_869 (by decide) ?_
        refine x_iadd (pc := 870) dL_law_870 ?_
        replace hf := bd_s hf; obtain ⟨v871, e871, hf⟩ := hf
        refine x_ldSo (pc := 871) dL_law_871 e871 ?_
        refine x_aloadS (pc := 872) dL_law_872 rfl ?_
        refine x_iload_n (pc := 873) (x := x3) dL_law_873 rfl ?_
        refine x_iconst (pc := 874) (v := 2) dL_law_874 (by decide) ?_
        refine x_iadd (pc := 875) dL_law_875 ?_
        replace hf := bd_s hf; obtain ⟨v876, e876, hf⟩ := hf
        refine x_ldSo (pc := 876) dL_law_876 e876 ?_
        refine x_aloadS (pc := 877) dL_law_877 rfl ?_
        refine x_iload_n (pc := 878) (x := x3) dL_law_878 rfl ?_
        refine x_iconst (pc := 879) (v := 3) dL_law_879 (by decide) ?_
        refine x_iadd (pc := 880) dL_law_880 ?_
        replace hf := bd_s hf; obtain ⟨v881, e881, hf⟩ := hf
        refine x_ldSo (pc := 881) dL_law_881 e881 ?_
        replace hf := bd_s hf; obtain ⟨u882, i882, hf⟩ := hf
        replace hf := bd2_s hf; obtain ⟨v882, h882, e882, hf⟩ := hf
        refine x_cVi (pc := 882) (M' := mX7_near) (as := [.int (v871), .int (v876), .int (v881)]) (st := []) (a := x1) (ci := 7) dL_law_882 mo_X7_near lk_L_98 im_X7_near se_X7_near rfl ⟨Nat.le_of_ble_eq_true rfl, Nat.le_of_ble_eq_true rfl⟩ rfl (Nat.le_of_ble_eq_true rfl) rfl i882 (tm_X7_near e882) ?_
        refine x_aload_n (pc := 885) (a := x2) dL_law_885 rfl ?_
        refine x_aloadS (pc := 886) dL_law_886 rfl ?_
        refine x_iload_n (pc := 887) (x := x3) dL_law_887 rfl ?_
        refine x_iconst (pc := 888) (v := 1) dL_law_888 (by decide) ?_
        refine x_iadd (pc := 889) dL_law_889 ?_
        replace hf := bd_s hf; obtain ⟨v890, e890, hf⟩ := hf
        refine x_ldSo (pc := 890) dL_law_890 e890 ?_
        refine x_aloadS (pc := 891) dL_law_891 rfl ?_
        refine x_iload_n (pc := 892) (x := x3) dL_law_892 rfl ?_
        refine x_iconst (pc := 893) (v := 2) dL_law_893 (by decide) ?_
        refine x_iadd (pc := 894) dL_law_894 ?_
        replace hf := bd_s hf; obtain ⟨v895, e895, hf⟩ := hf
        refine x_ldSo (pc := 895) dL_law_895 e895 ?_
        refine x_aloadS (pc := 896) dL_law_896 rfl ?_
        refine x_iload_n (pc := 897) (x := x3) dL_law_897 rfl ?_
        refine x_iconst (pc := 898) (v := 3) dL_law_898 (by decide) ?_
        refine x_iadd (pc := 899) dL_law_899 ?_
        replace hf := bd_s hf; obtain ⟨v900, e900, hf⟩ := hf
        refine x_ldSo (pc := 900) dL_law_900 e900 ?_
        replace hf := bd_s hf; obtain ⟨u901, i901, hf⟩ := hf
        replace hf := bd2_s hf; obtain ⟨v901, h901, e901, hf⟩ := hf
        refine x_cVi (pc := 901) (M' := mX8_near) (as := [.int (v890), .int (v895), .int (v900)]) (st := [.int (v882)]) (a := x2) (ci := 8) dL_law_901 mo_X8_near lk_L_101 im_X8_near se_X8_near rfl ⟨Nat.le_of_ble_eq_true rfl, Nat.le_of_ble_eq_true rfl⟩ rfl (Nat.le_of_ble_eq_true rfl) rfl i901 (tm_X8_near e901) ?_
        refine x_icmp_eq (pc := 904) (tgt := 1331) (x := v882) (y := v901) dL_law_904 rfl (fun hc => ?_) (fun hc => ?_)
        · replace hf := it_t hc hf
          refine x_iinc (pc := 1331) (x := x3) (v := x3 + 6) (ls' := [some (.retAddr 0), some (va_rf (x1)), some (va_rf (x2)), some (.int (x3 + 6))]) dL_law_1331 rfl rfl (by decide) rfl ?_
          refine x_goto (pc := 1334) (tgt := 18) dL_law_1334 rfl ?_
          exact ih hf
        · replace hf := it_f hc hf
          refine x_iconst (pc := 907) (v := 0) dL_law_907 (by decide) ?_
          obtain ⟨rfl, rfl⟩ := ret_s hf
          exact x_retz (pc := 908) dL_law_908 rfl (by decide)
      replace hf := it_f hc20 hf
      by_cases hc21 : (v29 &&& 63) = 21
      · replace hf := it_t hc21 hf
        refine x_tabK (pc := 33) (k := 21) (tgt := 909) dL_law_33 hc21 (by decide) (by decide) (by rfl) rfl ?_
        refine x_aload_n (pc := 909) (a := x1) dL_law_909 rfl ?_
        refine x_aloadS (pc := 910) dL_law_910 rfl ?_
        refine x_iload_n (pc := 911) (x := x3) dL_law_911 rfl ?_
        refine x_iconst (pc := 912) (v := 1) dL_law_912 (by decide) ?_
        refine x_iadd (pc := 913) dL_law_913 ?_
        replace hf := bd_s hf; obtain ⟨v914, e914, hf⟩ := hf
        refine x_ldSo (pc := 914) dL_law_914 e914 ?_
        refine x_aloadS (pc := 915) dL_law_915 rfl ?_
        refine x_iload_n (pc := 916) (x := x3) dL_law_916 rfl ?_
        refine x_iconst (pc := 917) (v := 2) dL_law_917 (by decide) ?_
        refine x_iadd (pc := 918) dL_law_918 ?_
        replace hf := bd_s hf; obtain ⟨v919, e919, hf⟩ := hf
        refine x_ldSo (pc := 919) dL_law_919 e919 ?_
        replace hf := bd_s hf; obtain ⟨u920, i920, hf⟩ := hf
        replace hf := bd2_s hf; obtain ⟨v920, h920, e920, hf⟩ := hf
        refine x_cVi (pc := 920) (M' := mX7_hurt) (as := [.int (v914), .int (v919)]) (st := []) (a := x1) (ci := 7) dL_law_920 mo_X7_hurt lk_L_102 im_X7_hurt se_X7_hurt rfl ⟨Nat.le_of_ble_eq_true rfl, Nat.le_of_ble_eq_true rfl⟩ rfl (Nat.le_of_ble_eq_true rfl) rfl i920 (tm_X7_hurt e920) ?_
        refine x_aload_n (pc := 923) (a := x2) dL_law_923 rfl ?_
        refine x_aloadS (pc := 924) dL_law_924 rfl ?_
        refine x_iload_n (pc := 925) (x := x3) dL_law_925 rfl ?_
        refine x_iconst (pc := 926) (v := 1) dL_law_926 (by decide) ?_
        refine x_iadd (pc := 927) dL_law_927 ?_
        replace hf := bd_s hf; obtain ⟨v928, e928, hf⟩ := hf
        refine x_ldSo (pc := 928) dL_law_928 e928 ?_
        refine x_aloadS (pc := 929) dL_law_929 rfl ?_
        refine x_iload_n (pc := 930) (x := x3) dL_law_930 rfl ?_
        refine x_iconst (pc := 931) (v := 2) dL_law_931 (by decide) ?_
        refine x_iadd (pc := 932) dL_law_932 ?_
        replace hf := bd_s hf; obtain ⟨v933, e933, hf⟩ := hf
        refine x_ldSo (pc := 933) dL_law_933 e933 ?_
        replace hf := bd_s hf; obtain ⟨u934, i934, hf⟩ := hf
        replace hf := bd2_s hf; obtain ⟨v934, h934, e934, hf⟩ := hf
        refine x_cVi (pc := 934) (M' := mX8_hurt) (as := [.int (v928), .int (v933)]) (st := [.int (v920)]) (a := x2) (ci := 8) dL_law_934 mo_X8_hurt lk_L_105 im_X8_hurt se_X8_hurt rfl ⟨Nat.le_of_ble_eq_true rfl, Nat.le_of_ble_eq_true rfl⟩ rfl (Nat.le_of_ble_eq_true rfl) rfl i934 (tm_X8_hurt e934) ?_
        refine x_icmp_eq (pc := 937) (tgt := 1331) (x := v920) (y := v934) dL_law_937 rfl (fun hc => ?_) (fun hc => ?_)
        · replace hf := it_t hc hf
          refine x_iinc (pc := 1331) (x := x3) (v := x3 + 6) (ls' := [some (.retAddr 0), some (va_rf (x1)), some (va_rf (x2)), some (.int (x3 + 6))]) dL_law_1331 rfl rfl (by decide) rfl ?_
          refine x_goto (pc := 1334) (tgt := 18) dL_law_1334 rfl ?_
          exact ih hf
        · replace hf := it_f hc hf
          refine x_iconst (pc := 940) (v := 0) dL_law_940 (by decide) ?_
          obtain ⟨rfl, rfl⟩ := ret_s hf
          exact x_retz (pc := 941) dL_law_941 rfl (by decide)
      replace hf := it_f hc21 hf
      by_cases hc22 : (v29 &&& 63) = 22
      · replace hf := it_t hc22 hf
        refine x_tabK (pc := 33) (k := 22) (tgt := 942) dL_law_33 hc22 (by decide) (by decide) (by rfl) rfl ?_
        refine x_aload_n (pc := 942) (a := x1) dL_law_942 rfl ?_
        refine x_aloadS (pc := 943) dL_law_943 rfl ?_
        refine x_iload_n (pc := 944) (x := x3) dL_law_944 rfl ?_
        refine x_iconst (pc := 945) (v := 1) dL_law_945 (by decide) ?_
        refine x_iadd (pc := 946) dL_law_946 ?_
        replace hf := bd_s hf; obtain ⟨v947, e947, hf⟩ := hf
        refine x_ldSo (pc := 947) dL_law_947 e947 ?_
        replace hf := bd_s hf; obtain ⟨u948, i948, hf⟩ := hf
        replace hf := bd2_s hf; obtain ⟨v948, h948, e948, hf⟩ := hf
        refine x_cVi (pc := 948) (M' := mX7_applicant) (as := [.int (v947)]) (st := []) (a := x1) (ci := 7) dL_law_948 mo_X7_applicant lk_L_106 im_X7_applicant se_X7_applicant rfl ⟨Nat.le_of_ble_eq_true rfl, Nat.le_of_ble_eq_true rfl⟩ rfl (Nat.le_of_ble_eq_true rfl) rfl i948 (tm_X7_applicant e948) ?_
        refine x_aload_n (pc := 951) (a := x2) dL_law_951 rfl ?_
        refine x_aloadS (pc := 952) dL_law_952 rfl ?_
        refine x_iload_n (pc := 953) (x := x3) dL_law_953 rfl ?_
        refine x_iconst (pc := 954) (v := 1) dL_law_954 (by decide) ?_
        refine x_iadd (pc := 955) dL_law_955 ?_
        replace hf := bd_s hf; obtain ⟨v956, e956, hf⟩ := hf
        refine x_ldSo (pc := 956) dL_law_956 e956 ?_
        replace hf := bd_s hf; obtain ⟨u957, i957, hf⟩ := hf
        replace hf := bd2_s hf; obtain ⟨v957, h957, e957, hf⟩ := hf
        refine x_cVi (pc := 957) (M' := mX8_applicant) (as := [.int (v956)]) (st := [.int (v948)]) (a := x2) (ci := 8) dL_law_957 mo_X8_applicant lk_L_109 im_X8_applicant se_X8_applicant rfl ⟨Nat.le_of_ble_eq_true rfl, Nat.le_of_ble_eq_true rfl⟩ rfl (Nat.le_of_ble_eq_true rfl) rfl i957 (tm_X8_applicant e957) ?_
        refine x_icmp_eq (pc := 960) (tgt := 1331) (x := v948) (y := v957) dL_law_960 rfl (fun hc => ?_) (fun hc => ?_)
        · replace hf := it_t hc hf
          refine x_iinc (pc := 1331) (x := x3) (v := x3 + 6) (ls' := [some (.retAddr 0), some (va_rf (x1)), some (va_rf (x2)), some (.int (x3 + 6))]) dL_law_1331 rfl rfl (by decide) rfl ?_
          refine x_goto (pc := 1334) (tgt := 18) dL_law_1334 rfl ?_
          exact ih hf
        · replace hf := it_f hc hf
          refine x_iconst (pc := 963) (v := 0) dL_law_963 (by decide) ?_
          obtain ⟨rfl, rfl⟩ := ret_s hf
          exact x_retz (pc := 964) dL_law_964 rfl (by decide)
      replace hf := it_f hc22 hf
      by_cases hc23 : (v29 &&& 63) = 23
      · replace hf := it_t hc23 hf
        refine x_tabK (pc := 33) (k := 23) (tgt := 965) dL_law_33 hc23 (by decide) (by decide) (by rfl) rfl ?_
        refine x_aload_n (pc := 965) (a := x1) dL_law_965 rfl ?_
        refine x_aloadS (pc := 966) dL_law_966 rfl ?_
        refine x_iload_n (pc := 967) (x := x3) dL_law_967 rfl ?_
        refine x_iconst (pc := 968) (v := 1) dL_law_968 (by decide) ?_
        refine x_iadd (pc := 969) dL_law_969 ?_
        replace hf := bd_s hf; obtain ⟨v970, e970, hf⟩ := hf
        refine x_ldSo (pc := 970) dL_law_970 e970 ?_
        refine x_aloadS (pc := 971) dL_law_971 rfl ?_
        refine x_iload_n (pc := 972) (x := x3) dL_law_972 rfl ?_
        refine x_iconst (pc := 973) (v := 2) dL_law_973 (by decide) ?_
        refine x_iadd (pc := 974) dL_law_974 ?_
        replace hf := bd_s hf; obtain ⟨v975, e975, hf⟩ := hf
        refine x_ldSo (pc := 975) dL_law_975 e975 ?_
        replace hf := bd_s hf; obtain ⟨u976, i976, hf⟩ := hf
        replace hf := bd2_s hf; obtain ⟨v976, h976, e976, hf⟩ := hf
        refine x_cVi (pc := 976) (M' := mX7_weigh) (as := [.int (v970), .int (v975)]) (st := []) (a := x1) (ci := 7) dL_law_976 mo_X7_weigh lk_L_110 im_X7_weigh se_X7_weigh rfl ⟨Nat.le_of_ble_eq_true rfl, Nat.le_of_ble_eq_true rfl⟩ rfl (Nat.le_of_ble_eq_true rfl) rfl i976 (tm_X7_weigh e976) ?_
        refine x_aload_n (pc := 979) (a := x2) dL_law_979 rfl ?_
        refine x_aloadS (pc := 980) dL_law_980 rfl ?_
        refine x_iload_n (pc := 981) (x := x3) dL_law_981 rfl ?_
        refine x_iconst (pc := 982) (v := 1) dL_law_982 (by decide) ?_
        refine x_iadd (pc := 983) dL_law_983 ?_
        replace hf := bd_s hf; obtain ⟨v984, e984, hf⟩ := hf
        refine x_ldSo (pc := 984) dL_law_984 e984 ?_
        refine x_aloadS (pc := 985) dL_law_985 rfl ?_
        refine x_iload_n (pc := 986) (x := x3) dL_law_986 rfl ?_
        refine x_iconst (pc := 987) (v := 2) dL_law_987 (by decide) ?_
        refine x_iadd (pc := 988) dL_law_988 ?_
        replace hf := bd_s hf; obtain ⟨v989, e989, hf⟩ := hf
        refine x_ldSo (pc := 989) dL_law_989 e989 ?_
        replace hf := bd_s hf; obtain ⟨u990, i990, hf⟩ := hf
        replace hf := bd2_s hf; obtain ⟨v990, h990, e990, hf⟩ := hf
        refine x_cVi (pc := 990) (M' := mX8_weigh) (as := [.int (v984), .int (v989)]) (st := [.int (v976)]) (a := x2) (ci := 8) dL_law_990 mo_X8_weigh lk_L_113 im_X8_weigh se_X8_weigh rfl ⟨Nat.le_of_ble_eq_true rfl, Nat.le_of_ble_eq_true rfl⟩ rfl (Nat.le_of_ble_eq_true rfl) rfl i990 (tm_X8_weigh e990) ?_
        refine x_icmp_eq (pc := 993) (tgt := 1331) (x := v976) (y := v990) dL_law_993 rfl (fun hc => ?_) (fun hc => ?_)
        · replace hf := it_t hc hf
          refine x_iinc (pc := 1331) (x := x3) (v := x3 + 6) (ls' := [some (.retAddr 0), some (va_rf (x1)), some (va_rf (x2)), some (.int (x3 + 6))]) dL_law_1331 rfl rfl (by decide) rfl ?_
          refine x_goto (pc := 1334) (tgt := 18) dL_law_1334 rfl ?_
          exact ih hf
        · replace hf := it_f hc hf
          refine x_iconst (pc := 996) (v := 0) dL_law_996 (by decide) ?_
          obtain ⟨rfl, rfl⟩ := ret_s hf
          exact x_retz (pc := 997) dL_law_997 rfl (by decide)
      replace hf := it_f hc23 hf
      by_cases hc24 : (v29 &&& 63) = 24
      · replace hf := it_t hc24 hf
        refine x_tabK (pc := 33) (k := 24) (tgt := 998) dL_law_33 hc24 (by decide) (by decide) (by rfl) rfl ?_
        refine x_aload_n (pc := 998) (a := x1) dL_law_998 rfl ?_
        refine x_aloadS (pc := 999) dL_law_999 rfl ?_
        refine x_iload_n (pc := 1000) (x := x3) dL_law_1000 rfl ?_
        refine x_iconst (pc := 1001) (v := 1) dL_law_1001 (by decide) ?_
        refine x_iadd (pc := 1002) dL_law_1002 ?_
        replace hf := bd_s hf; obtain ⟨v1003, e1003, hf⟩ := hf
        refine x_ldSo (pc := 1003) dL_law_1003 e1003 ?_
        refine x_aloadS (pc := 1004) dL_law_1004 rfl ?_
        refine x_iload_n (pc := 1005) (x := x3) dL_law_1005 rfl ?_
        refine x_iconst (pc := 1006) (v := 2) dL_law_1006 (by decide) ?_
        refine x_iadd (pc := 1007) dL_law_1007 ?_
        replace hf := bd_s hf; obtain ⟨v1008, e1008, hf⟩ := hf
        refine x_ldSo (pc := 1008) dL_law_1008 e1008 ?_
        refine x_if_eq (pc := 1009) (tgt := 1016) (x := v1008) dL_law_1009 rfl (fun hc => ?_) (fun hc => ?_)
        · replace hf := it_t hc hf
          refine x_iconst (pc := 1016) (v := 0) dL_law_1016 (by decide) ?_
          exact tj_L_law_1017 (fun _ _ _ _ _ _ z => ih z) hf
        · replace hf := it_f hc hf
          refine x_iconst (pc := 1012) (v := 1) dL_law_1012 (by decide) ?_
          refine x_goto (pc := 1013) (tgt := 1017) dL_law_1013 rfl ?_
          exact tj_L_law_1017 (fun _ _ _ _ _ _ z => ih z) hf
      replace hf := it_f hc24 hf
      by_cases hc25 : (v29 &&& 63) = 25
      · replace hf := it_t hc25 hf
        refine x_tabK (pc := 33) (k := 25) (tgt := 1047) dL_law_33 hc25 (by decide) (by decide) (by rfl) rfl ?_
        refine x_aload_n (pc := 1047) (a := x1) dL_law_1047 rfl ?_
        refine x_aloadS (pc := 1048) dL_law_1048 rfl ?_
        refine x_iload_n (pc := 1049) (x := x3) dL_law_1049 rfl ?_
        refine x_iconst (pc := 1050) (v := 1) dL_law_1050 (by decide) ?_
        refine x_iadd (pc := 1051) dL_law_1051 ?_
        replace hf := bd_s hf; obtain ⟨v1052, e1052, hf⟩ := hf
        refine x_ldSo (pc := 1052) dL_law_1052 e1052 ?_
        refine x_aloadS (pc := 1053) dL_law_1053 rfl ?_
        refine x_iload_n (pc := 1054) (x := x3) dL_law_1054 rfl ?_
        refine x_iconst (pc := 1055) (v := 2) dL_law_1055 (by decide) ?_
        refine x_iadd (pc := 1056) dL_law_1056 ?_
        replace hf := bd_s hf; obtain ⟨v1057, e1057, hf⟩ := hf
        refine x_ldSo (pc := 1057) dL_law_1057 e1057 ?_
        replace hf := bd_s hf; obtain ⟨u1058, i1058, hf⟩ := hf
        replace hf := bd2_s hf; obtain ⟨v1058, h1058, e1058, hf⟩ := hf
        refine x_cVi (pc := 1058) (M' := mX7_drawn) (as := [.int (v1052), .int (v1057)]) (st := []) (a := x1) (ci := 7) dL_law_1058 mo_X7_drawn lk_L_118 im_X7_drawn se_X7_drawn rfl ⟨Nat.le_of_ble_eq_true rfl, Nat.le_of_ble_eq_true rfl⟩ rfl (Nat.le_of_ble_eq_true rfl) rfl i1058 (tm_X7_drawn e1058) ?_
        refine x_aload_n (pc := 1061) (a := x2) dL_law_1061 rfl ?_
        refine x_aloadS (pc := 1062) dL_law_1062 rfl ?_
        refine x_iload_n (pc := 1063) (x := x3) dL_law_1063 rfl ?_
        refine x_iconst (pc := 1064) (v := 1) dL_law_1064 (by decide) ?_
        refine x_iadd (pc := 1065) dL_law_1065 ?_
        replace hf := bd_s hf; obtain ⟨v1066, e1066, hf⟩ := hf
        refine x_ldSo (pc := 1066) dL_law_1066 e1066 ?_
        refine x_aloadS (pc := 1067) dL_law_1067 rfl ?_
        refine x_iload_n (pc := 1068) (x := x3) dL_law_1068 rfl ?_
        refine x_iconst (pc := 1069) (v := 2) dL_law_1069 (by decide) ?_
        refine x_iadd (pc := 1070) dL_law_1070 ?_
        replace hf := bd_s hf; obtain ⟨v1071, e1071, hf⟩ := hf
        refine x_ldSo (pc := 1071) dL_law_1071 e1071 ?_
        replace hf := bd_s hf; obtain ⟨u1072, i1072, hf⟩ := hf
        replace hf := bd2_s hf; obtain ⟨v1072, h1072, e1072, hf⟩ := hf
        refine x_cVi (pc := 1072) (M' := mX8_drawn) (as := [.int (v1066), .int (v1071)]) (st := [.int (v1058)]) (a := x2) (ci := 8) dL_law_1072 mo_X8_drawn lk_L_121 im_X8_drawn se_X8_drawn rfl ⟨Nat.le_of_ble_eq_true rfl, Nat.le_of_ble_eq_true rfl⟩ rfl (Nat.le_of_ble_eq_true rfl) rfl i1072 (tm_X8_drawn e1072) ?_
        refine x_icmp_eq (pc := 1075) (tgt := 1331) (x := v1058) (y := v1072) dL_law_1075 rfl (fun hc => ?_) (fun hc => ?_)
        · replace hf := it_t hc hf
          refine x_iinc (pc := 1331) (x := x3) (v := x3 + 6) (ls' := [some (.retAddr 0), some (va_rf (x1)), some (va_rf (x2)), some (.int (x3 + 6))]) dL_law_1331 rfl rfl (by decide) rfl ?_
          refine x_goto (pc := 1334) (tgt := 18) dL_law_1334 rfl ?_
          exact ih hf
        · replace hf := it_f hc hf
          refine x_iconst (pc := 1078) (v := 0) dL_law_1078 (by decide) ?_
          obtain ⟨rfl, rfl⟩ := ret_s hf
          exact x_retz (pc := 1079) dL_law_1079 rfl (by decide)
      replace hf := it_f hc25 hf
      by_cases hc26 : (v29 &&& 63) = 26
      · replace hf := it_t hc26 hf
        refine x_tabK (pc := 33) (k := 26) (tgt := 1080) dL_law_33 hc26 (by decide) (by decide) (by rfl) rfl ?_
        refine x_aload_n (pc := 1080) (a := x1) dL_law_1080 rfl ?_
        refine x_aloadS (pc := 1081) dL_law_1081 rfl ?_
        refine x_iload_n (pc := 1082) (x := x3) dL_law_1082 rfl ?_
        refine x_iconst (pc := 1083) (v := 1) dL_law_1083 (by decide) ?_
        refine x_iadd (pc := 1084) dL_law_1084 ?_
        replace hf := bd_s hf; obtain ⟨v1085, e1085, hf⟩ := hf
        refine x_ldSo (pc := 1085) dL_law_1085 e1085 ?_
        refine x_aloadS (pc := 1086) dL_law_1086 rfl ?_
        refine x_iload_n (pc := 1087) (x := x3) dL_law_1087 rfl ?_
        refine x_iconst (pc := 1088) (v := 2) dL_law_1088 (by decide) ?_
        refine x_iadd (pc := 1089) dL_law_1089 ?_
        replace hf := bd_s hf; obtain ⟨v1090, e1090, hf⟩ := hf
        refine x_ldSo (pc := 1090) dL_law_1090 e1090 ?_
        replace hf := bd_s hf; obtain ⟨u1091, i1091, hf⟩ := hf
        replace hf := bd2_s hf; obtain ⟨v1091, h1091, e1091, hf⟩ := hf
        refine x_cVi (pc := 1091) (M' := mX7_turn) (as := [.int (v1085), .int (v1090)]) (st := []) (a := x1) (ci := 7) dL_law_1091 mo_X7_turn lk_L_122 im_X7_turn se_X7_turn rfl ⟨Nat.le_of_ble_eq_true rfl, Nat.le_of_ble_eq_true rfl⟩ rfl (Nat.le_of_ble_eq_true rfl) rfl i1091 (tm_X7_turn e1091) ?_
        refine x_aload_n (pc := 1094) (a := x2) dL_law_1094 rfl ?_
        refine x_aloadS (pc := 1095) dL_law_1095 rfl ?_
        refine x_iload_n (pc := 1096) (x := x3) dL_law_1096 rfl ?_
        refine x_iconst (pc := 1097) (v := 1) dL_law_1097 (by decide) ?_
        refine x_iadd (pc := 1098) dL_law_1098 ?_
        replace hf := bd_s hf; obtain ⟨v1099, e1099, hf⟩ := hf
        refine x_ldSo (pc := 1099) dL_law_1099 e1099 ?_
        refine x_aloadS (pc := 1100) dL_law_1100 rfl ?_
        refine x_iload_n (pc := 1101) (x := x3) dL_law_1101 rfl ?_
        refine x_iconst (pc := 1102) (v := 2) dL_law_1102 (by decide) ?_
        refine x_iadd (pc := 1103) dL_law_1103 ?_
        replace hf := bd_s hf; obtain ⟨v1104, e1104, hf⟩ := hf
        refine x_ldSo (pc := 1104) dL_law_1104 e1104 ?_
        replace hf := bd_s hf; obtain ⟨u1105, i1105, hf⟩ := hf
        replace hf := bd2_s hf; obtain ⟨v1105, h1105, e1105, hf⟩ := hf
        refine x_cVi (pc := 1105) (M' := mX8_turn) (as := [.int (v1099), .int (v1104)]) (st := [.int (v1091)]) (a := x2) (ci := 8) dL_law_1105 mo_X8_turn lk_L_125 im_X8_turn se_X8_turn rfl ⟨Nat.le_of_ble_eq_true rfl, Nat.le_of_ble_eq_true rfl⟩ rfl (Nat.le_of_ble_eq_true rfl) rfl i1105 (tm_X8_turn e1105) ?_
        refine x_icmp_eq (pc := 1108) (tgt := 1331) (x := v1091) (y := v1105) dL_law_1108 rfl (fun hc => ?_) (fun hc => ?_)
        · replace hf := it_t hc hf
          refine x_iinc (pc := 1331) (x := x3) (v := x3 + 6) (ls' := [some (.retAddr 0), some (va_rf (x1)), some (va_rf (x2)), some (.int (x3 + 6))]) dL_law_1331 rfl rfl (by decide) rfl ?_
          refine x_goto (pc := 1334) (tgt := 18) dL_law_1334 rfl ?_
          exact ih hf
        · replace hf := it_f hc hf
          refine x_iconst (pc := 1111) (v := 0) dL_law_1111 (by decide) ?_
          obtain ⟨rfl, rfl⟩ := ret_s hf
          exact x_retz (pc := 1112) dL_law_1112 rfl (by decide)
      replace hf := it_f hc26 hf
      by_cases hc27 : (v29 &&& 63) = 27
      · replace hf := it_t hc27 hf
        refine x_tabK (pc := 33) (k := 27) (tgt := 1113) dL_law_33 hc27 (by decide) (by decide) (by rfl) rfl ?_
        refine x_aload_n (pc := 1113) (a := x1) dL_law_1113 rfl ?_
        refine x_aloadS (pc := 1114) dL_law_1114 rfl ?_
        refine x_iload_n (pc := 1115) (x := x3) dL_law_1115 rfl ?_
        refine x_iconst (pc := 1116) (v := 1) dL_law_1116 (by decide) ?_
        refine x_iadd (pc := 1117) dL_law_1117 ?_
        replace hf := bd_s hf; obtain ⟨v1118, e1118, hf⟩ := hf
        refine x_ldSo (pc := 1118) dL_law_1118 e1118 ?_
        refine x_aloadS (pc := 1119) dL_law_1119 rfl ?_
        refine x_iload_n (pc := 1120) (x := x3) dL_law_1120 rfl ?_
        refine x_iconst (pc := 1121) (v := 2) dL_law_1121 (by decide) ?_
        refine x_iadd (pc := 1122) dL_law_1122 ?_
        replace hf := bd_s hf; obtain ⟨v1123, e1123, hf⟩ := hf
        refine x_ldSo (pc := 1123) dL_law_1123 e1123 ?_
        refine x_aloadS (pc := 1124) dL_law_1124 rfl ?_
        refine x_iload_n (pc := 1125) (x := x3) dL_law_1125 rfl ?_
        refine x_iconst (pc := 1126) (v := 3) dL_law_1126 (by decide) ?_
        refine x_iadd (pc := 1127) dL_law_1127 ?_
        replace hf := bd_s hf; obtain ⟨v1128, e1128, hf⟩ := hf
        refine x_ldSo (pc := 1128) dL_law_1128 e1128 ?_
        replace hf := bd_s hf; obtain ⟨u1129, i1129, hf⟩ := hf
        replace hf := bd2_s hf; obtain ⟨v1129, h1129, e1129, hf⟩ := hf
        refine x_cVi (pc := 1129) (M' := mX7_sheet) (as := [.int (v1118), .int (v1123), .int (v1128)]) (st := []) (a := x1) (ci := 7) dL_law_1129 mo_X7_sheet lk_L_126 im_X7_sheet se_X7_sheet rfl ⟨Nat.le_of_ble_eq_true rfl, Nat.le_of_ble_eq_true rfl⟩ rfl (Nat.le_of_ble_eq_true rfl) rfl i1129 (tm_X7_sheet e1129) ?_
        refine x_aload_n (pc := 1132) (a := x2) dL_law_1132 rfl ?_
        refine x_aloadS (pc := 1133) dL_law_1133 rfl ?_
        refine x_iload_n (pc := 1134) (x := x3) dL_law_1134 rfl ?_
        refine x_iconst (pc := 1135) (v := 1) dL_law_1135 (by decide) ?_
        refine x_iadd (pc := 1136) dL_law_1136 ?_
        replace hf := bd_s hf; obtain ⟨v1137, e1137, hf⟩ := hf
        refine x_ldSo (pc := 1137) dL_law_1137 e1137 ?_
        refine x_aloadS (pc := 1138) dL_law_1138 rfl ?_
        refine x_iload_n (pc := 1139) (x := x3) dL_law_1139 rfl ?_
        refine x_iconst (pc := 1140) (v := 2) dL_law_1140 (by decide) ?_
        refine x_iadd (pc := 1141) dL_law_1141 ?_
        replace hf := bd_s hf; obtain ⟨v1142, e1142, hf⟩ := hf
        refine x_ldSo (pc := 1142) dL_law_1142 e1142 ?_
        refine x_aloadS (pc := 1143) dL_law_1143 rfl ?_
        refine x_iload_n (pc := 1144) (x := x3) dL_law_1144 rfl ?_
        refine x_iconst (pc := 1145) (v := 3) dL_law_1145 (by decide) ?_
        refine x_iadd (pc := 1146) dL_law_1146 ?_
        replace hf := bd_s hf; obtain ⟨v1147, e1147, hf⟩ := hf
        refine x_ldSo (pc := 1147) dL_law_1147 e1147 ?_
        replace hf := bd_s hf; obtain ⟨u1148, i1148, hf⟩ := hf
        replace hf := bd2_s hf; obtain ⟨v1148, h1148, e1148, hf⟩ := hf
        refine x_cVi (pc := 1148) (M' := mX8_sheet) (as := [.int (v1137), .int (v1142), .int (v1147)]) (st := [.int (v1129)]) (a := x2) (ci := 8) dL_law_1148 mo_X8_sheet lk_L_129 im_X8_sheet se_X8_sheet rfl ⟨Nat.le_of_ble_eq_true rfl, Nat.le_of_ble_eq_true rfl⟩ rfl (Nat.le_of_ble_eq_true rfl) rfl i1148 (tm_X8_sheet e1148) ?_
        refine x_icmp_eq (pc := 1151) (tgt := 1331) (x := v1129) (y := v1148) dL_law_1151 rfl (fun hc => ?_) (fun hc => ?_)
        · replace hf := it_t hc hf
          refine x_iinc (pc := 1331) (x := x3) (v := x3 + 6) (ls' := [some (.retAddr 0), some (va_rf (x1)), some (va_rf (x2)), some (.int (x3 + 6))]) dL_law_1331 rfl rfl (by decide) rfl ?_
          refine x_goto (pc := 1334) (tgt := 18) dL_law_1334 rfl ?_
          exact ih hf
        · replace hf := it_f hc hf
          refine x_iconst (pc := 1154) (v := 0) dL_law_1154 (by decide) ?_
          obtain ⟨rfl, rfl⟩ := ret_s hf
          exact x_retz (pc := 1155) dL_law_1155 rfl (by decide)
      replace hf := it_f hc27 hf
      by_cases hc28 : (v29 &&& 63) = 28
      · replace hf := it_t hc28 hf
        refine x_tabK (pc := 33) (k := 28) (tgt := 1156) dL_law_33 hc28 (by decide) (by decide) (by rfl) rfl ?_
        refine x_aload_n (pc := 1156) (a := x1) dL_law_1156 rfl ?_
        refine x_aloadS (pc := 1157) dL_law_1157 rfl ?_
        refine x_iload_n (pc := 1158) (x := x3) dL_law_1158 rfl ?_
        refine x_iconst (pc := 1159) (v := 1) dL_law_1159 (by decide) ?_
        refine x_iadd (pc := 1160) dL_law_1160 ?_
        replace hf := bd_s hf; obtain ⟨v1161, e1161, hf⟩ := hf
        refine x_ldSo (pc := 1161) dL_law_1161 e1161 ?_
        refine x_aloadS (pc := 1162) dL_law_1162 rfl ?_
        refine x_iload_n (pc := 1163) (x := x3) dL_law_1163 rfl ?_
        refine x_iconst (pc := 1164) (v := 2) dL_law_1164 (by decide) ?_
        refine x_iadd (pc := 1165) dL_law_1165 ?_
        replace hf := bd_s hf; obtain ⟨v1166, e1166, hf⟩ := hf
        refine x_ldSo (pc := 1166) dL_law_1166 e1166 ?_
        refine x_aloadS (pc := 1167) dL_law_1167 rfl ?_
        refine x_iload_n (pc := 1168) (x := x3) dL_law_1168 rfl ?_
        refine x_iconst (pc := 1169) (v := 3) dL_law_1169 (by decide) ?_
        refine x_iadd (pc := 1170) dL_law_1170 ?_
        replace hf := bd_s hf; obtain ⟨v1171, e1171, hf⟩ := hf
        refine x_ldSo (pc := 1171) dL_law_1171 e1171 ?_
        replace hf := bd_s hf; obtain ⟨u1172, i1172, hf⟩ := hf
        replace hf := bd2_s hf; obtain ⟨v1172, h1172, e1172, hf⟩ := hf
        refine x_cVi (pc := 1172) (M' := mX7_put) (as := [.int (v1161), .int (v1166), .int (v1171)]) (st := []) (a := x1) (ci := 7) dL_law_1172 mo_X7_put lk_L_130 im_X7_put se_X7_put rfl ⟨Nat.le_of_ble_eq_true rfl, Nat.le_of_ble_eq_true rfl⟩ rfl (Nat.le_of_ble_eq_true rfl) rfl i1172 (tm_X7_put e1172) ?_
        refine x_aload_n (pc := 1175) (a := x2) dL_law_1175 rfl ?_
        refine x_aloadS (pc := 1176) dL_law_1176 rfl ?_
        refine x_iload_n (pc := 1177) (x := x3) dL_law_1177 rfl ?_
        refine x_iconst (pc := 1178) (v := 1) dL_law_1178 (by decide) ?_
        refine x_iadd (pc := 1179) dL_law_1179 ?_
        replace hf := bd_s hf; obtain ⟨v1180, e1180, hf⟩ := hf
        refine x_ldSo (pc := 1180) dL_law_1180 e1180 ?_
        refine x_aloadS (pc := 1181) dL_law_1181 rfl ?_
        refine x_iload_n (pc := 1182) (x := x3) dL_law_1182 rfl ?_
        refine x_iconst (pc := 1183) (v := 2) dL_law_1183 (by decide) ?_
        refine x_iadd (pc := 1184) dL_law_1184 ?_
        replace hf := bd_s hf; obtain ⟨v1185, e1185, hf⟩ := hf
        refine x_ldSo (pc := 1185) dL_law_1185 e1185 ?_
        refine x_aloadS (pc := 1186) dL_law_1186 rfl ?_
        refine x_iload_n (pc := 1187) (x := x3) dL_law_1187 rfl ?_
        refine x_iconst (pc := 1188) (v := 3) dL_law_1188 (by decide) ?_
        refine x_iadd (pc := 1189) dL_law_1189 ?_
        replace hf := bd_s hf; obtain ⟨v1190, e1190, hf⟩ := hf
        refine x_ldSo (pc := 1190) dL_law_1190 e1190 ?_
        replace hf := bd_s hf; obtain ⟨u1191, i1191, hf⟩ := hf
        replace hf := bd2_s hf; obtain ⟨v1191, h1191, e1191, hf⟩ := hf
        refine x_cVi (pc := 1191) (M' := mX8_put) (as := [.int (v1180), .int (v1185), .int (v1190)]) (st := [.int (v1172)]) (a := x2) (ci := 8) dL_law_1191 mo_X8_put lk_L_133 im_X8_put se_X8_put rfl ⟨Nat.le_of_ble_eq_true rfl, Nat.le_of_ble_eq_true rfl⟩ rfl (Nat.le_of_ble_eq_true rfl) rfl i1191 (tm_X8_put e1191) ?_
        refine x_icmp_eq (pc := 1194) (tgt := 1331) (x := v1172) (y := v1191) dL_law_1194 rfl (fun hc => ?_) (fun hc => ?_)
        · replace hf := it_t hc hf
          refine x_iinc (pc := 1331) (x := x3) (v := x3 + 6) (ls' := [some (.retAddr 0), some (va_rf (x1)), some (va_rf (x2)), some (.int (x3 + 6))]) dL_law_1331 rfl rfl (by decide) rfl ?_
          refine x_goto (pc := 1334) (tgt := 18) dL_law_1334 rfl ?_
          exact ih hf
        · replace hf := it_f hc hf
          refine x_iconst (pc := 1197) (v := 0) dL_law_1197 (by decide) ?_
          obtain ⟨rfl, rfl⟩ := ret_s hf
          exact x_retz (pc := 1198) dL_law_1198 rfl (by decide)
      replace hf := it_f hc28 hf
      by_cases hc29 : (v29 &&& 63) = 29
      · replace hf := it_t hc29 hf
        refine x_tabK (pc := 33) (k := 29) (tgt := 1199) dL_law_33 hc29 (by decide) (by decide) (by rfl) rfl ?_
        refine x_aload_n (pc := 1199) (a := x1) dL_law_1199 rfl ?_
        refine x_aloadS (pc := 1200) dL_law_1200 rfl ?_
        refine x_iload_n (pc := 1201) (x := x3) dL_law_1201 rfl ?_
        refine x_iconst (pc := 1202) (v := 1) dL_law_1202 (by decide) ?_
        refine x_iadd (pc := 1203) dL_law_1203 ?_
        replace hf := bd_s hf; obtain ⟨v1204, e1204, hf⟩ := hf
        refine x_ldSo (pc := 1204) dL_law_1204 e1204 ?_
        refine x_aloadS (pc := 1205) dL_law_1205 rfl ?_
        refine x_iload_n (pc := 1206) (x := x3) dL_law_1206 rfl ?_
        refine x_iconst (pc := 1207) (v := 2) dL_law_1207 (by decide) ?_
        refine x_iadd (pc := 1208) dL_law_1208 ?_
        replace hf := bd_s hf; obtain ⟨v1209, e1209, hf⟩ := hf
        refine x_ldSo (pc := 1209) dL_law_1209 e1209 ?_
        refine x_aloadS (pc := 1210) dL_law_1210 rfl ?_
        refine x_iload_n (pc := 1211) (x := x3) dL_law_1211 rfl ?_
        refine x_iconst (pc := 1212) (v := 3) dL_law_1212 (by decide) ?_
        refine x_iadd (pc := 1213) dL_law_1213 ?_
        replace hf := bd_s hf; obtain ⟨v1214, e1214, hf⟩ := hf
        refine x_ldSo (pc := 1214) dL_law_1214 e1214 ?_
        refine x_aloadS (pc := 1215) dL_law_1215 rfl ?_
        refine x_iload_n (pc := 1216) (x := x3) dL_law_1216 rfl ?_
        refine x_iconst (pc := 1217) (v := 4) dL_law_1217 (by decide) ?_
        refine x_iadd (pc := 1218) dL_law_1218 ?_
        replace hf := bd_s hf; obtain ⟨v1219, e1219, hf⟩ := hf
        refine x_ldSo (pc := 1219) dL_law_1219 e1219 ?_
        refine x_aloadS (pc := 1220) dL_law_1220 rfl ?_
        refine x_iload_n (pc := 1221) (x := x3) dL_law_1221 rfl ?_
        refine x_iconst (pc := 1222) (v := 5) dL_law_1222 (by decide) ?_
        refine x_iadd (pc := 1223) dL_law_1223 ?_
        replace hf := bd_s hf; obtain ⟨v1224, e1224, hf⟩ := hf
        refine x_ldSo (pc := 1224) dL_law_1224 e1224 ?_
        replace hf := bd_s hf; obtain ⟨u1225, i1225, hf⟩ := hf
        replace hf := bd2_s hf; obtain ⟨v1225, h1225, e1225, hf⟩ := hf
        refine x_cVi (pc := 1225) (M' := mX7_copy) (as := [.int (v1204), .int (v1209), .int (v1214), .int (v1219), .int (v1224)]) (st := []) (a := x1) (ci := 7) dL_law_1225 mo_X7_copy lk_L_134 im_X7_copy se_X7_copy rfl ⟨Nat.le_of_ble_eq_true rfl, Nat.le_of_ble_eq_true rfl⟩ rfl (Nat.le_of_ble_eq_true rfl) rfl i1225 (tm_X7_copy e1225) ?_
        refine x_aload_n (pc := 1228) (a := x2) dL_law_1228 rfl ?_
        refine x_aloadS (pc := 1229) dL_law_1229 rfl ?_
        refine x_iload_n (pc := 1230) (x := x3) dL_law_1230 rfl ?_
        refine x_iconst (pc := 1231) (v := 1) dL_law_1231 (by decide) ?_
        refine x_iadd (pc := 1232) dL_law_1232 ?_
        replace hf := bd_s hf; obtain ⟨v1233, e1233, hf⟩ := hf
        refine x_ldSo (pc := 1233) dL_law_1233 e1233 ?_
        refine x_aloadS (pc := 1234) dL_law_1234 rfl ?_
        refine x_iload_n (pc := 1235) (x := x3) dL_law_1235 rfl ?_
        refine x_iconst (pc := 1236) (v := 2) dL_law_1236 (by decide) ?_
        refine x_iadd (pc := 1237) dL_law_1237 ?_
        replace hf := bd_s hf; obtain ⟨v1238, e1238, hf⟩ := hf
        refine x_ldSo (pc := 1238) dL_law_1238 e1238 ?_
        refine x_aloadS (pc := 1239) dL_law_1239 rfl ?_
        refine x_iload_n (pc := 1240) (x := x3) dL_law_1240 rfl ?_
        refine x_iconst (pc := 1241) (v := 3) dL_law_1241 (by decide) ?_
        refine x_iadd (pc := 1242) dL_law_1242 ?_
        replace hf := bd_s hf; obtain ⟨v1243, e1243, hf⟩ := hf
        refine x_ldSo (pc := 1243) dL_law_1243 e1243 ?_
        refine x_aloadS (pc := 1244) dL_law_1244 rfl ?_
        refine x_iload_n (pc := 1245) (x := x3) dL_law_1245 rfl ?_
        refine x_iconst (pc := 1246) (v := 4) dL_law_1246 (by decide) ?_
        refine x_iadd (pc := 1247) dL_law_1247 ?_
        replace hf := bd_s hf; obtain ⟨v1248, e1248, hf⟩ := hf
        refine x_ldSo (pc := 1248) dL_law_1248 e1248 ?_
        refine x_aloadS (pc := 1249) dL_law_1249 rfl ?_
        refine x_iload_n (pc := 1250) (x := x3) dL_law_1250 rfl ?_
        refine x_iconst (pc := 1251) (v := 5) dL_law_1251 (by decide) ?_
        refine x_iadd (pc := 1252) dL_law_1252 ?_
        replace hf := bd_s hf; obtain ⟨v1253, e1253, hf⟩ := hf
        refine x_ldSo (pc := 1253) dL_law_1253 e1253 ?_
        replace hf := bd_s hf; obtain ⟨u1254, i1254, hf⟩ := hf
        replace hf := bd2_s hf; obtain ⟨v1254, h1254, e1254, hf⟩ := hf
        refine x_cVi (pc := 1254) (M' := mX8_copy) (as := [.int (v1233), .int (v1238), .int (v1243), .int (v1248), .int (v1253)]) (st := [.int (v1225)]) (a := x2) (ci := 8) dL_law_1254 mo_X8_copy lk_L_137 im_X8_copy se_X8_copy rfl ⟨Nat.le_of_ble_eq_true rfl, Nat.le_of_ble_eq_true rfl⟩ rfl (Nat.le_of_ble_eq_true rfl) rfl i1254 (tm_X8_copy e1254) ?_
        refine x_icmp_eq (pc := 1257) (tgt := 1331) (x := v1225) (y := v1254) dL_law_1257 rfl (fun hc => ?_) (fun hc => ?_)
        · replace hf := it_t hc hf
          refine x_iinc (pc := 1331) (x := x3) (v := x3 + 6) (ls' := [some (.retAddr 0), some (va_rf (x1)), some (va_rf (x2)), some (.int (x3 + 6))]) dL_law_1331 rfl rfl (by decide) rfl ?_
          refine x_goto (pc := 1334) (tgt := 18) dL_law_1334 rfl ?_
          exact ih hf
        · replace hf := it_f hc hf
          refine x_iconst (pc := 1260) (v := 0) dL_law_1260 (by decide) ?_
          obtain ⟨rfl, rfl⟩ := ret_s hf
          exact x_retz (pc := 1261) dL_law_1261 rfl (by decide)
      replace hf := it_f hc29 hf
      by_cases hc30 : (v29 &&& 63) = 30
      · replace hf := it_t hc30 hf
        refine x_tabK (pc := 33) (k := 30) (tgt := 1262) dL_law_33 hc30 (by decide) (by decide) (by rfl) rfl ?_
        refine x_aload_n (pc := 1262) (a := x1) dL_law_1262 rfl ?_
        refine x_aloadS (pc := 1263) dL_law_1263 rfl ?_
        refine x_iload_n (pc := 1264) (x := x3) dL_law_1264 rfl ?_
        refine x_iconst (pc := 1265) (v := 1) dL_law_1265 (by decide) ?_
        refine x_iadd (pc := 1266) dL_law_1266 ?_
        replace hf := bd_s hf; obtain ⟨v1267, e1267, hf⟩ := hf
        refine x_ldSo (pc := 1267) dL_law_1267 e1267 ?_
        refine x_aloadS (pc := 1268) dL_law_1268 rfl ?_
        refine x_iload_n (pc := 1269) (x := x3) dL_law_1269 rfl ?_
        refine x_iconst (pc := 1270) (v := 2) dL_law_1270 (by decide) ?_
        refine x_iadd (pc := 1271) dL_law_1271 ?_
        replace hf := bd_s hf; obtain ⟨v1272, e1272, hf⟩ := hf
        refine x_ldSo (pc := 1272) dL_law_1272 e1272 ?_
        replace hf := bd_s hf; obtain ⟨u1273, i1273, hf⟩ := hf
        replace hf := bd2_s hf; obtain ⟨v1273, h1273, e1273, hf⟩ := hf
        refine x_cVi (pc := 1273) (M' := mX7_let) (as := [.int (v1267), .int (v1272)]) (st := []) (a := x1) (ci := 7) dL_law_1273 mo_X7_let lk_L_138 im_X7_let se_X7_let rfl ⟨Nat.le_of_ble_eq_true rfl, Nat.le_of_ble_eq_true rfl⟩ rfl (Nat.le_of_ble_eq_true rfl) rfl i1273 (tm_X7_let e1273) ?_
        refine x_aload_n (pc := 1276) (a := x2) dL_law_1276 rfl ?_
        refine x_aloadS (pc := 1277) dL_law_1277 rfl ?_
        refine x_iload_n (pc := 1278) (x := x3) dL_law_1278 rfl ?_
        refine x_iconst (pc := 1279) (v := 1) dL_law_1279 (by decide) ?_
        refine x_iadd (pc := 1280) dL_law_1280 ?_
        replace hf := bd_s hf; obtain ⟨v1281, e1281, hf⟩ := hf
        refine x_ldSo (pc := 1281) dL_law_1281 e1281 ?_
        refine x_aloadS (pc := 1282) dL_law_1282 rfl ?_
        refine x_iload_n (pc := 1283) (x := x3) dL_law_1283 rfl ?_
        refine x_iconst (pc := 1284) (v := 2) dL_law_1284 (by decide) ?_
        refine x_iadd (pc := 1285) dL_law_1285 ?_
        replace hf := bd_s hf; obtain ⟨v1286, e1286, hf⟩ := hf
        refine x_ldSo (pc := 1286) dL_law_1286 e1286 ?_
        replace hf := bd_s hf; obtain ⟨u1287, i1287, hf⟩ := hf
        replace hf := bd2_s hf; obtain ⟨v1287, h1287, e1287, hf⟩ := hf
        refine x_cVi (pc := 1287) (M' := mX8_let) (as := [.int (v1281), .int (v1286)]) (st := [.int (v1273)]) (a := x2) (ci := 8) dL_law_1287 mo_X8_let lk_L_141 im_X8_let se_X8_let rfl ⟨Nat.le_of_ble_eq_true rfl, Nat.le_of_ble_eq_true rfl⟩ rfl (Nat.le_of_ble_eq_true rfl) rfl i1287 (tm_X8_let e1287) ?_
        refine x_icmp_eq (pc := 1290) (tgt := 1331) (x := v1273) (y := v1287) dL_law_1290 rfl (fun hc => ?_) (fun hc => ?_)
        · replace hf := it_t hc hf
          refine x_iinc (pc := 1331) (x := x3) (v := x3 + 6) (ls' := [some (.retAddr 0), some (va_rf (x1)), some (va_rf (x2)), some (.int (x3 + 6))]) dL_law_1331 rfl rfl (by decide) rfl ?_
          refine x_goto (pc := 1334) (tgt := 18) dL_law_1334 rfl ?_
          exact ih hf
        · replace hf := it_f hc hf
          refine x_iconst (pc := 1293) (v := 0) dL_law_1293 (by decide) ?_
          obtain ⟨rfl, rfl⟩ := ret_s hf
          exact x_retz (pc := 1294) dL_law_1294 rfl (by decide)
      replace hf := it_f hc30 hf
      by_cases hc31 : (v29 &&& 63) = 31
      · replace hf := it_t hc31 hf
        refine x_tabK (pc := 33) (k := 31) (tgt := 1295) dL_law_33 hc31 (by decide) (by decide) (by rfl) rfl ?_
        refine x_aload_n (pc := 1295) (a := x1) dL_law_1295 rfl ?_
        replace hf := bd_s hf; obtain ⟨u1296, i1296, hf⟩ := hf
        replace hf := bd2_s hf; obtain ⟨v1296, h1296, e1296, hf⟩ := hf
        refine x_cVi (pc := 1296) (M' := mX7_undo) (as := []) (st := []) (a := x1) (ci := 7) dL_law_1296 mo_X7_undo lk_L_142 im_X7_undo se_X7_undo rfl ⟨Nat.le_of_ble_eq_true rfl, Nat.le_of_ble_eq_true rfl⟩ rfl (Nat.le_of_ble_eq_true rfl) rfl i1296 (tm_X7_undo e1296) ?_
        refine x_aload_n (pc := 1299) (a := x2) dL_law_1299 rfl ?_
        replace hf := bd_s hf; obtain ⟨u1300, i1300, hf⟩ := hf
        replace hf := bd2_s hf; obtain ⟨v1300, h1300, e1300, hf⟩ := hf
        refine x_cVi (pc := 1300) (M' := mX8_undo) (as := []) (st := [.int (v1296)]) (a := x2) (ci := 8) dL_law_1300 mo_X8_undo lk_L_146 im_X8_undo se_X8_undo rfl ⟨Nat.le_of_ble_eq_true rfl, Nat.le_of_ble_eq_true rfl⟩ rfl (Nat.le_of_ble_eq_true rfl) rfl i1300 (tm_X8_undo e1300) ?_
        refine x_icmp_eq (pc := 1303) (tgt := 1331) (x := v1296) (y := v1300) dL_law_1303 rfl (fun hc => ?_) (fun hc => ?_)
        · replace hf := it_t hc hf
          refine x_iinc (pc := 1331) (x := x3) (v := x3 + 6) (ls' := [some (.retAddr 0), some (va_rf (x1)), some (va_rf (x2)), some (.int (x3 + 6))]) dL_law_1331 rfl rfl (by decide) rfl ?_
          refine x_goto (pc := 1334) (tgt := 18) dL_law_1334 rfl ?_
          exact ih hf
        · replace hf := it_f hc hf
          refine x_iconst (pc := 1306) (v := 0) dL_law_1306 (by decide) ?_
          obtain ⟨rfl, rfl⟩ := ret_s hf
          exact x_retz (pc := 1307) dL_law_1307 rfl (by decide)
      replace hf := it_f hc31 hf
      by_cases hc32 : (v29 &&& 63) = 32
      · replace hf := it_t hc32 hf
        refine x_tabK (pc := 33) (k := 32) (tgt := 1308) dL_law_33 hc32 (by decide) (by decide) (by rfl) rfl ?_
        refine x_aload_n (pc := 1308) (a := x1) dL_law_1308 rfl ?_
        refine x_aloadS (pc := 1309) dL_law_1309 rfl ?_
        refine x_iload_n (pc := 1310) (x := x3) dL_law_1310 rfl ?_
        refine x_iconst (pc := 1311) (v := 1) dL_law_1311 (by decide) ?_
        refine x_iadd (pc := 1312) dL_law_1312 ?_
        replace hf := bd_s hf; obtain ⟨v1313, e1313, hf⟩ := hf
        refine x_ldSo (pc := 1313) dL_law_1313 e1313 ?_
        replace hf := bd_s hf; obtain ⟨u1314, i1314, hf⟩ := hf
        replace hf := bd2_s hf; obtain ⟨v1314, h1314, e1314, hf⟩ := hf
        refine x_cVi (pc := 1314) (M' := mX7_all) (as := [.int (v1313)]) (st := []) (a := x1) (ci := 7) dL_law_1314 mo_X7_all lk_L_147 im_X7_all se_X7_all rfl ⟨Nat.le_of_ble_eq_true rfl, Nat.le_of_ble_eq_true rfl⟩ rfl (Nat.le_of_ble_eq_true rfl) rfl i1314 (tm_X7_all e1314) ?_
        refine x_aload_n (pc := 1317) (a := x2) dL_law_1317 rfl ?_
        refine x_aloadS (pc := 1318) dL_law_1318 rfl ?_
        refine x_iload_n (pc := 1319) (x := x3) dL_law_1319 rfl ?_
        refine x_iconst (pc := 1320) (v := 1) dL_law_1320 (by decide) ?_
        refine x_iadd (pc := 1321) dL_law_1321 ?_
        replace hf := bd_s hf; obtain ⟨v1322, e1322, hf⟩ := hf
        refine x_ldSo (pc := 1322) dL_law_1322 e1322 ?_
        replace hf := bd_s hf; obtain ⟨u1323, i1323, hf⟩ := hf
        replace hf := bd2_s hf; obtain ⟨v1323, h1323, e1323, hf⟩ := hf
        refine x_cVi (pc := 1323) (M' := mX8_all) (as := [.int (v1322)]) (st := [.int (v1314)]) (a := x2) (ci := 8) dL_law_1323 mo_X8_all lk_L_150 im_X8_all se_X8_all rfl ⟨Nat.le_of_ble_eq_true rfl, Nat.le_of_ble_eq_true rfl⟩ rfl (Nat.le_of_ble_eq_true rfl) rfl i1323 (tm_X8_all e1323) ?_
        refine x_icmp_eq (pc := 1326) (tgt := 1331) (x := v1314) (y := v1323) dL_law_1326 rfl (fun hc => ?_) (fun hc => ?_)
        · replace hf := it_t hc hf
          refine x_iinc (pc := 1331) (x := x3) (v := x3 + 6) (ls' := [some (.retAddr 0), some (va_rf (x1)), some (va_rf (x2)), some (.int (x3 + 6))]) dL_law_1331 rfl rfl (by decide) rfl ?_
          refine x_goto (pc := 1334) (tgt := 18) dL_law_1334 rfl ?_
          exact ih hf
        · replace hf := it_f hc hf
          refine x_iconst (pc := 1329) (v := 0) dL_law_1329 (by decide) ?_
          obtain ⟨rfl, rfl⟩ := ret_s hf
          exact x_retz (pc := 1330) dL_law_1330 rfl (by decide)
      replace hf := it_f hc32 hf
      refine x_tabD (pc := 33) (n := 32) (tgt := 1331) dL_law_33 (fun k hk => match k, hk with
        | 0, _ => hc0
        | 1, _ => hc1
        | 2, _ => hc2
        | 3, _ => hc3
        | 4, _ => hc4
        | 5, _ => hc5
        | 6, _ => hc6
        | 7, _ => hc7
        | 8, _ => hc8
        | 9, _ => hc9
        | 10, _ => hc10
        | 11, _ => hc11
        | 12, _ => hc12
        | 13, _ => hc13
        | 14, _ => hc14
        | 15, _ => hc15
        | 16, _ => hc16
        | 17, _ => hc17
        | 18, _ => hc18
        | 19, _ => hc19
        | 20, _ => hc20
        | 21, _ => hc21
        | 22, _ => hc22
        | 23, _ => hc23
        | 24, _ => hc24
        | 25, _ => hc25
        | 26, _ => hc26
        | 27, _ => hc27
        | 28, _ => hc28
        | 29, _ => hc29
        | 30, _ => hc30
        | 31, _ => hc31
        | 32, _ => hc32
        | k + 33, hk => absurd hk (by omega)) (by decide) rfl ?_
      refine x_iinc (pc := 1331) (x := x3) (v := x3 + 6) (ls' := [some (.retAddr 0), some (va_rf (x1)), some (va_rf (x2)), some (.int (x3 + 6))]) dL_law_1331 rfl rfl (by decide) rfl ?_
      refine x_goto (pc := 1334) (tgt := 18) dL_law_1334 rfl ?_
      exact ih hf

def f_L_law (L : Nat) (xs : Nat → Int32) (h : AH) : Option (Int32 × AH) :=
  bd (nO h 7 7) fun h0 =>
  bd (f_X7_init h0 (hn h)) fun h4 =>
  bd (nO h4 8 13) fun h8 =>
  bd (f_X8_init h8 (hn h4)) fun h12 =>
  g_L_law_18 L xs  NN h12 (some (hn h)) (some (hn h4)) 0

set_option maxRecDepth 100000 in
set_option maxHeartbeats 4000000 in
theorem tm_L_law {g : GT} {h : AH} {r : Int32} {h' : AH} (hf : f_L_law (g_n g) (g_x g) h = some (r, h')) : Xj g mL_law h 0 [some (.retAddr 0), none, none, none] [] (some (.int r)) h' := by
  rw [f_L_law] at hf
  replace hf := bd_s hf; obtain ⟨h0, e0, hf⟩ := hf
  refine x_nO (pc := 0) dL_law_0 nl_L_7 e0 ?_
  refine x_dup (pc := 3) dL_law_3 ?_
  replace hf := bd_s hf; obtain ⟨h4, e4, hf⟩ := hf
  refine x_cI (pc := 4) (M' := mX7_init) (as := []) (st := [va_rf (some (hn h))]) (a := (hn h)) dL_law_4 mo_X7_init lk_L_9 im_X7_init rfl rfl ⟨Nat.le_of_ble_eq_true rfl, Nat.le_of_ble_eq_true rfl⟩ rfl (Nat.le_of_ble_eq_true rfl) rfl (tm_X7_init e4) ?_
  refine x_astore_n (pc := 7) (ls' := [some (.retAddr 0), some (va_rf (some (hn h))), none, none]) dL_law_7 (by decide) rfl ?_
  replace hf := bd_s hf; obtain ⟨h8, e8, hf⟩ := hf
  refine x_nO (pc := 8) dL_law_8 nl_L_10 e8 ?_
  refine x_dup (pc := 11) dL_law_11 ?_
  replace hf := bd_s hf; obtain ⟨h12, e12, hf⟩ := hf
  refine x_cI (pc := 12) (M' := mX8_init) (as := []) (st := [va_rf (some (hn h4))]) (a := (hn h4)) dL_law_12 mo_X8_init lk_L_12 im_X8_init rfl rfl ⟨Nat.le_of_ble_eq_true rfl, Nat.le_of_ble_eq_true rfl⟩ rfl (Nat.le_of_ble_eq_true rfl) rfl (tm_X8_init e12) ?_
  refine x_astore_n (pc := 15) (ls' := [some (.retAddr 0), some (va_rf (some (hn h))), some (va_rf (some (hn h4))), none]) dL_law_15 (by decide) rfl ?_
  refine x_iconst (pc := 16) (v := 0) dL_law_16 (by decide) ?_
  refine x_istore_n (pc := 17) (ls' := [some (.retAddr 0), some (va_rf (some (hn h))), some (va_rf (some (hn h4))), some (.int (0))]) dL_law_17 (by decide) rfl ?_
  exact tg_L_law_18  NN hf
