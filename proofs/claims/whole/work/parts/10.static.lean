/-! what the tables say, by program: classes, fields, links, methods -/
set_option maxRecDepth 100000 in
theorem cO0 : cOk 0 (RX0, TX0, 3) tyX0 := ⟨rfl, by decide +kernel, tyX0_ok, nmX0⟩
set_option maxRecDepth 100000 in
theorem cO1 : cOk 1 (RX1, TX1, 3) tyX1 := ⟨rfl, by decide +kernel, tyX1_ok, nmX1⟩
set_option maxRecDepth 100000 in
theorem cO2 : cOk 2 (RX2, TX2, 4) tyX2 := ⟨rfl, by decide +kernel, tyX2_ok, nmX2⟩
set_option maxRecDepth 100000 in
theorem cO3 : cOk 3 (RX3, TX3, 5) tyX3 := ⟨rfl, by decide +kernel, tyX3_ok, nmX3⟩
set_option maxRecDepth 100000 in
theorem cO4 : cOk 4 (RX4, TX4, 9) tyX4 := ⟨rfl, by decide +kernel, tyX4_ok, nmX4⟩
set_option maxRecDepth 100000 in
theorem cO5 : cOk 5 (RX5, TX5, 3) tyX5 := ⟨rfl, by decide +kernel, tyX5_ok, nmX5⟩
set_option maxRecDepth 100000 in
theorem cO6 : cOk 6 (RX6, TX6, 3) tyX6 := ⟨rfl, by decide +kernel, tyX6_ok, nmX6⟩
set_option maxRecDepth 100000 in
theorem cO7 : cOk 7 (RX7, TX7, 7) tyX7 := ⟨rfl, by decide +kernel, tyX7_ok, nmX7⟩
set_option maxRecDepth 100000 in
theorem cO8 : cOk 8 (RX8, TX8, 13) tyX8 := ⟨rfl, by decide +kernel, tyX8_ok, nmX8⟩
theorem fl_4_11 : fL RX4 11 4 0 true := ⟨(RX4, TX4, 9), tyX4, cO4, by decide, by decide +kernel, (in_tb 75 (by decide +kernel) (by decide +kernel)), fun z => absurd z (by decide), fun _ => Or.inl ⟨_, rfl⟩⟩
theorem fl_7_64 : fL RX7 64 4 0 true := ⟨(RX4, TX4, 9), tyX4, cO4, by decide, by decide +kernel, (in_tb 76 (by decide +kernel) (by decide +kernel)), fun z => absurd z (by decide), fun _ => Or.inl ⟨_, rfl⟩⟩
theorem fl_4_15 : fL RX4 15 4 1 true := ⟨(RX4, TX4, 9), tyX4, cO4, by decide, by decide +kernel, (in_tb 77 (by decide +kernel) (by decide +kernel)), fun z => absurd z (by decide), fun _ => Or.inl ⟨_, rfl⟩⟩
theorem fl_7_72 : fL RX7 72 4 1 true := ⟨(RX4, TX4, 9), tyX4, cO4, by decide, by decide +kernel, (in_tb 78 (by decide +kernel) (by decide +kernel)), fun z => absurd z (by decide), fun _ => Or.inl ⟨_, rfl⟩⟩
theorem fl_4_18 : fL RX4 18 4 2 true := ⟨(RX4, TX4, 9), tyX4, cO4, by decide, by decide +kernel, (in_tb 79 (by decide +kernel) (by decide +kernel)), fun z => absurd z (by decide), fun _ => Or.inl ⟨_, rfl⟩⟩
theorem fl_7_106 : fL RX7 106 4 2 true := ⟨(RX4, TX4, 9), tyX4, cO4, by decide, by decide +kernel, (in_tb 80 (by decide +kernel) (by decide +kernel)), fun z => absurd z (by decide), fun _ => Or.inl ⟨_, rfl⟩⟩
theorem fl_4_21 : fL RX4 21 4 3 true := ⟨(RX4, TX4, 9), tyX4, cO4, by decide, by decide +kernel, (in_tb 81 (by decide +kernel) (by decide +kernel)), fun z => absurd z (by decide), fun _ => Or.inl ⟨_, rfl⟩⟩
theorem fl_7_76 : fL RX7 76 4 3 true := ⟨(RX4, TX4, 9), tyX4, cO4, by decide, by decide +kernel, (in_tb 82 (by decide +kernel) (by decide +kernel)), fun z => absurd z (by decide), fun _ => Or.inl ⟨_, rfl⟩⟩
theorem fl_4_24 : fL RX4 24 4 4 true := ⟨(RX4, TX4, 9), tyX4, cO4, by decide, by decide +kernel, (in_tb 83 (by decide +kernel) (by decide +kernel)), fun z => absurd z (by decide), fun _ => Or.inl ⟨_, rfl⟩⟩
theorem fl_7_79 : fL RX7 79 4 4 true := ⟨(RX4, TX4, 9), tyX4, cO4, by decide, by decide +kernel, (in_tb 84 (by decide +kernel) (by decide +kernel)), fun z => absurd z (by decide), fun _ => Or.inl ⟨_, rfl⟩⟩
theorem fl_4_28 : fL RX4 28 4 5 true := ⟨(RX4, TX4, 9), tyX4, cO4, by decide, by decide +kernel, (in_tb 85 (by decide +kernel) (by decide +kernel)), fun z => absurd z (by decide), fun _ => Or.inl ⟨_, rfl⟩⟩
theorem fl_7_88 : fL RX7 88 4 5 true := ⟨(RX4, TX4, 9), tyX4, cO4, by decide, by decide +kernel, (in_tb 86 (by decide +kernel) (by decide +kernel)), fun z => absurd z (by decide), fun _ => Or.inl ⟨_, rfl⟩⟩
theorem fl_4_31 : fL RX4 31 4 6 true := ⟨(RX4, TX4, 9), tyX4, cO4, by decide, by decide +kernel, (in_tb 87 (by decide +kernel) (by decide +kernel)), fun z => absurd z (by decide), fun _ => Or.inl ⟨_, rfl⟩⟩
theorem fl_7_91 : fL RX7 91 4 6 true := ⟨(RX4, TX4, 9), tyX4, cO4, by decide, by decide +kernel, (in_tb 88 (by decide +kernel) (by decide +kernel)), fun z => absurd z (by decide), fun _ => Or.inl ⟨_, rfl⟩⟩
theorem fl_4_34 : fL RX4 34 4 7 true := ⟨(RX4, TX4, 9), tyX4, cO4, by decide, by decide +kernel, (in_tb 89 (by decide +kernel) (by decide +kernel)), fun z => absurd z (by decide), fun _ => Or.inl ⟨_, rfl⟩⟩
theorem fl_7_94 : fL RX7 94 4 7 true := ⟨(RX4, TX4, 9), tyX4, cO4, by decide, by decide +kernel, (in_tb 90 (by decide +kernel) (by decide +kernel)), fun z => absurd z (by decide), fun _ => Or.inl ⟨_, rfl⟩⟩
theorem fl_4_37 : fL RX4 37 4 8 true := ⟨(RX4, TX4, 9), tyX4, cO4, by decide, by decide +kernel, (in_tb 91 (by decide +kernel) (by decide +kernel)), fun z => absurd z (by decide), fun _ => Or.inl ⟨_, rfl⟩⟩
theorem fl_7_100 : fL RX7 100 4 8 true := ⟨(RX4, TX4, 9), tyX4, cO4, by decide, by decide +kernel, (in_tb 92 (by decide +kernel) (by decide +kernel)), fun z => absurd z (by decide), fun _ => Or.inl ⟨_, rfl⟩⟩
theorem fl_6_11 : fL RX6 11 6 0 true := ⟨(RX6, TX6, 3), tyX6, cO6, by decide, by decide +kernel, (in_tb 120 (by decide +kernel) (by decide +kernel)), fun z => absurd z (by decide), fun _ => Or.inl ⟨_, rfl⟩⟩
theorem fl_7_131 : fL RX7 131 6 0 true := ⟨(RX6, TX6, 3), tyX6, cO6, by decide, by decide +kernel, (in_tb 121 (by decide +kernel) (by decide +kernel)), fun z => absurd z (by decide), fun _ => Or.inl ⟨_, rfl⟩⟩
theorem fl_6_15 : fL RX6 15 6 1 true := ⟨(RX6, TX6, 3), tyX6, cO6, by decide, by decide +kernel, (in_tb 122 (by decide +kernel) (by decide +kernel)), fun z => absurd z (by decide), fun _ => Or.inl ⟨_, rfl⟩⟩
theorem fl_7_159 : fL RX7 159 6 1 true := ⟨(RX6, TX6, 3), tyX6, cO6, by decide, by decide +kernel, (in_tb 123 (by decide +kernel) (by decide +kernel)), fun z => absurd z (by decide), fun _ => Or.inl ⟨_, rfl⟩⟩
theorem fl_6_18 : fL RX6 18 6 2 true := ⟨(RX6, TX6, 3), tyX6, cO6, by decide, by decide +kernel, (in_tb 124 (by decide +kernel) (by decide +kernel)), fun z => absurd z (by decide), fun _ => Or.inl ⟨_, rfl⟩⟩
theorem fl_3_13 : fL RX3 13 3 0 false := ⟨(RX3, TX3, 5), tyX3, cO3, by decide, by decide +kernel, (in_tb 138 (by decide +kernel) (by decide +kernel)), fun _ => rfl, fun z => absurd z (by decide)⟩
theorem fl_7_170 : fL RX7 170 3 0 false := ⟨(RX3, TX3, 5), tyX3, cO3, by decide, by decide +kernel, (in_tb 139 (by decide +kernel) (by decide +kernel)), fun _ => rfl, fun z => absurd z (by decide)⟩
theorem fl_3_17 : fL RX3 17 3 1 true := ⟨(RX3, TX3, 5), tyX3, cO3, by decide, by decide +kernel, (in_tb 140 (by decide +kernel) (by decide +kernel)), fun z => absurd z (by decide), fun _ => Or.inl ⟨_, rfl⟩⟩
theorem fl_7_173 : fL RX7 173 3 1 true := ⟨(RX3, TX3, 5), tyX3, cO3, by decide, by decide +kernel, (in_tb 141 (by decide +kernel) (by decide +kernel)), fun z => absurd z (by decide), fun _ => Or.inl ⟨_, rfl⟩⟩
theorem fl_3_21 : fL RX3 21 3 2 true := ⟨(RX3, TX3, 5), tyX3, cO3, by decide, by decide +kernel, (in_tb 142 (by decide +kernel) (by decide +kernel)), fun z => absurd z (by decide), fun _ => Or.inl ⟨_, rfl⟩⟩
theorem fl_3_24 : fL RX3 24 3 3 true := ⟨(RX3, TX3, 5), tyX3, cO3, by decide, by decide +kernel, (in_tb 143 (by decide +kernel) (by decide +kernel)), fun z => absurd z (by decide), fun _ => Or.inl ⟨_, rfl⟩⟩
theorem fl_3_27 : fL RX3 27 3 4 false := ⟨(RX3, TX3, 5), tyX3, cO3, by decide, by decide +kernel, (in_tb 144 (by decide +kernel) (by decide +kernel)), fun _ => rfl, fun z => absurd z (by decide)⟩
theorem fl_0_7 : fL RX0 7 0 0 true := ⟨(RX0, TX0, 3), tyX0, cO0, by decide, by decide +kernel, (in_tb 162 (by decide +kernel) (by decide +kernel)), fun z => absurd z (by decide), fun _ => Or.inl ⟨_, rfl⟩⟩
theorem fl_7_206 : fL RX7 206 0 0 true := ⟨(RX0, TX0, 3), tyX0, cO0, by decide, by decide +kernel, (in_tb 163 (by decide +kernel) (by decide +kernel)), fun z => absurd z (by decide), fun _ => Or.inl ⟨_, rfl⟩⟩
theorem fl_0_13 : fL RX0 13 0 1 true := ⟨(RX0, TX0, 3), tyX0, cO0, by decide, by decide +kernel, (in_tb 164 (by decide +kernel) (by decide +kernel)), fun z => absurd z (by decide), fun _ => Or.inl ⟨_, rfl⟩⟩
theorem fl_7_203 : fL RX7 203 0 1 true := ⟨(RX0, TX0, 3), tyX0, cO0, by decide, by decide +kernel, (in_tb 165 (by decide +kernel) (by decide +kernel)), fun z => absurd z (by decide), fun _ => Or.inl ⟨_, rfl⟩⟩
theorem fl_0_16 : fL RX0 16 0 2 true := ⟨(RX0, TX0, 3), tyX0, cO0, by decide, by decide +kernel, (in_tb 166 (by decide +kernel) (by decide +kernel)), fun z => absurd z (by decide), fun _ => Or.inl ⟨_, rfl⟩⟩
theorem fl_7_222 : fL RX7 222 0 2 true := ⟨(RX0, TX0, 3), tyX0, cO0, by decide, by decide +kernel, (in_tb 167 (by decide +kernel) (by decide +kernel)), fun z => absurd z (by decide), fun _ => Or.inl ⟨_, rfl⟩⟩
theorem fl_2_7 : fL RX2 7 2 0 true := ⟨(RX2, TX2, 4), tyX2, cO2, by decide, by decide +kernel, (in_tb 188 (by decide +kernel) (by decide +kernel)), fun z => absurd z (by decide), fun _ => Or.inl ⟨_, rfl⟩⟩
theorem fl_2_13 : fL RX2 13 2 1 false := ⟨(RX2, TX2, 4), tyX2, cO2, by decide, by decide +kernel, (in_tb 189 (by decide +kernel) (by decide +kernel)), fun _ => rfl, fun z => absurd z (by decide)⟩
theorem fl_2_17 : fL RX2 17 2 2 false := ⟨(RX2, TX2, 4), tyX2, cO2, by decide, by decide +kernel, (in_tb 190 (by decide +kernel) (by decide +kernel)), fun _ => rfl, fun z => absurd z (by decide)⟩
theorem fl_2_20 : fL RX2 20 2 3 true := ⟨(RX2, TX2, 4), tyX2, cO2, by decide, by decide +kernel, (in_tb 191 (by decide +kernel) (by decide +kernel)), fun z => absurd z (by decide), fun _ => Or.inl ⟨_, rfl⟩⟩
theorem fl_1_11 : fL RX1 11 1 0 true := ⟨(RX1, TX1, 3), tyX1, cO1, by decide, by decide +kernel, (in_tb 201 (by decide +kernel) (by decide +kernel)), fun z => absurd z (by decide), fun _ => Or.inl ⟨_, rfl⟩⟩
theorem fl_1_15 : fL RX1 15 1 1 false := ⟨(RX1, TX1, 3), tyX1, cO1, by decide, by decide +kernel, (in_tb 202 (by decide +kernel) (by decide +kernel)), fun _ => rfl, fun z => absurd z (by decide)⟩
theorem fl_1_19 : fL RX1 19 1 2 false := ⟨(RX1, TX1, 3), tyX1, cO1, by decide, by decide +kernel, (in_tb 203 (by decide +kernel) (by decide +kernel)), fun _ => rfl, fun z => absurd z (by decide)⟩
theorem fl_7_267 : fL RX7 267 1 2 false := ⟨(RX1, TX1, 3), tyX1, cO1, by decide, by decide +kernel, (in_tb 204 (by decide +kernel) (by decide +kernel)), fun _ => rfl, fun z => absurd z (by decide)⟩
theorem fl_5_7 : fL RX5 7 5 0 false := ⟨(RX5, TX5, 3), tyX5, cO5, by decide, by decide +kernel, (in_tb 219 (by decide +kernel) (by decide +kernel)), fun _ => rfl, fun z => absurd z (by decide)⟩
theorem fl_7_247 : fL RX7 247 5 0 false := ⟨(RX5, TX5, 3), tyX5, cO5, by decide, by decide +kernel, (in_tb 220 (by decide +kernel) (by decide +kernel)), fun _ => rfl, fun z => absurd z (by decide)⟩
theorem fl_5_13 : fL RX5 13 5 1 false := ⟨(RX5, TX5, 3), tyX5, cO5, by decide, by decide +kernel, (in_tb 221 (by decide +kernel) (by decide +kernel)), fun _ => rfl, fun z => absurd z (by decide)⟩
theorem fl_7_239 : fL RX7 239 5 1 false := ⟨(RX5, TX5, 3), tyX5, cO5, by decide, by decide +kernel, (in_tb 222 (by decide +kernel) (by decide +kernel)), fun _ => rfl, fun z => absurd z (by decide)⟩
theorem fl_5_16 : fL RX5 16 5 2 true := ⟨(RX5, TX5, 3), tyX5, cO5, by decide, by decide +kernel, (in_tb 223 (by decide +kernel) (by decide +kernel)), fun z => absurd z (by decide), fun _ => Or.inl ⟨_, rfl⟩⟩
theorem fl_7_241 : fL RX7 241 5 2 true := ⟨(RX5, TX5, 3), tyX5, cO5, by decide, by decide +kernel, (in_tb 224 (by decide +kernel) (by decide +kernel)), fun z => absurd z (by decide), fun _ => Or.inl ⟨_, rfl⟩⟩
theorem fl_7_10 : fL RX7 10 7 0 true := ⟨(RX7, TX7, 7), tyX7, cO7, by decide, by decide +kernel, (in_tb 232 (by decide +kernel) (by decide +kernel)), fun z => absurd z (by decide), fun _ => Or.inr ⟨_, rfl⟩⟩
theorem fl_7_19 : fL RX7 19 7 1 true := ⟨(RX7, TX7, 7), tyX7, cO7, by decide, by decide +kernel, (in_tb 233 (by decide +kernel) (by decide +kernel)), fun z => absurd z (by decide), fun _ => Or.inr ⟨_, rfl⟩⟩
theorem fl_7_26 : fL RX7 26 7 2 true := ⟨(RX7, TX7, 7), tyX7, cO7, by decide, by decide +kernel, (in_tb 234 (by decide +kernel) (by decide +kernel)), fun z => absurd z (by decide), fun _ => Or.inr ⟨_, rfl⟩⟩
theorem fl_7_33 : fL RX7 33 7 3 true := ⟨(RX7, TX7, 7), tyX7, cO7, by decide, by decide +kernel, (in_tb 235 (by decide +kernel) (by decide +kernel)), fun z => absurd z (by decide), fun _ => Or.inr ⟨_, rfl⟩⟩
theorem fl_7_40 : fL RX7 40 7 4 true := ⟨(RX7, TX7, 7), tyX7, cO7, by decide, by decide +kernel, (in_tb 236 (by decide +kernel) (by decide +kernel)), fun z => absurd z (by decide), fun _ => Or.inr ⟨_, rfl⟩⟩
theorem fl_7_46 : fL RX7 46 7 5 true := ⟨(RX7, TX7, 7), tyX7, cO7, by decide, by decide +kernel, (in_tb 237 (by decide +kernel) (by decide +kernel)), fun z => absurd z (by decide), fun _ => Or.inl ⟨_, rfl⟩⟩
theorem fl_7_50 : fL RX7 50 7 6 false := ⟨(RX7, TX7, 7), tyX7, cO7, by decide, by decide +kernel, (in_tb 238 (by decide +kernel) (by decide +kernel)), fun _ => rfl, fun z => absurd z (by decide)⟩
theorem fl_8_7 : fL RX8 7 8 0 true := ⟨(RX8, TX8, 13), tyX8, cO8, by decide, by decide +kernel, (in_tb 679 (by decide +kernel) (by decide +kernel)), fun z => absurd z (by decide), fun _ => Or.inl ⟨_, rfl⟩⟩
theorem fl_8_13 : fL RX8 13 8 1 true := ⟨(RX8, TX8, 13), tyX8, cO8, by decide, by decide +kernel, (in_tb 680 (by decide +kernel) (by decide +kernel)), fun z => absurd z (by decide), fun _ => Or.inl ⟨_, rfl⟩⟩
theorem fl_8_52 : fL RX8 52 8 2 false := ⟨(RX8, TX8, 13), tyX8, cO8, by decide, by decide +kernel, (in_tb 681 (by decide +kernel) (by decide +kernel)), fun _ => rfl, fun z => absurd z (by decide)⟩
theorem fl_8_16 : fL RX8 16 8 3 true := ⟨(RX8, TX8, 13), tyX8, cO8, by decide, by decide +kernel, (in_tb 682 (by decide +kernel) (by decide +kernel)), fun z => absurd z (by decide), fun _ => Or.inl ⟨_, rfl⟩⟩
theorem fl_8_19 : fL RX8 19 8 4 true := ⟨(RX8, TX8, 13), tyX8, cO8, by decide, by decide +kernel, (in_tb 683 (by decide +kernel) (by decide +kernel)), fun z => absurd z (by decide), fun _ => Or.inl ⟨_, rfl⟩⟩
theorem fl_8_22 : fL RX8 22 8 5 true := ⟨(RX8, TX8, 13), tyX8, cO8, by decide, by decide +kernel, (in_tb 684 (by decide +kernel) (by decide +kernel)), fun z => absurd z (by decide), fun _ => Or.inl ⟨_, rfl⟩⟩
theorem fl_8_44 : fL RX8 44 8 6 false := ⟨(RX8, TX8, 13), tyX8, cO8, by decide, by decide +kernel, (in_tb 685 (by decide +kernel) (by decide +kernel)), fun _ => rfl, fun z => absurd z (by decide)⟩
theorem fl_8_25 : fL RX8 25 8 7 true := ⟨(RX8, TX8, 13), tyX8, cO8, by decide, by decide +kernel, (in_tb 686 (by decide +kernel) (by decide +kernel)), fun z => absurd z (by decide), fun _ => Or.inl ⟨_, rfl⟩⟩
theorem fl_8_28 : fL RX8 28 8 8 true := ⟨(RX8, TX8, 13), tyX8, cO8, by decide, by decide +kernel, (in_tb 687 (by decide +kernel) (by decide +kernel)), fun z => absurd z (by decide), fun _ => Or.inl ⟨_, rfl⟩⟩
theorem fl_8_31 : fL RX8 31 8 9 true := ⟨(RX8, TX8, 13), tyX8, cO8, by decide, by decide +kernel, (in_tb 688 (by decide +kernel) (by decide +kernel)), fun z => absurd z (by decide), fun _ => Or.inl ⟨_, rfl⟩⟩
theorem fl_8_34 : fL RX8 34 8 10 true := ⟨(RX8, TX8, 13), tyX8, cO8, by decide, by decide +kernel, (in_tb 689 (by decide +kernel) (by decide +kernel)), fun z => absurd z (by decide), fun _ => Or.inl ⟨_, rfl⟩⟩
theorem fl_8_37 : fL RX8 37 8 11 true := ⟨(RX8, TX8, 13), tyX8, cO8, by decide, by decide +kernel, (in_tb 690 (by decide +kernel) (by decide +kernel)), fun z => absurd z (by decide), fun _ => Or.inl ⟨_, rfl⟩⟩
theorem fl_8_41 : fL RX8 41 8 12 true := ⟨(RX8, TX8, 13), tyX8, cO8, by decide, by decide +kernel, (in_tb 691 (by decide +kernel) (by decide +kernel)), fun z => absurd z (by decide), fun _ => Or.inl ⟨_, rfl⟩⟩
theorem ab_link : Cond.fieldLink RX7 141 "CanyonRafts" "ABOVE" "[I" ∈ tb := (in_tb 372 (by decide +kernel) (by decide +kernel))
theorem fW_no {M : MT} {ci k : Nat} (h : (vwCl[ci]?).map (fun q => (q.2.1 k).2.2.2) = some false) : fW M ci k := by
  intro q ty hq
  rw [hq.1] at h
  exact Or.inl (Option.some.inj h)
theorem fW_in {M : MT} {ci k : Nat} (h : (vwCl[ci]?).map (fun q => ((q.2.1 k).2.2.2, (q.2.1 k).1)) = some (true, (m_y M).cls)) (hi : (m_y M).name = "<init>") : fW M ci k := by
  intro q ty hq
  rw [hq.1] at h
  have h2 := Option.some.inj h
  exact Or.inr ⟨congrArg Prod.fst h2, hi, congrArg Prod.snd h2⟩
theorem nl_L_7 : nL RL 7 7 7 := ⟨(RX7, TX7, 7), tyX7, cO7, rfl, by decide +kernel, (in_tb 58 (by decide +kernel) (by decide +kernel)), (in_tb 59 (by decide +kernel) (by decide +kernel)), (in_tb 46 (by decide +kernel) (by decide +kernel))⟩
theorem nl_7_7 : nL RX7 7 4 9 := ⟨(RX4, TX4, 9), tyX4, cO4, rfl, by decide +kernel, (in_tb 66 (by decide +kernel) (by decide +kernel)), (in_tb 67 (by decide +kernel) (by decide +kernel)), (in_tb 47 (by decide +kernel) (by decide +kernel))⟩
theorem nl_7_16 : nL RX7 16 6 3 := ⟨(RX6, TX6, 3), tyX6, cO6, rfl, by decide +kernel, (in_tb 114 (by decide +kernel) (by decide +kernel)), (in_tb 115 (by decide +kernel) (by decide +kernel)), (in_tb 49 (by decide +kernel) (by decide +kernel))⟩
theorem nl_7_23 : nL RX7 23 3 5 := ⟨(RX3, TX3, 5), tyX3, cO3, rfl, by decide +kernel, (in_tb 132 (by decide +kernel) (by decide +kernel)), (in_tb 133 (by decide +kernel) (by decide +kernel)), (in_tb 50 (by decide +kernel) (by decide +kernel))⟩
theorem nl_7_30 : nL RX7 30 0 3 := ⟨(RX0, TX0, 3), tyX0, cO0, rfl, by decide +kernel, (in_tb 156 (by decide +kernel) (by decide +kernel)), (in_tb 157 (by decide +kernel) (by decide +kernel)), (in_tb 51 (by decide +kernel) (by decide +kernel))⟩
theorem nl_7_37 : nL RX7 37 1 3 := ⟨(RX1, TX1, 3), tyX1, cO1, rfl, by decide +kernel, (in_tb 175 (by decide +kernel) (by decide +kernel)), (in_tb 176 (by decide +kernel) (by decide +kernel)), (in_tb 52 (by decide +kernel) (by decide +kernel))⟩
theorem nl_1_9 : nL RX1 9 2 4 := ⟨(RX2, TX2, 4), tyX2, cO2, rfl, by decide +kernel, (in_tb 181 (by decide +kernel) (by decide +kernel)), (in_tb 183 (by decide +kernel) (by decide +kernel)), (in_tb 53 (by decide +kernel) (by decide +kernel))⟩
theorem nl_7_44 : nL RX7 44 5 3 := ⟨(RX5, TX5, 3), tyX5, cO5, rfl, by decide +kernel, (in_tb 212 (by decide +kernel) (by decide +kernel)), (in_tb 214 (by decide +kernel) (by decide +kernel)), (in_tb 54 (by decide +kernel) (by decide +kernel))⟩
theorem kc_7_59 : Jvm.Cond.constant RX7 59 (-100001) ∈ tb := (in_tb 261 (by decide +kernel) (by decide +kernel))
theorem kc_7_75 : Jvm.Cond.constant RX7 75 (-100005) ∈ tb := (in_tb 288 (by decide +kernel) (by decide +kernel))
theorem kc_7_87 : Jvm.Cond.constant RX7 87 (-100003) ∈ tb := (in_tb 296 (by decide +kernel) (by decide +kernel))
theorem kc_7_144 : Jvm.Cond.constant RX7 144 (-100004) ∈ tb := (in_tb 374 (by decide +kernel) (by decide +kernel))
theorem kc_7_158 : Jvm.Cond.constant RX7 158 (-100007) ∈ tb := (in_tb 406 (by decide +kernel) (by decide +kernel))
theorem kc_7_165 : Jvm.Cond.constant RX7 165 (-100006) ∈ tb := (in_tb 411 (by decide +kernel) (by decide +kernel))
theorem kc_0_32 : Jvm.Cond.constant RX0 32 (1103515245) ∈ tb := (in_tb 603 (by decide +kernel) (by decide +kernel))
theorem kc_7_238 : Jvm.Cond.constant RX7 238 (-100002) ∈ tb := (in_tb 639 (by decide +kernel) (by decide +kernel))
theorem nl_L_10 : nL RL 10 8 13 := ⟨(RX8, TX8, 13), tyX8, cO8, rfl, by decide +kernel, (in_tb 673 (by decide +kernel) (by decide +kernel)), (in_tb 674 (by decide +kernel) (by decide +kernel)), (in_tb 55 (by decide +kernel) (by decide +kernel))⟩
theorem kc_8_55 : Jvm.Cond.constant RX8 55 (-100006) ∈ tb := (in_tb 723 (by decide +kernel) (by decide +kernel))
theorem kc_8_67 : Jvm.Cond.constant RX8 67 (-100001) ∈ tb := (in_tb 743 (by decide +kernel) (by decide +kernel))
theorem kc_8_68 : Jvm.Cond.constant RX8 68 (-100005) ∈ tb := (in_tb 748 (by decide +kernel) (by decide +kernel))
theorem kc_8_73 : Jvm.Cond.constant RX8 73 (-100003) ∈ tb := (in_tb 756 (by decide +kernel) (by decide +kernel))
theorem kc_8_97 : Jvm.Cond.constant RX8 97 (-100004) ∈ tb := (in_tb 812 (by decide +kernel) (by decide +kernel))
theorem kc_8_104 : Jvm.Cond.constant RX8 104 (-100007) ∈ tb := (in_tb 833 (by decide +kernel) (by decide +kernel))
theorem kc_8_152 : Jvm.Cond.constant RX8 152 (1103515245) ∈ tb := (in_tb 946 (by decide +kernel) (by decide +kernel))
theorem kc_8_159 : Jvm.Cond.constant RX8 159 (-100002) ∈ tb := (in_tb 962 (by decide +kernel) (by decide +kernel))
theorem ac_int : Cond.arrayClass .int ∈ tb := (in_tb 112 (by decide +kernel) (by decide +kernel))
theorem ac_boolean : Cond.arrayClass .boolean ∈ tb := (in_tb 113 (by decide +kernel) (by decide +kernel))
theorem oi_1 : Cond.instanceMethod Lib.objectInit ∈ tb := (in_tb 64 (by decide +kernel) (by decide +kernel))
theorem oi_2 : Cond.code Lib.objectInit ⟨#[0xb1]⟩ 1 none ∈ tb := (in_tb 65 (by decide +kernel) (by decide +kernel))
theorem ma_min_1 : Cond.static Lib.Math.min.name ∈ tb := (in_tb 282 (by decide +kernel) (by decide +kernel))
theorem ma_min_2 : Cond.code Lib.Math.min.name Lib.Math.min.code 2 (some .int) ∈ tb := (in_tb 283 (by decide +kernel) (by decide +kernel))
theorem ma_max_1 : Cond.static Lib.Math.max.name ∈ tb := (in_tb 324 (by decide +kernel) (by decide +kernel))
theorem ma_max_2 : Cond.code Lib.Math.max.name Lib.Math.max.code 2 (some .int) ∈ tb := (in_tb 325 (by decide +kernel) (by decide +kernel))
theorem ma_abs_1 : Cond.static Lib.Math.abs.name ∈ tb := (in_tb 551 (by decide +kernel) (by decide +kernel))
theorem ma_abs_2 : Cond.code Lib.Math.abs.name Lib.Math.abs.code 1 (some .int) ∈ tb := (in_tb 552 (by decide +kernel) (by decide +kernel))
theorem ma_0 : Cond.initialized "java/lang/Math" ∈ tb := (in_tb 57 (by decide +kernel) (by decide +kernel))
theorem cp_1 : Cond.native arraycopyName ∈ tb := (in_tb 280 (by decide +kernel) (by decide +kernel))
theorem cp_2 : Cond.static arraycopyName ∈ tb := (in_tb 279 (by decide +kernel) (by decide +kernel))
theorem cp_3 : Cond.initialized "java/lang/System" ∈ tb := (in_tb 56 (by decide +kernel) (by decide +kernel))
def yJ_fill : MethodName := ⟨"java/util/Arrays", "fill", "([II)V"⟩
abbrev cJ_fill : ByteArray := prog_13_method_103_code
theorem dJ_fill_0 : decode cJ_fill 0 = .ok (.iconst 0, 1) := by decide +kernel
theorem dJ_fill_1 : decode cJ_fill 1 = .ok (.istore_n 2, 1) := by decide +kernel
theorem dJ_fill_2 : decode cJ_fill 2 = .ok (.aload_n 0, 1) := by decide +kernel
theorem dJ_fill_3 : decode cJ_fill 3 = .ok (.arraylength, 1) := by decide +kernel
theorem dJ_fill_4 : decode cJ_fill 4 = .ok (.istore_n 3, 1) := by decide +kernel
theorem dJ_fill_5 : decode cJ_fill 5 = .ok (.iload_n 2, 1) := by decide +kernel
theorem dJ_fill_6 : decode cJ_fill 6 = .ok (.iload_n 3, 1) := by decide +kernel
theorem dJ_fill_7 : decode cJ_fill 7 = .ok (.if_icmp .ge 13, 3) := by decide +kernel
theorem dJ_fill_10 : decode cJ_fill 10 = .ok (.aload_n 0, 1) := by decide +kernel
theorem dJ_fill_11 : decode cJ_fill 11 = .ok (.iload_n 2, 1) := by decide +kernel
theorem dJ_fill_12 : decode cJ_fill 12 = .ok (.iload_n 1, 1) := by decide +kernel
theorem dJ_fill_13 : decode cJ_fill 13 = .ok (.iastore, 1) := by decide +kernel
theorem dJ_fill_14 : decode cJ_fill 14 = .ok (.iinc 2 1, 3) := by decide +kernel
theorem dJ_fill_17 : decode cJ_fill 17 = .ok (.goto (-12), 3) := by decide +kernel
theorem dJ_fill_20 : decode cJ_fill 20 = .ok (.return_, 1) := by decide +kernel
def mJ_fill : MT := (yJ_fill, cJ_fill, 4, none, 0, 0)
theorem mo_J_fill : mOk mJ_fill 2 := ⟨(in_tb 74 (by decide +kernel) (by decide +kernel)), (in_tb 48 (by decide +kernel) (by decide +kernel)), by decide +kernel, by decide +kernel⟩
theorem sm_J_fill : Cond.static (m_y mJ_fill) ∈ tb := (in_tb 73 (by decide +kernel) (by decide +kernel))
def mL_law : MT := (yL_law, cL_law, 4, some .boolean, 9, 232)
def mX0_draw : MT := (yX0_draw, cX0_draw, 7, none, 2, 45)
theorem mo_X0_draw : mOk mX0_draw 1 := ⟨(in_tb 601 (by decide +kernel) (by decide +kernel)), (in_tb 51 (by decide +kernel) (by decide +kernel)), by decide +kernel, by decide +kernel⟩
theorem im_X0_draw : Cond.instanceMethod (m_y mX0_draw) ∈ tb := (in_tb 599 (by decide +kernel) (by decide +kernel))
theorem se_X0_draw : Cond.selects (m_y mX0_draw).cls (m_y mX0_draw) (m_y mX0_draw) ∈ tb := (in_tb 600 (by decide +kernel) (by decide +kernel))
def mX0_everybody : MT := (yX0_everybody, cX0_everybody, 1, some .int, 1, 20)
theorem mo_X0_everybody : mOk mX0_everybody 0 := ⟨(in_tb 584 (by decide +kernel) (by decide +kernel)), (in_tb 51 (by decide +kernel) (by decide +kernel)), by decide +kernel, by decide +kernel⟩
theorem im_X0_everybody : Cond.instanceMethod (m_y mX0_everybody) ∈ tb := (in_tb 582 (by decide +kernel) (by decide +kernel))
theorem se_X0_everybody : Cond.selects (m_y mX0_everybody).cls (m_y mX0_everybody) (m_y mX0_everybody) ∈ tb := (in_tb 583 (by decide +kernel) (by decide +kernel))
def mX0_init : MT := (yX0_init, cX0_init, 1, none, 1, 20)
theorem mo_X0_init : mOk mX0_init 0 := ⟨(in_tb 160 (by decide +kernel) (by decide +kernel)), (in_tb 51 (by decide +kernel) (by decide +kernel)), by decide +kernel, by decide +kernel⟩
theorem im_X0_init : Cond.instanceMethod (m_y mX0_init) ∈ tb := (in_tb 159 (by decide +kernel) (by decide +kernel))
def mX0_owner : MT := (yX0_owner, cX0_owner, 5, some .int, 1, 21)
theorem mo_X0_owner : mOk mX0_owner 2 := ⟨(in_tb 609 (by decide +kernel) (by decide +kernel)), (in_tb 51 (by decide +kernel) (by decide +kernel)), by decide +kernel, by decide +kernel⟩
theorem im_X0_owner : Cond.instanceMethod (m_y mX0_owner) ∈ tb := (in_tb 608 (by decide +kernel) (by decide +kernel))
theorem se_X0_owner : Cond.selects (m_y mX0_owner).cls (m_y mX0_owner) (m_y mX0_owner) ∈ tb := (in_tb 17 (by decide +kernel) (by decide +kernel))
def mX0_placeOf : MT := (yX0_placeOf, cX0_placeOf, 4, some .int, 1, 20)
theorem mo_X0_placeOf : mOk mX0_placeOf 1 := ⟨(in_tb 617 (by decide +kernel) (by decide +kernel)), (in_tb 51 (by decide +kernel) (by decide +kernel)), by decide +kernel, by decide +kernel⟩
theorem im_X0_placeOf : Cond.instanceMethod (m_y mX0_placeOf) ∈ tb := (in_tb 615 (by decide +kernel) (by decide +kernel))
theorem se_X0_placeOf : Cond.selects (m_y mX0_placeOf).cls (m_y mX0_placeOf) (m_y mX0_placeOf) ∈ tb := (in_tb 616 (by decide +kernel) (by decide +kernel))
def mX0_size : MT := (yX0_size, cX0_size, 1, some .int, 0, 0)
theorem mo_X0_size : mOk mX0_size 0 := ⟨(in_tb 568 (by decide +kernel) (by decide +kernel)), (in_tb 51 (by decide +kernel) (by decide +kernel)), by decide +kernel, by decide +kernel⟩
theorem im_X0_size : Cond.instanceMethod (m_y mX0_size) ∈ tb := (in_tb 566 (by decide +kernel) (by decide +kernel))
theorem se_X0_size : Cond.selects (m_y mX0_size).cls (m_y mX0_size) (m_y mX0_size) ∈ tb := (in_tb 567 (by decide +kernel) (by decide +kernel))
def mX0_together : MT := (yX0_together, cX0_together, 4, some .int, 1, 21)
theorem mo_X0_together : mOk mX0_together 1 := ⟨(in_tb 589 (by decide +kernel) (by decide +kernel)), (in_tb 51 (by decide +kernel) (by decide +kernel)), by decide +kernel, by decide +kernel⟩
theorem im_X0_together : Cond.instanceMethod (m_y mX0_together) ∈ tb := (in_tb 587 (by decide +kernel) (by decide +kernel))
theorem se_X0_together : Cond.selects (m_y mX0_together).cls (m_y mX0_together) (m_y mX0_together) ∈ tb := (in_tb 588 (by decide +kernel) (by decide +kernel))
def mX1_bringBack : MT := (yX1_bringBack, cX1_bringBack, 1, some .boolean, 2, 46)
theorem mo_X1_bringBack : mOk mX1_bringBack 0 := ⟨(in_tb 664 (by decide +kernel) (by decide +kernel)), (in_tb 52 (by decide +kernel) (by decide +kernel)), by decide +kernel, by decide +kernel⟩
theorem im_X1_bringBack : Cond.instanceMethod (m_y mX1_bringBack) ∈ tb := (in_tb 662 (by decide +kernel) (by decide +kernel))
theorem se_X1_bringBack : Cond.selects (m_y mX1_bringBack).cls (m_y mX1_bringBack) (m_y mX1_bringBack) ∈ tb := (in_tb 663 (by decide +kernel) (by decide +kernel))
def mX1_init : MT := (yX1_init, cX1_init, 2, none, 2, 40)
theorem mo_X1_init : mOk mX1_init 0 := ⟨(in_tb 179 (by decide +kernel) (by decide +kernel)), (in_tb 52 (by decide +kernel) (by decide +kernel)), by decide +kernel, by decide +kernel⟩
theorem im_X1_init : Cond.instanceMethod (m_y mX1_init) ∈ tb := (in_tb 178 (by decide +kernel) (by decide +kernel))
def mX1_keep : MT := (yX1_keep, cX1_keep, 4, none, 2, 49)
theorem mo_X1_keep : mOk mX1_keep 3 := ⟨(in_tb 273 (by decide +kernel) (by decide +kernel)), (in_tb 52 (by decide +kernel) (by decide +kernel)), by decide +kernel, by decide +kernel⟩
theorem im_X1_keep : Cond.instanceMethod (m_y mX1_keep) ∈ tb := (in_tb 271 (by decide +kernel) (by decide +kernel))
theorem se_X1_keep : Cond.selects (m_y mX1_keep).cls (m_y mX1_keep) (m_y mX1_keep) ∈ tb := (in_tb 272 (by decide +kernel) (by decide +kernel))
def mX2_bringBack : MT := (yX2_bringBack, cX2_bringBack, 1, none, 1, 26)
theorem mo_X2_bringBack : mOk mX2_bringBack 0 := ⟨(in_tb 668 (by decide +kernel) (by decide +kernel)), (in_tb 53 (by decide +kernel) (by decide +kernel)), by decide +kernel, by decide +kernel⟩
theorem im_X2_bringBack : Cond.instanceMethod (m_y mX2_bringBack) ∈ tb := (in_tb 666 (by decide +kernel) (by decide +kernel))
theorem se_X2_bringBack : Cond.selects (m_y mX2_bringBack).cls (m_y mX2_bringBack) (m_y mX2_bringBack) ∈ tb := (in_tb 667 (by decide +kernel) (by decide +kernel))
def mX2_init : MT := (yX2_init, cX2_init, 1, none, 1, 20)
theorem mo_X2_init : mOk mX2_init 0 := ⟨(in_tb 186 (by decide +kernel) (by decide +kernel)), (in_tb 53 (by decide +kernel) (by decide +kernel)), by decide +kernel, by decide +kernel⟩
theorem im_X2_init : Cond.instanceMethod (m_y mX2_init) ∈ tb := (in_tb 185 (by decide +kernel) (by decide +kernel))
def mX2_keep : MT := (yX2_keep, cX2_keep, 4, none, 1, 26)
theorem mo_X2_keep : mOk mX2_keep 3 := ⟨(in_tb 277 (by decide +kernel) (by decide +kernel)), (in_tb 53 (by decide +kernel) (by decide +kernel)), by decide +kernel, by decide +kernel⟩
theorem im_X2_keep : Cond.instanceMethod (m_y mX2_keep) ∈ tb := (in_tb 275 (by decide +kernel) (by decide +kernel))
theorem se_X2_keep : Cond.selects (m_y mX2_keep).cls (m_y mX2_keep) (m_y mX2_keep) ∈ tb := (in_tb 276 (by decide +kernel) (by decide +kernel))
def mX3_chooseCamps : MT := (yX3_chooseCamps, cX3_chooseCamps, 5, none, 2, 44)
theorem mo_X3_chooseCamps : mOk mX3_chooseCamps 0 := ⟨(in_tb 500 (by decide +kernel) (by decide +kernel)), (in_tb 50 (by decide +kernel) (by decide +kernel)), by decide +kernel, by decide +kernel⟩
theorem im_X3_chooseCamps : Cond.instanceMethod (m_y mX3_chooseCamps) ∈ tb := (in_tb 499 (by decide +kernel) (by decide +kernel))
theorem se_X3_chooseCamps : Cond.selects (m_y mX3_chooseCamps).cls (m_y mX3_chooseCamps) (m_y mX3_chooseCamps) ∈ tb := (in_tb 14 (by decide +kernel) (by decide +kernel))
def mX3_dropDeadEnds : MT := (yX3_dropDeadEnds, cX3_dropDeadEnds, 5, none, 3, 67)
theorem mo_X3_dropDeadEnds : mOk mX3_dropDeadEnds 0 := ⟨(in_tb 484 (by decide +kernel) (by decide +kernel)), (in_tb 50 (by decide +kernel) (by decide +kernel)), by decide +kernel, by decide +kernel⟩
theorem im_X3_dropDeadEnds : Cond.instanceMethod (m_y mX3_dropDeadEnds) ∈ tb := (in_tb 483 (by decide +kernel) (by decide +kernel))
theorem se_X3_dropDeadEnds : Cond.selects (m_y mX3_dropDeadEnds).cls (m_y mX3_dropDeadEnds) (m_y mX3_dropDeadEnds) ∈ tb := (in_tb 10 (by decide +kernel) (by decide +kernel))
def mX3_findEnders : MT := (yX3_findEnders, cX3_findEnders, 7, none, 3, 69)
theorem mo_X3_findEnders : mOk mX3_findEnders 4 := ⟨(in_tb 447 (by decide +kernel) (by decide +kernel)), (in_tb 50 (by decide +kernel) (by decide +kernel)), by decide +kernel, by decide +kernel⟩
theorem im_X3_findEnders : Cond.instanceMethod (m_y mX3_findEnders) ∈ tb := (in_tb 446 (by decide +kernel) (by decide +kernel))
theorem se_X3_findEnders : Cond.selects (m_y mX3_findEnders).cls (m_y mX3_findEnders) (m_y mX3_findEnders) ∈ tb := (in_tb 7 (by decide +kernel) (by decide +kernel))
def mX3_findLeads : MT := (yX3_findLeads, cX3_findLeads, 8, none, 3, 72)
theorem mo_X3_findLeads : mOk mX3_findLeads 5 := ⟨(in_tb 472 (by decide +kernel) (by decide +kernel)), (in_tb 50 (by decide +kernel) (by decide +kernel)), by decide +kernel, by decide +kernel⟩
theorem im_X3_findLeads : Cond.instanceMethod (m_y mX3_findLeads) ∈ tb := (in_tb 471 (by decide +kernel) (by decide +kernel))
theorem se_X3_findLeads : Cond.selects (m_y mX3_findLeads).cls (m_y mX3_findLeads) (m_y mX3_findLeads) ∈ tb := (in_tb 8 (by decide +kernel) (by decide +kernel))
def mX3_goers : MT := (yX3_goers, cX3_goers, 4, some .int, 0, 0)
theorem mo_X3_goers : mOk mX3_goers 3 := ⟨(in_tb 492 (by decide +kernel) (by decide +kernel)), (in_tb 50 (by decide +kernel) (by decide +kernel)), by decide +kernel, by decide +kernel⟩
theorem im_X3_goers : Cond.instanceMethod (m_y mX3_goers) ∈ tb := (in_tb 491 (by decide +kernel) (by decide +kernel))
theorem se_X3_goers : Cond.selects (m_y mX3_goers).cls (m_y mX3_goers) (m_y mX3_goers) ∈ tb := (in_tb 12 (by decide +kernel) (by decide +kernel))
def mX3_goesOn : MT := (yX3_goesOn, cX3_goesOn, 4, some .boolean, 2, 44)
theorem mo_X3_goesOn : mOk mX3_goesOn 3 := ⟨(in_tb 488 (by decide +kernel) (by decide +kernel)), (in_tb 50 (by decide +kernel) (by decide +kernel)), by decide +kernel, by decide +kernel⟩
theorem im_X3_goesOn : Cond.instanceMethod (m_y mX3_goesOn) ∈ tb := (in_tb 487 (by decide +kernel) (by decide +kernel))
theorem se_X3_goesOn : Cond.selects (m_y mX3_goesOn).cls (m_y mX3_goesOn) (m_y mX3_goesOn) ∈ tb := (in_tb 11 (by decide +kernel) (by decide +kernel))
def mX3_init : MT := (yX3_init, cX3_init, 1, none, 1, 20)
theorem mo_X3_init : mOk mX3_init 0 := ⟨(in_tb 136 (by decide +kernel) (by decide +kernel)), (in_tb 50 (by decide +kernel) (by decide +kernel)), by decide +kernel, by decide +kernel⟩
theorem im_X3_init : Cond.instanceMethod (m_y mX3_init) ∈ tb := (in_tb 135 (by decide +kernel) (by decide +kernel))
def mX3_lowest : MT := (yX3_lowest, cX3_lowest, 2, some .int, 1, 21)
theorem mo_X3_lowest : mOk mX3_lowest 1 := ⟨(in_tb 503 (by decide +kernel) (by decide +kernel)), (in_tb 50 (by decide +kernel) (by decide +kernel)), by decide +kernel, by decide +kernel⟩
theorem sm_X3_lowest : Cond.static (m_y mX3_lowest) ∈ tb := (in_tb 502 (by decide +kernel) (by decide +kernel))
def mX3_mayStay : MT := (yX3_mayStay, cX3_mayStay, 4, some .boolean, 1, 21)
theorem mo_X3_mayStay : mOk mX3_mayStay 3 := ⟨(in_tb 496 (by decide +kernel) (by decide +kernel)), (in_tb 50 (by decide +kernel) (by decide +kernel)), by decide +kernel, by decide +kernel⟩
theorem im_X3_mayStay : Cond.instanceMethod (m_y mX3_mayStay) ∈ tb := (in_tb 495 (by decide +kernel) (by decide +kernel))
theorem se_X3_mayStay : Cond.selects (m_y mX3_mayStay).cls (m_y mX3_mayStay) (m_y mX3_mayStay) ∈ tb := (in_tb 13 (by decide +kernel) (by decide +kernel))
def mX3_placesAhead : MT := (yX3_placesAhead, cX3_placesAhead, 4, some .int, 0, 0)
theorem mo_X3_placesAhead : mOk mX3_placesAhead 1 := ⟨(in_tb 438 (by decide +kernel) (by decide +kernel)), (in_tb 50 (by decide +kernel) (by decide +kernel)), by decide +kernel, by decide +kernel⟩
theorem im_X3_placesAhead : Cond.instanceMethod (m_y mX3_placesAhead) ∈ tb := (in_tb 437 (by decide +kernel) (by decide +kernel))
theorem se_X3_placesAhead : Cond.selects (m_y mX3_placesAhead).cls (m_y mX3_placesAhead) (m_y mX3_placesAhead) ∈ tb := (in_tb 6 (by decide +kernel) (by decide +kernel))
def mX3_schedule : MT := (yX3_schedule, cX3_schedule, 6, some .int, 5, 130)
theorem mo_X3_schedule : mOk mX3_schedule 3 := ⟨(in_tb 534 (by decide +kernel) (by decide +kernel)), (in_tb 50 (by decide +kernel) (by decide +kernel)), by decide +kernel, by decide +kernel⟩
theorem im_X3_schedule : Cond.instanceMethod (m_y mX3_schedule) ∈ tb := (in_tb 532 (by decide +kernel) (by decide +kernel))
theorem se_X3_schedule : Cond.selects (m_y mX3_schedule).cls (m_y mX3_schedule) (m_y mX3_schedule) ∈ tb := (in_tb 533 (by decide +kernel) (by decide +kernel))
def mX3_search : MT := (yX3_search, cX3_search, 12, some .boolean, 4, 99)
theorem mo_X3_search : mOk mX3_search 3 := ⟨(in_tb 423 (by decide +kernel) (by decide +kernel)), (in_tb 50 (by decide +kernel) (by decide +kernel)), by decide +kernel, by decide +kernel⟩
theorem im_X3_search : Cond.instanceMethod (m_y mX3_search) ∈ tb := (in_tb 421 (by decide +kernel) (by decide +kernel))
theorem se_X3_search : Cond.selects (m_y mX3_search).cls (m_y mX3_search) (m_y mX3_search) ∈ tb := (in_tb 422 (by decide +kernel) (by decide +kernel))
def mX3_spread : MT := (yX3_spread, cX3_spread, 8, none, 1, 21)
theorem mo_X3_spread : mOk mX3_spread 3 := ⟨(in_tb 480 (by decide +kernel) (by decide +kernel)), (in_tb 50 (by decide +kernel) (by decide +kernel)), by decide +kernel, by decide +kernel⟩
theorem im_X3_spread : Cond.instanceMethod (m_y mX3_spread) ∈ tb := (in_tb 479 (by decide +kernel) (by decide +kernel))
theorem se_X3_spread : Cond.selects (m_y mX3_spread).cls (m_y mX3_spread) (m_y mX3_spread) ∈ tb := (in_tb 9 (by decide +kernel) (by decide +kernel))
def mX3_startAhead : MT := (yX3_startAhead, cX3_startAhead, 1, none, 1, 23)
theorem mo_X3_startAhead : mOk mX3_startAhead 0 := ⟨(in_tb 433 (by decide +kernel) (by decide +kernel)), (in_tb 50 (by decide +kernel) (by decide +kernel)), by decide +kernel, by decide +kernel⟩
theorem im_X3_startAhead : Cond.instanceMethod (m_y mX3_startAhead) ∈ tb := (in_tb 432 (by decide +kernel) (by decide +kernel))
theorem se_X3_startAhead : Cond.selects (m_y mX3_startAhead).cls (m_y mX3_startAhead) (m_y mX3_startAhead) ∈ tb := (in_tb 5 (by decide +kernel) (by decide +kernel))
def mX3_writeNights : MT := (yX3_writeNights, cX3_writeNights, 5, none, 3, 67)
theorem mo_X3_writeNights : mOk mX3_writeNights 2 := ⟨(in_tb 515 (by decide +kernel) (by decide +kernel)), (in_tb 50 (by decide +kernel) (by decide +kernel)), by decide +kernel, by decide +kernel⟩
theorem im_X3_writeNights : Cond.instanceMethod (m_y mX3_writeNights) ∈ tb := (in_tb 513 (by decide +kernel) (by decide +kernel))
theorem se_X3_writeNights : Cond.selects (m_y mX3_writeNights).cls (m_y mX3_writeNights) (m_y mX3_writeNights) ∈ tb := (in_tb 514 (by decide +kernel) (by decide +kernel))
def mX4_arriving : MT := (yX4_arriving, cX4_arriving, 6, some .int, 1, 21)
theorem mo_X4_arriving : mOk mX4_arriving 3 := ⟨(in_tb 322 (by decide +kernel) (by decide +kernel)), (in_tb 47 (by decide +kernel) (by decide +kernel)), by decide +kernel, by decide +kernel⟩
theorem im_X4_arriving : Cond.instanceMethod (m_y mX4_arriving) ∈ tb := (in_tb 320 (by decide +kernel) (by decide +kernel))
theorem se_X4_arriving : Cond.selects (m_y mX4_arriving).cls (m_y mX4_arriving) (m_y mX4_arriving) ∈ tb := (in_tb 321 (by decide +kernel) (by decide +kernel))
def mX4_campsAhead : MT := (yX4_campsAhead, cX4_campsAhead, 8, some .int, 2, 45)
theorem mo_X4_campsAhead : mOk mX4_campsAhead 3 := ⟨(in_tb 476 (by decide +kernel) (by decide +kernel)), (in_tb 47 (by decide +kernel) (by decide +kernel)), by decide +kernel, by decide +kernel⟩
theorem im_X4_campsAhead : Cond.instanceMethod (m_y mX4_campsAhead) ∈ tb := (in_tb 474 (by decide +kernel) (by decide +kernel))
theorem se_X4_campsAhead : Cond.selects (m_y mX4_campsAhead).cls (m_y mX4_campsAhead) (m_y mX4_campsAhead) ∈ tb := (in_tb 475 (by decide +kernel) (by decide +kernel))
def mX4_campsFor : MT := (yX4_campsFor, cX4_campsFor, 4, some .int, 0, 0)
theorem mo_X4_campsFor : mOk mX4_campsFor 1 := ⟨(in_tb 429 (by decide +kernel) (by decide +kernel)), (in_tb 47 (by decide +kernel) (by decide +kernel)), by decide +kernel, by decide +kernel⟩
theorem im_X4_campsFor : Cond.instanceMethod (m_y mX4_campsFor) ∈ tb := (in_tb 427 (by decide +kernel) (by decide +kernel))
theorem se_X4_campsFor : Cond.selects (m_y mX4_campsFor).cls (m_y mX4_campsFor) (m_y mX4_campsFor) ∈ tb := (in_tb 428 (by decide +kernel) (by decide +kernel))
def mX4_closedRapids : MT := (yX4_closedRapids, cX4_closedRapids, 5, some .int, 3, 71)
theorem mo_X4_closedRapids : mOk mX4_closedRapids 2 := ⟨(in_tb 442 (by decide +kernel) (by decide +kernel)), (in_tb 47 (by decide +kernel) (by decide +kernel)), by decide +kernel, by decide +kernel⟩
theorem im_X4_closedRapids : Cond.instanceMethod (m_y mX4_closedRapids) ∈ tb := (in_tb 440 (by decide +kernel) (by decide +kernel))
theorem se_X4_closedRapids : Cond.selects (m_y mX4_closedRapids).cls (m_y mX4_closedRapids) (m_y mX4_closedRapids) ∈ tb := (in_tb 441 (by decide +kernel) (by decide +kernel))
def mX4_firstHour : MT := (yX4_firstHour, cX4_firstHour, 6, some .int, 2, 46)
theorem mo_X4_firstHour : mOk mX4_firstHour 3 := ⟨(in_tb 336 (by decide +kernel) (by decide +kernel)), (in_tb 47 (by decide +kernel) (by decide +kernel)), by decide +kernel, by decide +kernel⟩
theorem im_X4_firstHour : Cond.instanceMethod (m_y mX4_firstHour) ∈ tb := (in_tb 334 (by decide +kernel) (by decide +kernel))
theorem se_X4_firstHour : Cond.selects (m_y mX4_firstHour).cls (m_y mX4_firstHour) (m_y mX4_firstHour) ∈ tb := (in_tb 335 (by decide +kernel) (by decide +kernel))
def mX4_init : MT := (yX4_init, cX4_init, 1, none, 1, 23)
theorem mo_X4_init : mOk mX4_init 0 := ⟨(in_tb 70 (by decide +kernel) (by decide +kernel)), (in_tb 47 (by decide +kernel) (by decide +kernel)), by decide +kernel, by decide +kernel⟩
theorem im_X4_init : Cond.instanceMethod (m_y mX4_init) ∈ tb := (in_tb 69 (by decide +kernel) (by decide +kernel))
def mX4_leadsToEnd : MT := (yX4_leadsToEnd, cX4_leadsToEnd, 5, some .boolean, 2, 45)
theorem mo_X4_leadsToEnd : mOk mX4_leadsToEnd 3 := ⟨(in_tb 454 (by decide +kernel) (by decide +kernel)), (in_tb 47 (by decide +kernel) (by decide +kernel)), by decide +kernel, by decide +kernel⟩
theorem im_X4_leadsToEnd : Cond.instanceMethod (m_y mX4_leadsToEnd) ∈ tb := (in_tb 452 (by decide +kernel) (by decide +kernel))
theorem se_X4_leadsToEnd : Cond.selects (m_y mX4_leadsToEnd).cls (m_y mX4_leadsToEnd) (m_y mX4_leadsToEnd) ∈ tb := (in_tb 453 (by decide +kernel) (by decide +kernel))
def mX4_mileOf : MT := (yX4_mileOf, cX4_mileOf, 2, some .int, 0, 0)
theorem mo_X4_mileOf : mOk mX4_mileOf 1 := ⟨(in_tb 458 (by decide +kernel) (by decide +kernel)), (in_tb 47 (by decide +kernel) (by decide +kernel)), by decide +kernel, by decide +kernel⟩
theorem im_X4_mileOf : Cond.instanceMethod (m_y mX4_mileOf) ∈ tb := (in_tb 456 (by decide +kernel) (by decide +kernel))
theorem se_X4_mileOf : Cond.selects (m_y mX4_mileOf).cls (m_y mX4_mileOf) (m_y mX4_mileOf) ∈ tb := (in_tb 457 (by decide +kernel) (by decide +kernel))
def mX4_minutesOut : MT := (yX4_minutesOut, cX4_minutesOut, 7, some .int, 1, 21)
theorem mo_X4_minutesOut : mOk mX4_minutesOut 2 := ⟨(in_tb 560 (by decide +kernel) (by decide +kernel)), (in_tb 47 (by decide +kernel) (by decide +kernel)), by decide +kernel, by decide +kernel⟩
theorem im_X4_minutesOut : Cond.instanceMethod (m_y mX4_minutesOut) ∈ tb := (in_tb 558 (by decide +kernel) (by decide +kernel))
theorem se_X4_minutesOut : Cond.selects (m_y mX4_minutesOut).cls (m_y mX4_minutesOut) (m_y mX4_minutesOut) ∈ tb := (in_tb 559 (by decide +kernel) (by decide +kernel))
def mX4_nextClosed : MT := (yX4_nextClosed, cX4_nextClosed, 5, some .int, 1, 21)
theorem mo_X4_nextClosed : mOk mX4_nextClosed 2 := ⟨(in_tb 462 (by decide +kernel) (by decide +kernel)), (in_tb 47 (by decide +kernel) (by decide +kernel)), by decide +kernel, by decide +kernel⟩
theorem im_X4_nextClosed : Cond.instanceMethod (m_y mX4_nextClosed) ∈ tb := (in_tb 460 (by decide +kernel) (by decide +kernel))
theorem se_X4_nextClosed : Cond.selects (m_y mX4_nextClosed).cls (m_y mX4_nextClosed) (m_y mX4_nextClosed) ∈ tb := (in_tb 461 (by decide +kernel) (by decide +kernel))
def mX5_has : MT := (yX5_has, cX5_has, 3, some .boolean, 0, 0)
theorem mo_X5_has : mOk mX5_has 2 := ⟨(in_tb 651 (by decide +kernel) (by decide +kernel)), (in_tb 54 (by decide +kernel) (by decide +kernel)), by decide +kernel, by decide +kernel⟩
theorem im_X5_has : Cond.instanceMethod (m_y mX5_has) ∈ tb := (in_tb 649 (by decide +kernel) (by decide +kernel))
theorem se_X5_has : Cond.selects (m_y mX5_has).cls (m_y mX5_has) (m_y mX5_has) ∈ tb := (in_tb 650 (by decide +kernel) (by decide +kernel))
def mX5_init : MT := (yX5_init, cX5_init, 1, none, 1, 20)
theorem mo_X5_init : mOk mX5_init 0 := ⟨(in_tb 217 (by decide +kernel) (by decide +kernel)), (in_tb 54 (by decide +kernel) (by decide +kernel)), by decide +kernel, by decide +kernel⟩
theorem im_X5_init : Cond.instanceMethod (m_y mX5_init) ∈ tb := (in_tb 216 (by decide +kernel) (by decide +kernel))
def mX5_isMissing : MT := (yX5_isMissing, cX5_isMissing, 1, some .boolean, 0, 0)
theorem mo_X5_isMissing : mOk mX5_isMissing 0 := ⟨(in_tb 632 (by decide +kernel) (by decide +kernel)), (in_tb 54 (by decide +kernel) (by decide +kernel)), by decide +kernel, by decide +kernel⟩
theorem im_X5_isMissing : Cond.instanceMethod (m_y mX5_isMissing) ∈ tb := (in_tb 630 (by decide +kernel) (by decide +kernel))
theorem se_X5_isMissing : Cond.selects (m_y mX5_isMissing).cls (m_y mX5_isMissing) (m_y mX5_isMissing) ∈ tb := (in_tb 631 (by decide +kernel) (by decide +kernel))
def mX5_lowest : MT := (yX5_lowest, cX5_lowest, 2, some .int, 0, 0)
theorem mo_X5_lowest : mOk mX5_lowest 1 := ⟨(in_tb 643 (by decide +kernel) (by decide +kernel)), (in_tb 54 (by decide +kernel) (by decide +kernel)), by decide +kernel, by decide +kernel⟩
theorem im_X5_lowest : Cond.instanceMethod (m_y mX5_lowest) ∈ tb := (in_tb 641 (by decide +kernel) (by decide +kernel))
theorem se_X5_lowest : Cond.selects (m_y mX5_lowest).cls (m_y mX5_lowest) (m_y mX5_lowest) ∈ tb := (in_tb 642 (by decide +kernel) (by decide +kernel))
def mX5_renew : MT := (yX5_renew, cX5_renew, 3, some .int, 1, 23)
theorem mo_X5_renew : mOk mX5_renew 2 := ⟨(in_tb 628 (by decide +kernel) (by decide +kernel)), (in_tb 54 (by decide +kernel) (by decide +kernel)), by decide +kernel, by decide +kernel⟩
theorem im_X5_renew : Cond.instanceMethod (m_y mX5_renew) ∈ tb := (in_tb 626 (by decide +kernel) (by decide +kernel))
theorem se_X5_renew : Cond.selects (m_y mX5_renew).cls (m_y mX5_renew) (m_y mX5_renew) ∈ tb := (in_tb 627 (by decide +kernel) (by decide +kernel))
def mX6_bringRowsBack : MT := (yX6_bringRowsBack, cX6_bringRowsBack, 1, none, 1, 26)
theorem mo_X6_bringRowsBack : mOk mX6_bringRowsBack 0 := ⟨(in_tb 541 (by decide +kernel) (by decide +kernel)), (in_tb 49 (by decide +kernel) (by decide +kernel)), by decide +kernel, by decide +kernel⟩
theorem im_X6_bringRowsBack : Cond.instanceMethod (m_y mX6_bringRowsBack) ∈ tb := (in_tb 539 (by decide +kernel) (by decide +kernel))
theorem se_X6_bringRowsBack : Cond.selects (m_y mX6_bringRowsBack).cls (m_y mX6_bringRowsBack) (m_y mX6_bringRowsBack) ∈ tb := (in_tb 540 (by decide +kernel) (by decide +kernel))
def mX6_clearNights : MT := (yX6_clearNights, cX6_clearNights, 3, none, 2, 45)
theorem mo_X6_clearNights : mOk mX6_clearNights 1 := ⟨(in_tb 358 (by decide +kernel) (by decide +kernel)), (in_tb 49 (by decide +kernel) (by decide +kernel)), by decide +kernel, by decide +kernel⟩
theorem im_X6_clearNights : Cond.instanceMethod (m_y mX6_clearNights) ∈ tb := (in_tb 356 (by decide +kernel) (by decide +kernel))
theorem se_X6_clearNights : Cond.selects (m_y mX6_clearNights).cls (m_y mX6_clearNights) (m_y mX6_clearNights) ∈ tb := (in_tb 357 (by decide +kernel) (by decide +kernel))
def mX6_guest : MT := (yX6_guest, cX6_guest, 4, some .int, 2, 44)
theorem mo_X6_guest : mOk mX6_guest 2 := ⟨(in_tb 404 (by decide +kernel) (by decide +kernel)), (in_tb 49 (by decide +kernel) (by decide +kernel)), by decide +kernel, by decide +kernel⟩
theorem im_X6_guest : Cond.instanceMethod (m_y mX6_guest) ∈ tb := (in_tb 402 (by decide +kernel) (by decide +kernel))
theorem se_X6_guest : Cond.selects (m_y mX6_guest).cls (m_y mX6_guest) (m_y mX6_guest) ∈ tb := (in_tb 403 (by decide +kernel) (by decide +kernel))
def mX6_index : MT := (yX6_index, cX6_index, 3, some .int, 0, 0)
theorem mo_X6_index : mOk mX6_index 2 := ⟨(in_tb 354 (by decide +kernel) (by decide +kernel)), (in_tb 49 (by decide +kernel) (by decide +kernel)), by decide +kernel, by decide +kernel⟩
theorem im_X6_index : Cond.instanceMethod (m_y mX6_index) ∈ tb := (in_tb 352 (by decide +kernel) (by decide +kernel))
theorem se_X6_index : Cond.selects (m_y mX6_index).cls (m_y mX6_index) (m_y mX6_index) ∈ tb := (in_tb 353 (by decide +kernel) (by decide +kernel))
def mX6_init : MT := (yX6_init, cX6_init, 1, none, 1, 20)
theorem mo_X6_init : mOk mX6_init 0 := ⟨(in_tb 118 (by decide +kernel) (by decide +kernel)), (in_tb 49 (by decide +kernel) (by decide +kernel)), by decide +kernel, by decide +kernel⟩
theorem im_X6_init : Cond.instanceMethod (m_y mX6_init) ∈ tb := (in_tb 117 (by decide +kernel) (by decide +kernel))
def mX6_nightsOf : MT := (yX6_nightsOf, cX6_nightsOf, 4, some .int, 2, 44)
theorem mo_X6_nightsOf : mOk mX6_nightsOf 1 := ⟨(in_tb 382 (by decide +kernel) (by decide +kernel)), (in_tb 49 (by decide +kernel) (by decide +kernel)), by decide +kernel, by decide +kernel⟩
theorem im_X6_nightsOf : Cond.instanceMethod (m_y mX6_nightsOf) ∈ tb := (in_tb 380 (by decide +kernel) (by decide +kernel))
theorem se_X6_nightsOf : Cond.selects (m_y mX6_nightsOf).cls (m_y mX6_nightsOf) (m_y mX6_nightsOf) ∈ tb := (in_tb 381 (by decide +kernel) (by decide +kernel))
def mX6_read : MT := (yX6_read, cX6_read, 3, some .int, 1, 22)
theorem mo_X6_read : mOk mX6_read 2 := ⟨(in_tb 371 (by decide +kernel) (by decide +kernel)), (in_tb 49 (by decide +kernel) (by decide +kernel)), by decide +kernel, by decide +kernel⟩
theorem im_X6_read : Cond.instanceMethod (m_y mX6_read) ∈ tb := (in_tb 369 (by decide +kernel) (by decide +kernel))
theorem se_X6_read : Cond.selects (m_y mX6_read).cls (m_y mX6_read) (m_y mX6_read) ∈ tb := (in_tb 370 (by decide +kernel) (by decide +kernel))
def mX6_saveRows : MT := (yX6_saveRows, cX6_saveRows, 1, none, 1, 26)
theorem mo_X6_saveRows : mOk mX6_saveRows 0 := ⟨(in_tb 529 (by decide +kernel) (by decide +kernel)), (in_tb 49 (by decide +kernel) (by decide +kernel)), by decide +kernel, by decide +kernel⟩
theorem im_X6_saveRows : Cond.instanceMethod (m_y mX6_saveRows) ∈ tb := (in_tb 527 (by decide +kernel) (by decide +kernel))
theorem se_X6_saveRows : Cond.selects (m_y mX6_saveRows).cls (m_y mX6_saveRows) (m_y mX6_saveRows) ∈ tb := (in_tb 528 (by decide +kernel) (by decide +kernel))
def mX6_size : MT := (yX6_size, cX6_size, 1, some .int, 0, 0)
theorem mo_X6_size : mOk mX6_size 0 := ⟨(in_tb 346 (by decide +kernel) (by decide +kernel)), (in_tb 49 (by decide +kernel) (by decide +kernel)), by decide +kernel, by decide +kernel⟩
theorem im_X6_size : Cond.instanceMethod (m_y mX6_size) ∈ tb := (in_tb 344 (by decide +kernel) (by decide +kernel))
theorem se_X6_size : Cond.selects (m_y mX6_size).cls (m_y mX6_size) (m_y mX6_size) ∈ tb := (in_tb 345 (by decide +kernel) (by decide +kernel))
def mX6_takenFrom : MT := (yX6_takenFrom, cX6_takenFrom, 6, some .int, 2, 44)
theorem mo_X6_takenFrom : mOk mX6_takenFrom 2 := ⟨(in_tb 468 (by decide +kernel) (by decide +kernel)), (in_tb 49 (by decide +kernel) (by decide +kernel)), by decide +kernel, by decide +kernel⟩
theorem im_X6_takenFrom : Cond.instanceMethod (m_y mX6_takenFrom) ∈ tb := (in_tb 466 (by decide +kernel) (by decide +kernel))
theorem se_X6_takenFrom : Cond.selects (m_y mX6_takenFrom).cls (m_y mX6_takenFrom) (m_y mX6_takenFrom) ∈ tb := (in_tb 467 (by decide +kernel) (by decide +kernel))
def mX6_write : MT := (yX6_write, cX6_write, 4, none, 1, 22)
theorem mo_X6_write : mOk mX6_write 3 := ⟨(in_tb 350 (by decide +kernel) (by decide +kernel)), (in_tb 49 (by decide +kernel) (by decide +kernel)), by decide +kernel, by decide +kernel⟩
theorem im_X6_write : Cond.instanceMethod (m_y mX6_write) ∈ tb := (in_tb 348 (by decide +kernel) (by decide +kernel))
theorem se_X6_write : Cond.selects (m_y mX6_write).cls (m_y mX6_write) (m_y mX6_write) ∈ tb := (in_tb 349 (by decide +kernel) (by decide +kernel))
def mX7_all : MT := (yX7_all, cX7_all, 2, some .int, 1, 21)
theorem mo_X7_all : mOk mX7_all 1 := ⟨(in_tb 672 (by decide +kernel) (by decide +kernel)), (in_tb 46 (by decide +kernel) (by decide +kernel)), by decide +kernel, by decide +kernel⟩
theorem im_X7_all : Cond.instanceMethod (m_y mX7_all) ∈ tb := (in_tb 670 (by decide +kernel) (by decide +kernel))
theorem se_X7_all : Cond.selects (m_y mX7_all).cls (m_y mX7_all) (m_y mX7_all) ∈ tb := (in_tb 671 (by decide +kernel) (by decide +kernel))
def mX7_applicant : MT := (yX7_applicant, cX7_applicant, 3, some .int, 4, 96)
theorem mo_X7_applicant : mOk mX7_applicant 1 := ⟨(in_tb 564 (by decide +kernel) (by decide +kernel)), (in_tb 46 (by decide +kernel) (by decide +kernel)), by decide +kernel, by decide +kernel⟩
theorem im_X7_applicant : Cond.instanceMethod (m_y mX7_applicant) ∈ tb := (in_tb 562 (by decide +kernel) (by decide +kernel))
theorem se_X7_applicant : Cond.selects (m_y mX7_applicant).cls (m_y mX7_applicant) (m_y mX7_applicant) ∈ tb := (in_tb 563 (by decide +kernel) (by decide +kernel))
def mX7_as : MT := (yX7_as, cX7_as, 5, some .int, 2, 44)
theorem mo_X7_as : mOk mX7_as 2 := ⟨(in_tb 363 (by decide +kernel) (by decide +kernel)), (in_tb 46 (by decide +kernel) (by decide +kernel)), by decide +kernel, by decide +kernel⟩
theorem im_X7_as : Cond.instanceMethod (m_y mX7_as) ∈ tb := (in_tb 361 (by decide +kernel) (by decide +kernel))
theorem se_X7_as : Cond.selects (m_y mX7_as).cls (m_y mX7_as) (m_y mX7_as) ∈ tb := (in_tb 362 (by decide +kernel) (by decide +kernel))
def mX7_at : MT := (yX7_at, cX7_at, 4, some .int, 2, 44)
theorem mo_X7_at : mOk mX7_at 2 := ⟨(in_tb 410 (by decide +kernel) (by decide +kernel)), (in_tb 46 (by decide +kernel) (by decide +kernel)), by decide +kernel, by decide +kernel⟩
theorem im_X7_at : Cond.instanceMethod (m_y mX7_at) ∈ tb := (in_tb 408 (by decide +kernel) (by decide +kernel))
theorem se_X7_at : Cond.selects (m_y mX7_at).cls (m_y mX7_at) (m_y mX7_at) ∈ tb := (in_tb 409 (by decide +kernel) (by decide +kernel))
def mX7_calendar : MT := (yX7_calendar, cX7_calendar, 3, some .int, 6, 155)
theorem mo_X7_calendar : mOk mX7_calendar 1 := ⟨(in_tb 521 (by decide +kernel) (by decide +kernel)), (in_tb 46 (by decide +kernel) (by decide +kernel)), by decide +kernel, by decide +kernel⟩
theorem im_X7_calendar : Cond.instanceMethod (m_y mX7_calendar) ∈ tb := (in_tb 519 (by decide +kernel) (by decide +kernel))
theorem se_X7_calendar : Cond.selects (m_y mX7_calendar).cls (m_y mX7_calendar) (m_y mX7_calendar) ∈ tb := (in_tb 520 (by decide +kernel) (by decide +kernel))
def mX7_camp : MT := (yX7_camp, cX7_camp, 4, some .int, 4, 96)
theorem mo_X7_camp : mOk mX7_camp 2 := ⟨(in_tb 287 (by decide +kernel) (by decide +kernel)), (in_tb 46 (by decide +kernel) (by decide +kernel)), by decide +kernel, by decide +kernel⟩
theorem im_X7_camp : Cond.instanceMethod (m_y mX7_camp) ∈ tb := (in_tb 285 (by decide +kernel) (by decide +kernel))
theorem se_X7_camp : Cond.selects (m_y mX7_camp).cls (m_y mX7_camp) (m_y mX7_camp) ∈ tb := (in_tb 286 (by decide +kernel) (by decide +kernel))
def mX7_chance : MT := (yX7_chance, cX7_chance, 6, some .int, 2, 44)
theorem mo_X7_chance : mOk mX7_chance 2 := ⟨(in_tb 580 (by decide +kernel) (by decide +kernel)), (in_tb 46 (by decide +kernel) (by decide +kernel)), by decide +kernel, by decide +kernel⟩
theorem im_X7_chance : Cond.instanceMethod (m_y mX7_chance) ∈ tb := (in_tb 578 (by decide +kernel) (by decide +kernel))
theorem se_X7_chance : Cond.selects (m_y mX7_chance).cls (m_y mX7_chance) (m_y mX7_chance) ∈ tb := (in_tb 579 (by decide +kernel) (by decide +kernel))
def mX7_change : MT := (yX7_change, cX7_change, 5, some .int, 3, 72)
theorem mo_X7_change : mOk mX7_change 3 := ⟨(in_tb 269 (by decide +kernel) (by decide +kernel)), (in_tb 46 (by decide +kernel) (by decide +kernel)), by decide +kernel, by decide +kernel⟩
theorem im_X7_change : Cond.instanceMethod (m_y mX7_change) ∈ tb := (in_tb 268 (by decide +kernel) (by decide +kernel))
theorem se_X7_change : Cond.selects (m_y mX7_change).cls (m_y mX7_change) (m_y mX7_change) ∈ tb := (in_tb 1 (by decide +kernel) (by decide +kernel))
def mX7_copy : MT := (yX7_copy, cX7_copy, 8, some .int, 2, 42)
theorem mo_X7_copy : mOk mX7_copy 5 := ⟨(in_tb 647 (by decide +kernel) (by decide +kernel)), (in_tb 46 (by decide +kernel) (by decide +kernel)), by decide +kernel, by decide +kernel⟩
theorem im_X7_copy : Cond.instanceMethod (m_y mX7_copy) ∈ tb := (in_tb 645 (by decide +kernel) (by decide +kernel))
theorem se_X7_copy : Cond.selects (m_y mX7_copy).cls (m_y mX7_copy) (m_y mX7_copy) ∈ tb := (in_tb 646 (by decide +kernel) (by decide +kernel))
def mX7_drawn : MT := (yX7_drawn, cX7_drawn, 3, some .int, 3, 71)
theorem mo_X7_drawn : mOk mX7_drawn 2 := ⟨(in_tb 597 (by decide +kernel) (by decide +kernel)), (in_tb 46 (by decide +kernel) (by decide +kernel)), by decide +kernel, by decide +kernel⟩
theorem im_X7_drawn : Cond.instanceMethod (m_y mX7_drawn) ∈ tb := (in_tb 595 (by decide +kernel) (by decide +kernel))
theorem se_X7_drawn : Cond.selects (m_y mX7_drawn).cls (m_y mX7_drawn) (m_y mX7_drawn) ∈ tb := (in_tb 596 (by decide +kernel) (by decide +kernel))
def mX7_end : MT := (yX7_end, cX7_end, 2, some .int, 4, 96)
theorem mo_X7_end : mOk mX7_end 1 := ⟨(in_tb 257 (by decide +kernel) (by decide +kernel)), (in_tb 46 (by decide +kernel) (by decide +kernel)), by decide +kernel, by decide +kernel⟩
theorem im_X7_end : Cond.instanceMethod (m_y mX7_end) ∈ tb := (in_tb 255 (by decide +kernel) (by decide +kernel))
theorem se_X7_end : Cond.selects (m_y mX7_end).cls (m_y mX7_end) (m_y mX7_end) ∈ tb := (in_tb 256 (by decide +kernel) (by decide +kernel))
def mX7_fill : MT := (yX7_fill, cX7_fill, 2, some .int, 6, 155)
theorem mo_X7_fill : mOk mX7_fill 1 := ⟨(in_tb 545 (by decide +kernel) (by decide +kernel)), (in_tb 46 (by decide +kernel) (by decide +kernel)), by decide +kernel, by decide +kernel⟩
theorem im_X7_fill : Cond.instanceMethod (m_y mX7_fill) ∈ tb := (in_tb 543 (by decide +kernel) (by decide +kernel))
theorem se_X7_fill : Cond.selects (m_y mX7_fill).cls (m_y mX7_fill) (m_y mX7_fill) ∈ tb := (in_tb 544 (by decide +kernel) (by decide +kernel))
def mX7_finding : MT := (yX7_finding, cX7_finding, 2, some .int, 0, 0)
theorem mo_X7_finding : mOk mX7_finding 1 := ⟨(in_tb 265 (by decide +kernel) (by decide +kernel)), (in_tb 46 (by decide +kernel) (by decide +kernel)), by decide +kernel, by decide +kernel⟩
theorem im_X7_finding : Cond.instanceMethod (m_y mX7_finding) ∈ tb := (in_tb 264 (by decide +kernel) (by decide +kernel))
theorem se_X7_finding : Cond.selects (m_y mX7_finding).cls (m_y mX7_finding) (m_y mX7_finding) ∈ tb := (in_tb 0 (by decide +kernel) (by decide +kernel))
def mX7_greatestDivisor : MT := (yX7_greatestDivisor, cX7_greatestDivisor, 3, some .int, 0, 0)
theorem mo_X7_greatestDivisor : mOk mX7_greatestDivisor 2 := ⟨(in_tb 593 (by decide +kernel) (by decide +kernel)), (in_tb 46 (by decide +kernel) (by decide +kernel)), by decide +kernel, by decide +kernel⟩
theorem sm_X7_greatestDivisor : Cond.static (m_y mX7_greatestDivisor) ∈ tb := (in_tb 592 (by decide +kernel) (by decide +kernel))
def mX7_holds : MT := (yX7_holds, cX7_holds, 2, some .boolean, 0, 0)
theorem mo_X7_holds : mOk mX7_holds 2 := ⟨(in_tb 450 (by decide +kernel) (by decide +kernel)), (in_tb 46 (by decide +kernel) (by decide +kernel)), by decide +kernel, by decide +kernel⟩
theorem sm_X7_holds : Cond.static (m_y mX7_holds) ∈ tb := (in_tb 449 (by decide +kernel) (by decide +kernel))
def mX7_hurt : MT := (yX7_hurt, cX7_hurt, 5, some .int, 2, 47)
theorem mo_X7_hurt : mOk mX7_hurt 2 := ⟨(in_tb 556 (by decide +kernel) (by decide +kernel)), (in_tb 46 (by decide +kernel) (by decide +kernel)), by decide +kernel, by decide +kernel⟩
theorem im_X7_hurt : Cond.instanceMethod (m_y mX7_hurt) ∈ tb := (in_tb 554 (by decide +kernel) (by decide +kernel))
theorem se_X7_hurt : Cond.selects (m_y mX7_hurt).cls (m_y mX7_hurt) (m_y mX7_hurt) ∈ tb := (in_tb 555 (by decide +kernel) (by decide +kernel))
def mX7_init : MT := (yX7_init, cX7_init, 2, none, 3, 61)
theorem mo_X7_init : mOk mX7_init 0 := ⟨(in_tb 62 (by decide +kernel) (by decide +kernel)), (in_tb 46 (by decide +kernel) (by decide +kernel)), by decide +kernel, by decide +kernel⟩
theorem im_X7_init : Cond.instanceMethod (m_y mX7_init) ∈ tb := (in_tb 61 (by decide +kernel) (by decide +kernel))
def mX7_isApplicant : MT := (yX7_isApplicant, cX7_isApplicant, 2, some .boolean, 1, 22)
theorem mo_X7_isApplicant : mOk mX7_isApplicant 1 := ⟨(in_tb 576 (by decide +kernel) (by decide +kernel)), (in_tb 46 (by decide +kernel) (by decide +kernel)), by decide +kernel, by decide +kernel⟩
theorem im_X7_isApplicant : Cond.instanceMethod (m_y mX7_isApplicant) ∈ tb := (in_tb 575 (by decide +kernel) (by decide +kernel))
theorem se_X7_isApplicant : Cond.selects (m_y mX7_isApplicant).cls (m_y mX7_isApplicant) (m_y mX7_isApplicant) ∈ tb := (in_tb 16 (by decide +kernel) (by decide +kernel))
def mX7_isCamp : MT := (yX7_isCamp, cX7_isCamp, 2, some .boolean, 1, 22)
theorem mo_X7_isCamp : mOk mX7_isCamp 1 := ⟨(in_tb 400 (by decide +kernel) (by decide +kernel)), (in_tb 46 (by decide +kernel) (by decide +kernel)), by decide +kernel, by decide +kernel⟩
theorem im_X7_isCamp : Cond.instanceMethod (m_y mX7_isCamp) ∈ tb := (in_tb 399 (by decide +kernel) (by decide +kernel))
theorem se_X7_isCamp : Cond.selects (m_y mX7_isCamp).cls (m_y mX7_isCamp) (m_y mX7_isCamp) ∈ tb := (in_tb 4 (by decide +kernel) (by decide +kernel))
def mX7_isDay : MT := (yX7_isDay, cX7_isDay, 1, some .boolean, 1, 22)
theorem mo_X7_isDay : mOk mX7_isDay 1 := ⟨(in_tb 314 (by decide +kernel) (by decide +kernel)), (in_tb 46 (by decide +kernel) (by decide +kernel)), by decide +kernel, by decide +kernel⟩
theorem sm_X7_isDay : Cond.static (m_y mX7_isDay) ∈ tb := (in_tb 313 (by decide +kernel) (by decide +kernel))
def mX7_isKind : MT := (yX7_isKind, cX7_isKind, 1, some .boolean, 1, 22)
theorem mo_X7_isKind : mOk mX7_isKind 1 := ⟨(in_tb 332 (by decide +kernel) (by decide +kernel)), (in_tb 46 (by decide +kernel) (by decide +kernel)), by decide +kernel, by decide +kernel⟩
theorem sm_X7_isKind : Cond.static (m_y mX7_isKind) ∈ tb := (in_tb 331 (by decide +kernel) (by decide +kernel))
def mX7_isMile : MT := (yX7_isMile, cX7_isMile, 1, some .boolean, 1, 22)
theorem mo_X7_isMile : mOk mX7_isMile 1 := ⟨(in_tb 303 (by decide +kernel) (by decide +kernel)), (in_tb 46 (by decide +kernel) (by decide +kernel)), by decide +kernel, by decide +kernel⟩
theorem sm_X7_isMile : Cond.static (m_y mX7_isMile) ∈ tb := (in_tb 302 (by decide +kernel) (by decide +kernel))
def mX7_isSet : MT := (yX7_isSet, cX7_isSet, 2, some .boolean, 1, 20)
theorem mo_X7_isSet : mOk mX7_isSet 1 := ⟨(in_tb 525 (by decide +kernel) (by decide +kernel)), (in_tb 46 (by decide +kernel) (by decide +kernel)), by decide +kernel, by decide +kernel⟩
theorem im_X7_isSet : Cond.instanceMethod (m_y mX7_isSet) ∈ tb := (in_tb 524 (by decide +kernel) (by decide +kernel))
theorem se_X7_isSet : Cond.selects (m_y mX7_isSet).cls (m_y mX7_isSet) (m_y mX7_isSet) ∈ tb := (in_tb 15 (by decide +kernel) (by decide +kernel))
def mX7_isSheet : MT := (yX7_isSheet, cX7_isSheet, 1, some .boolean, 1, 22)
theorem mo_X7_isSheet : mOk mX7_isSheet 1 := ⟨(in_tb 624 (by decide +kernel) (by decide +kernel)), (in_tb 46 (by decide +kernel) (by decide +kernel)), by decide +kernel, by decide +kernel⟩
theorem sm_X7_isSheet : Cond.static (m_y mX7_isSheet) ∈ tb := (in_tb 623 (by decide +kernel) (by decide +kernel))
def mX7_isTrip : MT := (yX7_isTrip, cX7_isTrip, 2, some .boolean, 1, 22)
theorem mo_X7_isTrip : mOk mX7_isTrip 1 := ⟨(in_tb 367 (by decide +kernel) (by decide +kernel)), (in_tb 46 (by decide +kernel) (by decide +kernel)), by decide +kernel, by decide +kernel⟩
theorem im_X7_isTrip : Cond.instanceMethod (m_y mX7_isTrip) ∈ tb := (in_tb 366 (by decide +kernel) (by decide +kernel))
theorem se_X7_isTrip : Cond.selects (m_y mX7_isTrip).cls (m_y mX7_isTrip) (m_y mX7_isTrip) ∈ tb := (in_tb 2 (by decide +kernel) (by decide +kernel))
def mX7_isWater : MT := (yX7_isWater, cX7_isWater, 1, some .boolean, 1, 22)
theorem mo_X7_isWater : mOk mX7_isWater 1 := ⟨(in_tb 295 (by decide +kernel) (by decide +kernel)), (in_tb 46 (by decide +kernel) (by decide +kernel)), by decide +kernel, by decide +kernel⟩
theorem sm_X7_isWater : Cond.static (m_y mX7_isWater) ∈ tb := (in_tb 294 (by decide +kernel) (by decide +kernel))
def mX7_keepTrips : MT := (yX7_keepTrips, cX7_keepTrips, 3, none, 3, 72)
theorem mo_X7_keepTrips : mOk mX7_keepTrips 2 := ⟨(in_tb 391 (by decide +kernel) (by decide +kernel)), (in_tb 46 (by decide +kernel) (by decide +kernel)), by decide +kernel, by decide +kernel⟩
theorem im_X7_keepTrips : Cond.instanceMethod (m_y mX7_keepTrips) ∈ tb := (in_tb 390 (by decide +kernel) (by decide +kernel))
theorem se_X7_keepTrips : Cond.selects (m_y mX7_keepTrips).cls (m_y mX7_keepTrips) (m_y mX7_keepTrips) ∈ tb := (in_tb 3 (by decide +kernel) (by decide +kernel))
def mX7_landing : MT := (yX7_landing, cX7_landing, 3, some .int, 4, 96)
theorem mo_X7_landing : mOk mX7_landing 1 := ⟨(in_tb 300 (by decide +kernel) (by decide +kernel)), (in_tb 46 (by decide +kernel) (by decide +kernel)), by decide +kernel, by decide +kernel⟩
theorem im_X7_landing : Cond.instanceMethod (m_y mX7_landing) ∈ tb := (in_tb 298 (by decide +kernel) (by decide +kernel))
theorem se_X7_landing : Cond.selects (m_y mX7_landing).cls (m_y mX7_landing) (m_y mX7_landing) ∈ tb := (in_tb 299 (by decide +kernel) (by decide +kernel))
def mX7_launch : MT := (yX7_launch, cX7_launch, 4, some .int, 4, 94)
theorem mo_X7_launch : mOk mX7_launch 2 := ⟨(in_tb 387 (by decide +kernel) (by decide +kernel)), (in_tb 46 (by decide +kernel) (by decide +kernel)), by decide +kernel, by decide +kernel⟩
theorem im_X7_launch : Cond.instanceMethod (m_y mX7_launch) ∈ tb := (in_tb 385 (by decide +kernel) (by decide +kernel))
theorem se_X7_launch : Cond.selects (m_y mX7_launch).cls (m_y mX7_launch) (m_y mX7_launch) ∈ tb := (in_tb 386 (by decide +kernel) (by decide +kernel))
def mX7_let : MT := (yX7_let, cX7_let, 6, some .int, 3, 72)
theorem mo_X7_let : mOk mX7_let 2 := ⟨(in_tb 656 (by decide +kernel) (by decide +kernel)), (in_tb 46 (by decide +kernel) (by decide +kernel)), by decide +kernel, by decide +kernel⟩
theorem im_X7_let : Cond.instanceMethod (m_y mX7_let) ∈ tb := (in_tb 654 (by decide +kernel) (by decide +kernel))
theorem se_X7_let : Cond.selects (m_y mX7_let).cls (m_y mX7_let) (m_y mX7_let) ∈ tb := (in_tb 655 (by decide +kernel) (by decide +kernel))
def mX7_near : MT := (yX7_near, cX7_near, 8, some .int, 2, 44)
theorem mo_X7_near : mOk mX7_near 3 := ⟨(in_tb 549 (by decide +kernel) (by decide +kernel)), (in_tb 46 (by decide +kernel) (by decide +kernel)), by decide +kernel, by decide +kernel⟩
theorem im_X7_near : Cond.instanceMethod (m_y mX7_near) ∈ tb := (in_tb 547 (by decide +kernel) (by decide +kernel))
theorem se_X7_near : Cond.selects (m_y mX7_near).cls (m_y mX7_near) (m_y mX7_near) ∈ tb := (in_tb 548 (by decide +kernel) (by decide +kernel))
def mX7_night : MT := (yX7_night, cX7_night, 5, some .int, 4, 96)
theorem mo_X7_night : mOk mX7_night 3 := ⟨(in_tb 396 (by decide +kernel) (by decide +kernel)), (in_tb 46 (by decide +kernel) (by decide +kernel)), by decide +kernel, by decide +kernel⟩
theorem im_X7_night : Cond.instanceMethod (m_y mX7_night) ∈ tb := (in_tb 394 (by decide +kernel) (by decide +kernel))
theorem se_X7_night : Cond.selects (m_y mX7_night).cls (m_y mX7_night) (m_y mX7_night) ∈ tb := (in_tb 395 (by decide +kernel) (by decide +kernel))
def mX7_of : MT := (yX7_of, cX7_of, 3, some .int, 3, 67)
theorem mo_X7_of : mOk mX7_of 2 := ⟨(in_tb 378 (by decide +kernel) (by decide +kernel)), (in_tb 46 (by decide +kernel) (by decide +kernel)), by decide +kernel, by decide +kernel⟩
theorem im_X7_of : Cond.instanceMethod (m_y mX7_of) ∈ tb := (in_tb 376 (by decide +kernel) (by decide +kernel))
theorem se_X7_of : Cond.selects (m_y mX7_of).cls (m_y mX7_of) (m_y mX7_of) ∈ tb := (in_tb 377 (by decide +kernel) (by decide +kernel))
def mX7_plan : MT := (yX7_plan, cX7_plan, 2, some .int, 5, 130)
theorem mo_X7_plan : mOk mX7_plan 1 := ⟨(in_tb 419 (by decide +kernel) (by decide +kernel)), (in_tb 46 (by decide +kernel) (by decide +kernel)), by decide +kernel, by decide +kernel⟩
theorem im_X7_plan : Cond.instanceMethod (m_y mX7_plan) ∈ tb := (in_tb 417 (by decide +kernel) (by decide +kernel))
theorem se_X7_plan : Cond.selects (m_y mX7_plan).cls (m_y mX7_plan) (m_y mX7_plan) ∈ tb := (in_tb 418 (by decide +kernel) (by decide +kernel))
def mX7_planned : MT := (yX7_planned, cX7_planned, 3, some .int, 5, 130)
theorem mo_X7_planned : mOk mX7_planned 2 := ⟨(in_tb 507 (by decide +kernel) (by decide +kernel)), (in_tb 46 (by decide +kernel) (by decide +kernel)), by decide +kernel, by decide +kernel⟩
theorem im_X7_planned : Cond.instanceMethod (m_y mX7_planned) ∈ tb := (in_tb 505 (by decide +kernel) (by decide +kernel))
theorem se_X7_planned : Cond.selects (m_y mX7_planned).cls (m_y mX7_planned) (m_y mX7_planned) ∈ tb := (in_tb 506 (by decide +kernel) (by decide +kernel))
def mX7_put : MT := (yX7_put, cX7_put, 5, some .int, 2, 42)
theorem mo_X7_put : mOk mX7_put 3 := ⟨(in_tb 637 (by decide +kernel) (by decide +kernel)), (in_tb 46 (by decide +kernel) (by decide +kernel)), by decide +kernel, by decide +kernel⟩
theorem im_X7_put : Cond.instanceMethod (m_y mX7_put) ∈ tb := (in_tb 635 (by decide +kernel) (by decide +kernel))
theorem se_X7_put : Cond.selects (m_y mX7_put).cls (m_y mX7_put) (m_y mX7_put) ∈ tb := (in_tb 636 (by decide +kernel) (by decide +kernel))
def mX7_rapid : MT := (yX7_rapid, cX7_rapid, 5, some .int, 4, 96)
theorem mo_X7_rapid : mOk mX7_rapid 3 := ⟨(in_tb 292 (by decide +kernel) (by decide +kernel)), (in_tb 46 (by decide +kernel) (by decide +kernel)), by decide +kernel, by decide +kernel⟩
theorem im_X7_rapid : Cond.instanceMethod (m_y mX7_rapid) ∈ tb := (in_tb 290 (by decide +kernel) (by decide +kernel))
theorem se_X7_rapid : Cond.selects (m_y mX7_rapid).cls (m_y mX7_rapid) (m_y mX7_rapid) ∈ tb := (in_tb 291 (by decide +kernel) (by decide +kernel))
def mX7_runs : MT := (yX7_runs, cX7_runs, 4, some .int, 3, 71)
theorem mo_X7_runs : mOk mX7_runs 3 := ⟨(in_tb 329 (by decide +kernel) (by decide +kernel)), (in_tb 46 (by decide +kernel) (by decide +kernel)), by decide +kernel, by decide +kernel⟩
theorem im_X7_runs : Cond.instanceMethod (m_y mX7_runs) ∈ tb := (in_tb 327 (by decide +kernel) (by decide +kernel))
theorem se_X7_runs : Cond.selects (m_y mX7_runs).cls (m_y mX7_runs) (m_y mX7_runs) ∈ tb := (in_tb 328 (by decide +kernel) (by decide +kernel))
def mX7_sheet : MT := (yX7_sheet, cX7_sheet, 4, some .int, 2, 45)
theorem mo_X7_sheet : mOk mX7_sheet 3 := ⟨(in_tb 621 (by decide +kernel) (by decide +kernel)), (in_tb 46 (by decide +kernel) (by decide +kernel)), by decide +kernel, by decide +kernel⟩
theorem im_X7_sheet : Cond.instanceMethod (m_y mX7_sheet) ∈ tb := (in_tb 619 (by decide +kernel) (by decide +kernel))
theorem se_X7_sheet : Cond.selects (m_y mX7_sheet).cls (m_y mX7_sheet) (m_y mX7_sheet) ∈ tb := (in_tb 620 (by decide +kernel) (by decide +kernel))
def mX7_speed : MT := (yX7_speed, cX7_speed, 2, some .int, 4, 96)
theorem mo_X7_speed : mOk mX7_speed 1 := ⟨(in_tb 307 (by decide +kernel) (by decide +kernel)), (in_tb 46 (by decide +kernel) (by decide +kernel)), by decide +kernel, by decide +kernel⟩
theorem im_X7_speed : Cond.instanceMethod (m_y mX7_speed) ∈ tb := (in_tb 305 (by decide +kernel) (by decide +kernel))
theorem se_X7_speed : Cond.selects (m_y mX7_speed).cls (m_y mX7_speed) (m_y mX7_speed) ∈ tb := (in_tb 306 (by decide +kernel) (by decide +kernel))
def mX7_take : MT := (yX7_take, cX7_take, 2, some .int, 5, 130)
theorem mo_X7_take : mOk mX7_take 1 := ⟨(in_tb 511 (by decide +kernel) (by decide +kernel)), (in_tb 46 (by decide +kernel) (by decide +kernel)), by decide +kernel, by decide +kernel⟩
theorem im_X7_take : Cond.instanceMethod (m_y mX7_take) ∈ tb := (in_tb 509 (by decide +kernel) (by decide +kernel))
theorem se_X7_take : Cond.selects (m_y mX7_take).cls (m_y mX7_take) (m_y mX7_take) ∈ tb := (in_tb 510 (by decide +kernel) (by decide +kernel))
def mX7_trip : MT := (yX7_trip, cX7_trip, 7, some .int, 4, 96)
theorem mo_X7_trip : mOk mX7_trip 5 := ⟨(in_tb 342 (by decide +kernel) (by decide +kernel)), (in_tb 46 (by decide +kernel) (by decide +kernel)), by decide +kernel, by decide +kernel⟩
theorem im_X7_trip : Cond.instanceMethod (m_y mX7_trip) ∈ tb := (in_tb 340 (by decide +kernel) (by decide +kernel))
theorem se_X7_trip : Cond.selects (m_y mX7_trip).cls (m_y mX7_trip) (m_y mX7_trip) ∈ tb := (in_tb 341 (by decide +kernel) (by decide +kernel))
def mX7_turn : MT := (yX7_turn, cX7_turn, 3, some .int, 3, 71)
theorem mo_X7_turn : mOk mX7_turn 2 := ⟨(in_tb 613 (by decide +kernel) (by decide +kernel)), (in_tb 46 (by decide +kernel) (by decide +kernel)), by decide +kernel, by decide +kernel⟩
theorem im_X7_turn : Cond.instanceMethod (m_y mX7_turn) ∈ tb := (in_tb 611 (by decide +kernel) (by decide +kernel))
theorem se_X7_turn : Cond.selects (m_y mX7_turn).cls (m_y mX7_turn) (m_y mX7_turn) ∈ tb := (in_tb 612 (by decide +kernel) (by decide +kernel))
def mX7_undo : MT := (yX7_undo, cX7_undo, 1, some .int, 3, 66)
theorem mo_X7_undo : mOk mX7_undo 0 := ⟨(in_tb 660 (by decide +kernel) (by decide +kernel)), (in_tb 46 (by decide +kernel) (by decide +kernel)), by decide +kernel, by decide +kernel⟩
theorem im_X7_undo : Cond.instanceMethod (m_y mX7_undo) ∈ tb := (in_tb 658 (by decide +kernel) (by decide +kernel))
theorem se_X7_undo : Cond.selects (m_y mX7_undo).cls (m_y mX7_undo) (m_y mX7_undo) ∈ tb := (in_tb 659 (by decide +kernel) (by decide +kernel))
def mX7_water : MT := (yX7_water, cX7_water, 4, some .int, 4, 96)
theorem mo_X7_water : mOk mX7_water 3 := ⟨(in_tb 311 (by decide +kernel) (by decide +kernel)), (in_tb 46 (by decide +kernel) (by decide +kernel)), by decide +kernel, by decide +kernel⟩
theorem im_X7_water : Cond.instanceMethod (m_y mX7_water) ∈ tb := (in_tb 309 (by decide +kernel) (by decide +kernel))
theorem se_X7_water : Cond.selects (m_y mX7_water).cls (m_y mX7_water) (m_y mX7_water) ∈ tb := (in_tb 310 (by decide +kernel) (by decide +kernel))
def mX7_waterAt : MT := (yX7_waterAt, cX7_waterAt, 4, some .int, 2, 46)
theorem mo_X7_waterAt : mOk mX7_waterAt 3 := ⟨(in_tb 318 (by decide +kernel) (by decide +kernel)), (in_tb 46 (by decide +kernel) (by decide +kernel)), by decide +kernel, by decide +kernel⟩
theorem im_X7_waterAt : Cond.instanceMethod (m_y mX7_waterAt) ∈ tb := (in_tb 316 (by decide +kernel) (by decide +kernel))
theorem se_X7_waterAt : Cond.selects (m_y mX7_waterAt).cls (m_y mX7_waterAt) (m_y mX7_waterAt) ∈ tb := (in_tb 317 (by decide +kernel) (by decide +kernel))
def mX7_weigh : MT := (yX7_weigh, cX7_weigh, 3, some .int, 4, 96)
theorem mo_X7_weigh : mOk mX7_weigh 2 := ⟨(in_tb 572 (by decide +kernel) (by decide +kernel)), (in_tb 46 (by decide +kernel) (by decide +kernel)), by decide +kernel, by decide +kernel⟩
theorem im_X7_weigh : Cond.instanceMethod (m_y mX7_weigh) ∈ tb := (in_tb 570 (by decide +kernel) (by decide +kernel))
theorem se_X7_weigh : Cond.selects (m_y mX7_weigh).cls (m_y mX7_weigh) (m_y mX7_weigh) ∈ tb := (in_tb 571 (by decide +kernel) (by decide +kernel))
def mX7_who : MT := (yX7_who, cX7_who, 4, some .int, 3, 67)
theorem mo_X7_who : mOk mX7_who 2 := ⟨(in_tb 415 (by decide +kernel) (by decide +kernel)), (in_tb 46 (by decide +kernel) (by decide +kernel)), by decide +kernel, by decide +kernel⟩
theorem im_X7_who : Cond.instanceMethod (m_y mX7_who) ∈ tb := (in_tb 413 (by decide +kernel) (by decide +kernel))
theorem se_X7_who : Cond.selects (m_y mX7_who).cls (m_y mX7_who) (m_y mX7_who) ∈ tb := (in_tb 414 (by decide +kernel) (by decide +kernel))
def mX7_within : MT := (yX7_within, cX7_within, 3, some .boolean, 0, 0)
theorem mo_X7_within : mOk mX7_within 3 := ⟨(in_tb 260 (by decide +kernel) (by decide +kernel)), (in_tb 46 (by decide +kernel) (by decide +kernel)), by decide +kernel, by decide +kernel⟩
theorem sm_X7_within : Cond.static (m_y mX7_within) ∈ tb := (in_tb 259 (by decide +kernel) (by decide +kernel))
def mX8_all : MT := (yX8_all, cX8_all, 2, some .int, 1, 21)
theorem mo_X8_all : mOk mX8_all 1 := ⟨(in_tb 978 (by decide +kernel) (by decide +kernel)), (in_tb 55 (by decide +kernel) (by decide +kernel)), by decide +kernel, by decide +kernel⟩
theorem im_X8_all : Cond.instanceMethod (m_y mX8_all) ∈ tb := (in_tb 976 (by decide +kernel) (by decide +kernel))
theorem se_X8_all : Cond.selects (m_y mX8_all).cls (m_y mX8_all) (m_y mX8_all) ∈ tb := (in_tb 977 (by decide +kernel) (by decide +kernel))
def mX8_applicant : MT := (yX8_applicant, cX8_applicant, 3, some .int, 2, 44)
theorem mo_X8_applicant : mOk mX8_applicant 1 := ⟨(in_tb 921 (by decide +kernel) (by decide +kernel)), (in_tb 55 (by decide +kernel) (by decide +kernel)), by decide +kernel, by decide +kernel⟩
theorem im_X8_applicant : Cond.instanceMethod (m_y mX8_applicant) ∈ tb := (in_tb 919 (by decide +kernel) (by decide +kernel))
theorem se_X8_applicant : Cond.selects (m_y mX8_applicant).cls (m_y mX8_applicant) (m_y mX8_applicant) ∈ tb := (in_tb 920 (by decide +kernel) (by decide +kernel))
def mX8_as : MT := (yX8_as, cX8_as, 4, some .int, 1, 22)
theorem mo_X8_as : mOk mX8_as 2 := ⟨(in_tb 803 (by decide +kernel) (by decide +kernel)), (in_tb 55 (by decide +kernel) (by decide +kernel)), by decide +kernel, by decide +kernel⟩
theorem im_X8_as : Cond.instanceMethod (m_y mX8_as) ∈ tb := (in_tb 801 (by decide +kernel) (by decide +kernel))
theorem se_X8_as : Cond.selects (m_y mX8_as).cls (m_y mX8_as) (m_y mX8_as) ∈ tb := (in_tb 802 (by decide +kernel) (by decide +kernel))
def mX8_at : MT := (yX8_at, cX8_at, 4, some .int, 2, 42)
theorem mo_X8_at : mOk mX8_at 2 := ⟨(in_tb 841 (by decide +kernel) (by decide +kernel)), (in_tb 55 (by decide +kernel) (by decide +kernel)), by decide +kernel, by decide +kernel⟩
theorem im_X8_at : Cond.instanceMethod (m_y mX8_at) ∈ tb := (in_tb 839 (by decide +kernel) (by decide +kernel))
theorem se_X8_at : Cond.selects (m_y mX8_at).cls (m_y mX8_at) (m_y mX8_at) ∈ tb := (in_tb 840 (by decide +kernel) (by decide +kernel))
def mX8_becomes : MT := (yX8_becomes, cX8_becomes, 4, some .int, 1, 21)
theorem mo_X8_becomes : mOk mX8_becomes 2 := ⟨(in_tb 738 (by decide +kernel) (by decide +kernel)), (in_tb 55 (by decide +kernel) (by decide +kernel)), by decide +kernel, by decide +kernel⟩
theorem im_X8_becomes : Cond.instanceMethod (m_y mX8_becomes) ∈ tb := (in_tb 737 (by decide +kernel) (by decide +kernel))
theorem se_X8_becomes : Cond.selects (m_y mX8_becomes).cls (m_y mX8_becomes) (m_y mX8_becomes) ∈ tb := (in_tb 19 (by decide +kernel) (by decide +kernel))
def mX8_calendar : MT := (yX8_calendar, cX8_calendar, 4, some .int, 8, 209)
theorem mo_X8_calendar : mOk mX8_calendar 1 := ⟨(in_tb 897 (by decide +kernel) (by decide +kernel)), (in_tb 55 (by decide +kernel) (by decide +kernel)), by decide +kernel, by decide +kernel⟩
theorem im_X8_calendar : Cond.instanceMethod (m_y mX8_calendar) ∈ tb := (in_tb 895 (by decide +kernel) (by decide +kernel))
theorem se_X8_calendar : Cond.selects (m_y mX8_calendar).cls (m_y mX8_calendar) (m_y mX8_calendar) ∈ tb := (in_tb 896 (by decide +kernel) (by decide +kernel))
def mX8_calendarOf : MT := (yX8_calendarOf, cX8_calendarOf, 5, some .int, 7, 185)
theorem mo_X8_calendarOf : mOk mX8_calendarOf 1 := ⟨(in_tb 905 (by decide +kernel) (by decide +kernel)), (in_tb 55 (by decide +kernel) (by decide +kernel)), by decide +kernel, by decide +kernel⟩
theorem im_X8_calendarOf : Cond.instanceMethod (m_y mX8_calendarOf) ∈ tb := (in_tb 904 (by decide +kernel) (by decide +kernel))
theorem se_X8_calendarOf : Cond.selects (m_y mX8_calendarOf).cls (m_y mX8_calendarOf) (m_y mX8_calendarOf) ∈ tb := (in_tb 40 (by decide +kernel) (by decide +kernel))
def mX8_camp : MT := (yX8_camp, cX8_camp, 4, some .int, 2, 44)
theorem mo_X8_camp : mOk mX8_camp 2 := ⟨(in_tb 747 (by decide +kernel) (by decide +kernel)), (in_tb 55 (by decide +kernel) (by decide +kernel)), by decide +kernel, by decide +kernel⟩
theorem im_X8_camp : Cond.instanceMethod (m_y mX8_camp) ∈ tb := (in_tb 745 (by decide +kernel) (by decide +kernel))
theorem se_X8_camp : Cond.selects (m_y mX8_camp).cls (m_y mX8_camp) (m_y mX8_camp) ∈ tb := (in_tb 746 (by decide +kernel) (by decide +kernel))
def mX8_canEnd : MT := (yX8_canEnd, cX8_canEnd, 5, some .boolean, 3, 76)
theorem mo_X8_canEnd : mOk mX8_canEnd 3 := ⟨(in_tb 861 (by decide +kernel) (by decide +kernel)), (in_tb 55 (by decide +kernel) (by decide +kernel)), by decide +kernel, by decide +kernel⟩
theorem im_X8_canEnd : Cond.instanceMethod (m_y mX8_canEnd) ∈ tb := (in_tb 860 (by decide +kernel) (by decide +kernel))
theorem se_X8_canEnd : Cond.selects (m_y mX8_canEnd).cls (m_y mX8_canEnd) (m_y mX8_canEnd) ∈ tb := (in_tb 32 (by decide +kernel) (by decide +kernel))
def mX8_canGo : MT := (yX8_canGo, cX8_canGo, 8, some .boolean, 3, 76)
theorem mo_X8_canGo : mOk mX8_canGo 4 := ⟨(in_tb 877 (by decide +kernel) (by decide +kernel)), (in_tb 55 (by decide +kernel) (by decide +kernel)), by decide +kernel, by decide +kernel⟩
theorem im_X8_canGo : Cond.instanceMethod (m_y mX8_canGo) ∈ tb := (in_tb 876 (by decide +kernel) (by decide +kernel))
theorem se_X8_canGo : Cond.selects (m_y mX8_canGo).cls (m_y mX8_canGo) (m_y mX8_canGo) ∈ tb := (in_tb 36 (by decide +kernel) (by decide +kernel))
def mX8_chance : MT := (yX8_chance, cX8_chance, 6, some .int, 1, 22)
theorem mo_X8_chance : mOk mX8_chance 2 := ⟨(in_tb 933 (by decide +kernel) (by decide +kernel)), (in_tb 55 (by decide +kernel) (by decide +kernel)), by decide +kernel, by decide +kernel⟩
theorem im_X8_chance : Cond.instanceMethod (m_y mX8_chance) ∈ tb := (in_tb 931 (by decide +kernel) (by decide +kernel))
theorem se_X8_chance : Cond.selects (m_y mX8_chance).cls (m_y mX8_chance) (m_y mX8_chance) ∈ tb := (in_tb 932 (by decide +kernel) (by decide +kernel))
def mX8_copy : MT := (yX8_copy, cX8_copy, 7, some .int, 2, 42)
theorem mo_X8_copy : mOk mX8_copy 5 := ⟨(in_tb 966 (by decide +kernel) (by decide +kernel)), (in_tb 55 (by decide +kernel) (by decide +kernel)), by decide +kernel, by decide +kernel⟩
theorem im_X8_copy : Cond.instanceMethod (m_y mX8_copy) ∈ tb := (in_tb 964 (by decide +kernel) (by decide +kernel))
theorem se_X8_copy : Cond.selects (m_y mX8_copy).cls (m_y mX8_copy) (m_y mX8_copy) ∈ tb := (in_tb 965 (by decide +kernel) (by decide +kernel))
def mX8_draw : MT := (yX8_draw, cX8_draw, 7, none, 1, 22)
theorem mo_X8_draw : mOk mX8_draw 1 := ⟨(in_tb 945 (by decide +kernel) (by decide +kernel)), (in_tb 55 (by decide +kernel) (by decide +kernel)), by decide +kernel, by decide +kernel⟩
theorem im_X8_draw : Cond.instanceMethod (m_y mX8_draw) ∈ tb := (in_tb 944 (by decide +kernel) (by decide +kernel))
theorem se_X8_draw : Cond.selects (m_y mX8_draw).cls (m_y mX8_draw) (m_y mX8_draw) ∈ tb := (in_tb 43 (by decide +kernel) (by decide +kernel))
def mX8_drawn : MT := (yX8_drawn, cX8_drawn, 3, some .int, 2, 48)
theorem mo_X8_drawn : mOk mX8_drawn 2 := ⟨(in_tb 941 (by decide +kernel) (by decide +kernel)), (in_tb 55 (by decide +kernel) (by decide +kernel)), by decide +kernel, by decide +kernel⟩
theorem im_X8_drawn : Cond.instanceMethod (m_y mX8_drawn) ∈ tb := (in_tb 939 (by decide +kernel) (by decide +kernel))
theorem se_X8_drawn : Cond.selects (m_y mX8_drawn).cls (m_y mX8_drawn) (m_y mX8_drawn) ∈ tb := (in_tb 940 (by decide +kernel) (by decide +kernel))
def mX8_end : MT := (yX8_end, cX8_end, 2, some .int, 2, 44)
theorem mo_X8_end : mOk mX8_end 1 := ⟨(in_tb 731 (by decide +kernel) (by decide +kernel)), (in_tb 55 (by decide +kernel) (by decide +kernel)), by decide +kernel, by decide +kernel⟩
theorem im_X8_end : Cond.instanceMethod (m_y mX8_end) ∈ tb := (in_tb 729 (by decide +kernel) (by decide +kernel))
theorem se_X8_end : Cond.selects (m_y mX8_end).cls (m_y mX8_end) (m_y mX8_end) ∈ tb := (in_tb 730 (by decide +kernel) (by decide +kernel))
def mX8_fill : MT := (yX8_fill, cX8_fill, 2, some .int, 8, 209)
theorem mo_X8_fill : mOk mX8_fill 1 := ⟨(in_tb 909 (by decide +kernel) (by decide +kernel)), (in_tb 55 (by decide +kernel) (by decide +kernel)), by decide +kernel, by decide +kernel⟩
theorem im_X8_fill : Cond.instanceMethod (m_y mX8_fill) ∈ tb := (in_tb 907 (by decide +kernel) (by decide +kernel))
theorem se_X8_fill : Cond.selects (m_y mX8_fill).cls (m_y mX8_fill) (m_y mX8_fill) ∈ tb := (in_tb 908 (by decide +kernel) (by decide +kernel))
def mX8_finding : MT := (yX8_finding, cX8_finding, 2, some .int, 0, 0)
theorem mo_X8_finding : mOk mX8_finding 1 := ⟨(in_tb 727 (by decide +kernel) (by decide +kernel)), (in_tb 55 (by decide +kernel) (by decide +kernel)), by decide +kernel, by decide +kernel⟩
theorem im_X8_finding : Cond.instanceMethod (m_y mX8_finding) ∈ tb := (in_tb 726 (by decide +kernel) (by decide +kernel))
theorem se_X8_finding : Cond.selects (m_y mX8_finding).cls (m_y mX8_finding) (m_y mX8_finding) ∈ tb := (in_tb 18 (by decide +kernel) (by decide +kernel))
def mX8_hasPart : MT := (yX8_hasPart, cX8_hasPart, 4, some .boolean, 0, 0)
theorem mo_X8_hasPart : mOk mX8_hasPart 3 := ⟨(in_tb 970 (by decide +kernel) (by decide +kernel)), (in_tb 55 (by decide +kernel) (by decide +kernel)), by decide +kernel, by decide +kernel⟩
theorem im_X8_hasPart : Cond.instanceMethod (m_y mX8_hasPart) ∈ tb := (in_tb 969 (by decide +kernel) (by decide +kernel))
theorem se_X8_hasPart : Cond.selects (m_y mX8_hasPart).cls (m_y mX8_hasPart) (m_y mX8_hasPart) ∈ tb := (in_tb 44 (by decide +kernel) (by decide +kernel))
def mX8_hourOf : MT := (yX8_hourOf, cX8_hourOf, 6, some .int, 1, 24)
theorem mo_X8_hourOf : mOk mX8_hourOf 3 := ⟨(in_tb 791 (by decide +kernel) (by decide +kernel)), (in_tb 55 (by decide +kernel) (by decide +kernel)), by decide +kernel, by decide +kernel⟩
theorem im_X8_hourOf : Cond.instanceMethod (m_y mX8_hourOf) ∈ tb := (in_tb 790 (by decide +kernel) (by decide +kernel))
theorem se_X8_hourOf : Cond.selects (m_y mX8_hourOf).cls (m_y mX8_hourOf) (m_y mX8_hourOf) ∈ tb := (in_tb 23 (by decide +kernel) (by decide +kernel))
def mX8_hurt : MT := (yX8_hurt, cX8_hurt, 9, some .int, 1, 22)
theorem mo_X8_hurt : mOk mX8_hurt 2 := ⟨(in_tb 917 (by decide +kernel) (by decide +kernel)), (in_tb 55 (by decide +kernel) (by decide +kernel)), by decide +kernel, by decide +kernel⟩
theorem im_X8_hurt : Cond.instanceMethod (m_y mX8_hurt) ∈ tb := (in_tb 915 (by decide +kernel) (by decide +kernel))
theorem se_X8_hurt : Cond.selects (m_y mX8_hurt).cls (m_y mX8_hurt) (m_y mX8_hurt) ∈ tb := (in_tb 916 (by decide +kernel) (by decide +kernel))
def mX8_init : MT := (yX8_init, cX8_init, 2, none, 1, 20)
theorem mo_X8_init : mOk mX8_init 0 := ⟨(in_tb 677 (by decide +kernel) (by decide +kernel)), (in_tb 55 (by decide +kernel) (by decide +kernel)), by decide +kernel, by decide +kernel⟩
theorem im_X8_init : Cond.instanceMethod (m_y mX8_init) ∈ tb := (in_tb 676 (by decide +kernel) (by decide +kernel))
def mX8_isApplicant : MT := (yX8_isApplicant, cX8_isApplicant, 2, some .boolean, 0, 0)
theorem mo_X8_isApplicant : mOk mX8_isApplicant 1 := ⟨(in_tb 929 (by decide +kernel) (by decide +kernel)), (in_tb 55 (by decide +kernel) (by decide +kernel)), by decide +kernel, by decide +kernel⟩
theorem im_X8_isApplicant : Cond.instanceMethod (m_y mX8_isApplicant) ∈ tb := (in_tb 928 (by decide +kernel) (by decide +kernel))
theorem se_X8_isApplicant : Cond.selects (m_y mX8_isApplicant).cls (m_y mX8_isApplicant) (m_y mX8_isApplicant) ∈ tb := (in_tb 41 (by decide +kernel) (by decide +kernel))
def mX8_isCamp : MT := (yX8_isCamp, cX8_isCamp, 2, some .boolean, 0, 0)
theorem mo_X8_isCamp : mOk mX8_isCamp 1 := ⟨(in_tb 828 (by decide +kernel) (by decide +kernel)), (in_tb 55 (by decide +kernel) (by decide +kernel)), by decide +kernel, by decide +kernel⟩
theorem im_X8_isCamp : Cond.instanceMethod (m_y mX8_isCamp) ∈ tb := (in_tb 827 (by decide +kernel) (by decide +kernel))
theorem se_X8_isCamp : Cond.selects (m_y mX8_isCamp).cls (m_y mX8_isCamp) (m_y mX8_isCamp) ∈ tb := (in_tb 27 (by decide +kernel) (by decide +kernel))
def mX8_isDay : MT := (yX8_isDay, cX8_isDay, 1, some .boolean, 1, 22)
theorem mo_X8_isDay : mOk mX8_isDay 1 := ⟨(in_tb 771 (by decide +kernel) (by decide +kernel)), (in_tb 55 (by decide +kernel) (by decide +kernel)), by decide +kernel, by decide +kernel⟩
theorem sm_X8_isDay : Cond.static (m_y mX8_isDay) ∈ tb := (in_tb 770 (by decide +kernel) (by decide +kernel))
def mX8_isIn : MT := (yX8_isIn, cX8_isIn, 3, some .boolean, 0, 0)
theorem mo_X8_isIn : mOk mX8_isIn 3 := ⟨(in_tb 734 (by decide +kernel) (by decide +kernel)), (in_tb 55 (by decide +kernel) (by decide +kernel)), by decide +kernel, by decide +kernel⟩
theorem sm_X8_isIn : Cond.static (m_y mX8_isIn) ∈ tb := (in_tb 733 (by decide +kernel) (by decide +kernel))
def mX8_isOpen : MT := (yX8_isOpen, cX8_isOpen, 8, some .boolean, 2, 49)
theorem mo_X8_isOpen : mOk mX8_isOpen 4 := ⟨(in_tb 869 (by decide +kernel) (by decide +kernel)), (in_tb 55 (by decide +kernel) (by decide +kernel)), by decide +kernel, by decide +kernel⟩
theorem im_X8_isOpen : Cond.instanceMethod (m_y mX8_isOpen) ∈ tb := (in_tb 868 (by decide +kernel) (by decide +kernel))
theorem se_X8_isOpen : Cond.selects (m_y mX8_isOpen).cls (m_y mX8_isOpen) (m_y mX8_isOpen) ∈ tb := (in_tb 34 (by decide +kernel) (by decide +kernel))
def mX8_isRapid : MT := (yX8_isRapid, cX8_isRapid, 2, some .boolean, 0, 0)
theorem mo_X8_isRapid : mOk mX8_isRapid 1 := ⟨(in_tb 787 (by decide +kernel) (by decide +kernel)), (in_tb 55 (by decide +kernel) (by decide +kernel)), by decide +kernel, by decide +kernel⟩
theorem im_X8_isRapid : Cond.instanceMethod (m_y mX8_isRapid) ∈ tb := (in_tb 786 (by decide +kernel) (by decide +kernel))
theorem se_X8_isRapid : Cond.selects (m_y mX8_isRapid).cls (m_y mX8_isRapid) (m_y mX8_isRapid) ∈ tb := (in_tb 22 (by decide +kernel) (by decide +kernel))
def mX8_isSet : MT := (yX8_isSet, cX8_isSet, 2, some .boolean, 1, 22)
theorem mo_X8_isSet : mOk mX8_isSet 1 := ⟨(in_tb 901 (by decide +kernel) (by decide +kernel)), (in_tb 55 (by decide +kernel) (by decide +kernel)), by decide +kernel, by decide +kernel⟩
theorem im_X8_isSet : Cond.instanceMethod (m_y mX8_isSet) ∈ tb := (in_tb 900 (by decide +kernel) (by decide +kernel))
theorem se_X8_isSet : Cond.selects (m_y mX8_isSet).cls (m_y mX8_isSet) (m_y mX8_isSet) ∈ tb := (in_tb 39 (by decide +kernel) (by decide +kernel))
def mX8_isSheet : MT := (yX8_isSheet, cX8_isSheet, 1, some .boolean, 1, 22)
theorem mo_X8_isSheet : mOk mX8_isSheet 1 := ⟨(in_tb 957 (by decide +kernel) (by decide +kernel)), (in_tb 55 (by decide +kernel) (by decide +kernel)), by decide +kernel, by decide +kernel⟩
theorem sm_X8_isSheet : Cond.static (m_y mX8_isSheet) ∈ tb := (in_tb 956 (by decide +kernel) (by decide +kernel))
def mX8_isTrip : MT := (yX8_isTrip, cX8_isTrip, 2, some .boolean, 0, 0)
theorem mo_X8_isTrip : mOk mX8_isTrip 1 := ⟨(in_tb 807 (by decide +kernel) (by decide +kernel)), (in_tb 55 (by decide +kernel) (by decide +kernel)), by decide +kernel, by decide +kernel⟩
theorem im_X8_isTrip : Cond.instanceMethod (m_y mX8_isTrip) ∈ tb := (in_tb 806 (by decide +kernel) (by decide +kernel))
theorem se_X8_isTrip : Cond.selects (m_y mX8_isTrip).cls (m_y mX8_isTrip) (m_y mX8_isTrip) ∈ tb := (in_tb 25 (by decide +kernel) (by decide +kernel))
def mX8_isWater : MT := (yX8_isWater, cX8_isWater, 1, some .boolean, 1, 22)
theorem mo_X8_isWater : mOk mX8_isWater 1 := ⟨(in_tb 755 (by decide +kernel) (by decide +kernel)), (in_tb 55 (by decide +kernel) (by decide +kernel)), by decide +kernel, by decide +kernel⟩
theorem sm_X8_isWater : Cond.static (m_y mX8_isWater) ∈ tb := (in_tb 754 (by decide +kernel) (by decide +kernel))
def mX8_keep : MT := (yX8_keep, cX8_keep, 2, none, 0, 0)
theorem mo_X8_keep : mOk mX8_keep 0 := ⟨(in_tb 742 (by decide +kernel) (by decide +kernel)), (in_tb 55 (by decide +kernel) (by decide +kernel)), by decide +kernel, by decide +kernel⟩
theorem im_X8_keep : Cond.instanceMethod (m_y mX8_keep) ∈ tb := (in_tb 741 (by decide +kernel) (by decide +kernel))
theorem se_X8_keep : Cond.selects (m_y mX8_keep).cls (m_y mX8_keep) (m_y mX8_keep) ∈ tb := (in_tb 20 (by decide +kernel) (by decide +kernel))
def mX8_landing : MT := (yX8_landing, cX8_landing, 3, some .int, 2, 44)
theorem mo_X8_landing : mOk mX8_landing 1 := ⟨(in_tb 760 (by decide +kernel) (by decide +kernel)), (in_tb 55 (by decide +kernel) (by decide +kernel)), by decide +kernel, by decide +kernel⟩
theorem im_X8_landing : Cond.instanceMethod (m_y mX8_landing) ∈ tb := (in_tb 758 (by decide +kernel) (by decide +kernel))
theorem se_X8_landing : Cond.selects (m_y mX8_landing).cls (m_y mX8_landing) (m_y mX8_landing) ∈ tb := (in_tb 759 (by decide +kernel) (by decide +kernel))
def mX8_launch : MT := (yX8_launch, cX8_launch, 4, some .int, 2, 44)
theorem mo_X8_launch : mOk mX8_launch 2 := ⟨(in_tb 820 (by decide +kernel) (by decide +kernel)), (in_tb 55 (by decide +kernel) (by decide +kernel)), by decide +kernel, by decide +kernel⟩
theorem im_X8_launch : Cond.instanceMethod (m_y mX8_launch) ∈ tb := (in_tb 818 (by decide +kernel) (by decide +kernel))
theorem se_X8_launch : Cond.selects (m_y mX8_launch).cls (m_y mX8_launch) (m_y mX8_launch) ∈ tb := (in_tb 819 (by decide +kernel) (by decide +kernel))
def mX8_lay : MT := (yX8_lay, cX8_lay, 4, none, 1, 22)
theorem mo_X8_lay : mOk mX8_lay 2 := ⟨(in_tb 893 (by decide +kernel) (by decide +kernel)), (in_tb 55 (by decide +kernel) (by decide +kernel)), by decide +kernel, by decide +kernel⟩
theorem im_X8_lay : Cond.instanceMethod (m_y mX8_lay) ∈ tb := (in_tb 892 (by decide +kernel) (by decide +kernel))
theorem se_X8_lay : Cond.selects (m_y mX8_lay).cls (m_y mX8_lay) (m_y mX8_lay) ∈ tb := (in_tb 38 (by decide +kernel) (by decide +kernel))
def mX8_leftAt : MT := (yX8_leftAt, cX8_leftAt, 4, some .int, 0, 0)
theorem mo_X8_leftAt : mOk mX8_leftAt 3 := ⟨(in_tb 873 (by decide +kernel) (by decide +kernel)), (in_tb 55 (by decide +kernel) (by decide +kernel)), by decide +kernel, by decide +kernel⟩
theorem im_X8_leftAt : Cond.instanceMethod (m_y mX8_leftAt) ∈ tb := (in_tb 872 (by decide +kernel) (by decide +kernel))
theorem se_X8_leftAt : Cond.selects (m_y mX8_leftAt).cls (m_y mX8_leftAt) (m_y mX8_leftAt) ∈ tb := (in_tb 35 (by decide +kernel) (by decide +kernel))
def mX8_leftFrom : MT := (yX8_leftFrom, cX8_leftFrom, 9, some .int, 4, 103)
theorem mo_X8_leftFrom : mOk mX8_leftFrom 4 := ⟨(in_tb 857 (by decide +kernel) (by decide +kernel)), (in_tb 55 (by decide +kernel) (by decide +kernel)), by decide +kernel, by decide +kernel⟩
theorem im_X8_leftFrom : Cond.instanceMethod (m_y mX8_leftFrom) ∈ tb := (in_tb 856 (by decide +kernel) (by decide +kernel))
theorem se_X8_leftFrom : Cond.selects (m_y mX8_leftFrom).cls (m_y mX8_leftFrom) (m_y mX8_leftFrom) ∈ tb := (in_tb 31 (by decide +kernel) (by decide +kernel))
def mX8_let : MT := (yX8_let, cX8_let, 4, some .int, 2, 42)
theorem mo_X8_let : mOk mX8_let 2 := ⟨(in_tb 974 (by decide +kernel) (by decide +kernel)), (in_tb 55 (by decide +kernel) (by decide +kernel)), by decide +kernel, by decide +kernel⟩
theorem im_X8_let : Cond.instanceMethod (m_y mX8_let) ∈ tb := (in_tb 972 (by decide +kernel) (by decide +kernel))
theorem se_X8_let : Cond.selects (m_y mX8_let).cls (m_y mX8_let) (m_y mX8_let) ∈ tb := (in_tb 973 (by decide +kernel) (by decide +kernel))
def mX8_mayCamp : MT := (yX8_mayCamp, cX8_mayCamp, 3, some .boolean, 1, 22)
theorem mo_X8_mayCamp : mOk mX8_mayCamp 2 := ⟨(in_tb 837 (by decide +kernel) (by decide +kernel)), (in_tb 55 (by decide +kernel) (by decide +kernel)), by decide +kernel, by decide +kernel⟩
theorem im_X8_mayCamp : Cond.instanceMethod (m_y mX8_mayCamp) ∈ tb := (in_tb 836 (by decide +kernel) (by decide +kernel))
theorem se_X8_mayCamp : Cond.selects (m_y mX8_mayCamp).cls (m_y mX8_mayCamp) (m_y mX8_mayCamp) ∈ tb := (in_tb 29 (by decide +kernel) (by decide +kernel))
def mX8_mileOf : MT := (yX8_mileOf, cX8_mileOf, 2, some .int, 0, 0)
theorem mo_X8_mileOf : mOk mX8_mileOf 1 := ⟨(in_tb 865 (by decide +kernel) (by decide +kernel)), (in_tb 55 (by decide +kernel) (by decide +kernel)), by decide +kernel, by decide +kernel⟩
theorem im_X8_mileOf : Cond.instanceMethod (m_y mX8_mileOf) ∈ tb := (in_tb 864 (by decide +kernel) (by decide +kernel))
theorem se_X8_mileOf : Cond.selects (m_y mX8_mileOf).cls (m_y mX8_mileOf) (m_y mX8_mileOf) ∈ tb := (in_tb 33 (by decide +kernel) (by decide +kernel))
def mX8_near : MT := (yX8_near, cX8_near, 9, some .int, 1, 22)
theorem mo_X8_near : mOk mX8_near 3 := ⟨(in_tb 913 (by decide +kernel) (by decide +kernel)), (in_tb 55 (by decide +kernel) (by decide +kernel)), by decide +kernel, by decide +kernel⟩
theorem im_X8_near : Cond.instanceMethod (m_y mX8_near) ∈ tb := (in_tb 911 (by decide +kernel) (by decide +kernel))
theorem se_X8_near : Cond.selects (m_y mX8_near).cls (m_y mX8_near) (m_y mX8_near) ∈ tb := (in_tb 912 (by decide +kernel) (by decide +kernel))
def mX8_night : MT := (yX8_night, cX8_night, 4, some .int, 2, 44)
theorem mo_X8_night : mOk mX8_night 3 := ⟨(in_tb 824 (by decide +kernel) (by decide +kernel)), (in_tb 55 (by decide +kernel) (by decide +kernel)), by decide +kernel, by decide +kernel⟩
theorem im_X8_night : Cond.instanceMethod (m_y mX8_night) ∈ tb := (in_tb 822 (by decide +kernel) (by decide +kernel))
theorem se_X8_night : Cond.selects (m_y mX8_night).cls (m_y mX8_night) (m_y mX8_night) ∈ tb := (in_tb 823 (by decide +kernel) (by decide +kernel))
def mX8_noNights : MT := (yX8_noNights, cX8_noNights, 3, none, 0, 0)
theorem mo_X8_noNights : mOk mX8_noNights 1 := ⟨(in_tb 799 (by decide +kernel) (by decide +kernel)), (in_tb 55 (by decide +kernel) (by decide +kernel)), by decide +kernel, by decide +kernel⟩
theorem im_X8_noNights : Cond.instanceMethod (m_y mX8_noNights) ∈ tb := (in_tb 798 (by decide +kernel) (by decide +kernel))
theorem se_X8_noNights : Cond.selects (m_y mX8_noNights).cls (m_y mX8_noNights) (m_y mX8_noNights) ∈ tb := (in_tb 24 (by decide +kernel) (by decide +kernel))
def mX8_of : MT := (yX8_of, cX8_of, 5, some .int, 1, 22)
theorem mo_X8_of : mOk mX8_of 2 := ⟨(in_tb 816 (by decide +kernel) (by decide +kernel)), (in_tb 55 (by decide +kernel) (by decide +kernel)), by decide +kernel, by decide +kernel⟩
theorem im_X8_of : Cond.instanceMethod (m_y mX8_of) ∈ tb := (in_tb 814 (by decide +kernel) (by decide +kernel))
theorem se_X8_of : Cond.selects (m_y mX8_of).cls (m_y mX8_of) (m_y mX8_of) ∈ tb := (in_tb 815 (by decide +kernel) (by decide +kernel))
def mX8_other : MT := (yX8_other, cX8_other, 5, some .int, 0, 0)
theorem mo_X8_other : mOk mX8_other 3 := ⟨(in_tb 832 (by decide +kernel) (by decide +kernel)), (in_tb 55 (by decide +kernel) (by decide +kernel)), by decide +kernel, by decide +kernel⟩
theorem im_X8_other : Cond.instanceMethod (m_y mX8_other) ∈ tb := (in_tb 831 (by decide +kernel) (by decide +kernel))
theorem se_X8_other : Cond.selects (m_y mX8_other).cls (m_y mX8_other) (m_y mX8_other) ∈ tb := (in_tb 28 (by decide +kernel) (by decide +kernel))
def mX8_plan : MT := (yX8_plan, cX8_plan, 3, some .int, 6, 158)
theorem mo_X8_plan : mOk mX8_plan 1 := ⟨(in_tb 849 (by decide +kernel) (by decide +kernel)), (in_tb 55 (by decide +kernel) (by decide +kernel)), by decide +kernel, by decide +kernel⟩
theorem im_X8_plan : Cond.instanceMethod (m_y mX8_plan) ∈ tb := (in_tb 847 (by decide +kernel) (by decide +kernel))
theorem se_X8_plan : Cond.selects (m_y mX8_plan).cls (m_y mX8_plan) (m_y mX8_plan) ∈ tb := (in_tb 848 (by decide +kernel) (by decide +kernel))
def mX8_planOf : MT := (yX8_planOf, cX8_planOf, 8, some .int, 6, 158)
theorem mo_X8_planOf : mOk mX8_planOf 1 := ⟨(in_tb 885 (by decide +kernel) (by decide +kernel)), (in_tb 55 (by decide +kernel) (by decide +kernel)), by decide +kernel, by decide +kernel⟩
theorem im_X8_planOf : Cond.instanceMethod (m_y mX8_planOf) ∈ tb := (in_tb 884 (by decide +kernel) (by decide +kernel))
theorem se_X8_planOf : Cond.selects (m_y mX8_planOf).cls (m_y mX8_planOf) (m_y mX8_planOf) ∈ tb := (in_tb 37 (by decide +kernel) (by decide +kernel))
def mX8_planned : MT := (yX8_planned, cX8_planned, 4, some .int, 7, 185)
theorem mo_X8_planned : mOk mX8_planned 2 := ⟨(in_tb 881 (by decide +kernel) (by decide +kernel)), (in_tb 55 (by decide +kernel) (by decide +kernel)), by decide +kernel, by decide +kernel⟩
theorem im_X8_planned : Cond.instanceMethod (m_y mX8_planned) ∈ tb := (in_tb 879 (by decide +kernel) (by decide +kernel))
theorem se_X8_planned : Cond.selects (m_y mX8_planned).cls (m_y mX8_planned) (m_y mX8_planned) ∈ tb := (in_tb 880 (by decide +kernel) (by decide +kernel))
def mX8_put : MT := (yX8_put, cX8_put, 4, some .int, 2, 42)
theorem mo_X8_put : mOk mX8_put 3 := ⟨(in_tb 961 (by decide +kernel) (by decide +kernel)), (in_tb 55 (by decide +kernel) (by decide +kernel)), by decide +kernel, by decide +kernel⟩
theorem im_X8_put : Cond.instanceMethod (m_y mX8_put) ∈ tb := (in_tb 959 (by decide +kernel) (by decide +kernel))
theorem se_X8_put : Cond.selects (m_y mX8_put).cls (m_y mX8_put) (m_y mX8_put) ∈ tb := (in_tb 960 (by decide +kernel) (by decide +kernel))
def mX8_rapid : MT := (yX8_rapid, cX8_rapid, 5, some .int, 2, 44)
theorem mo_X8_rapid : mOk mX8_rapid 3 := ⟨(in_tb 752 (by decide +kernel) (by decide +kernel)), (in_tb 55 (by decide +kernel) (by decide +kernel)), by decide +kernel, by decide +kernel⟩
theorem im_X8_rapid : Cond.instanceMethod (m_y mX8_rapid) ∈ tb := (in_tb 750 (by decide +kernel) (by decide +kernel))
theorem se_X8_rapid : Cond.selects (m_y mX8_rapid).cls (m_y mX8_rapid) (m_y mX8_rapid) ∈ tb := (in_tb 751 (by decide +kernel) (by decide +kernel))
def mX8_runs : MT := (yX8_runs, cX8_runs, 4, some .int, 2, 49)
theorem mo_X8_runs : mOk mX8_runs 3 := ⟨(in_tb 783 (by decide +kernel) (by decide +kernel)), (in_tb 55 (by decide +kernel) (by decide +kernel)), by decide +kernel, by decide +kernel⟩
theorem im_X8_runs : Cond.instanceMethod (m_y mX8_runs) ∈ tb := (in_tb 781 (by decide +kernel) (by decide +kernel))
theorem se_X8_runs : Cond.selects (m_y mX8_runs).cls (m_y mX8_runs) (m_y mX8_runs) ∈ tb := (in_tb 782 (by decide +kernel) (by decide +kernel))
def mX8_sheet : MT := (yX8_sheet, cX8_sheet, 5, some .int, 2, 42)
theorem mo_X8_sheet : mOk mX8_sheet 3 := ⟨(in_tb 954 (by decide +kernel) (by decide +kernel)), (in_tb 55 (by decide +kernel) (by decide +kernel)), by decide +kernel, by decide +kernel⟩
theorem im_X8_sheet : Cond.instanceMethod (m_y mX8_sheet) ∈ tb := (in_tb 952 (by decide +kernel) (by decide +kernel))
theorem se_X8_sheet : Cond.selects (m_y mX8_sheet).cls (m_y mX8_sheet) (m_y mX8_sheet) ∈ tb := (in_tb 953 (by decide +kernel) (by decide +kernel))
def mX8_speed : MT := (yX8_speed, cX8_speed, 2, some .int, 2, 44)
theorem mo_X8_speed : mOk mX8_speed 1 := ⟨(in_tb 764 (by decide +kernel) (by decide +kernel)), (in_tb 55 (by decide +kernel) (by decide +kernel)), by decide +kernel, by decide +kernel⟩
theorem im_X8_speed : Cond.instanceMethod (m_y mX8_speed) ∈ tb := (in_tb 762 (by decide +kernel) (by decide +kernel))
theorem se_X8_speed : Cond.selects (m_y mX8_speed).cls (m_y mX8_speed) (m_y mX8_speed) ∈ tb := (in_tb 763 (by decide +kernel) (by decide +kernel))
def mX8_take : MT := (yX8_take, cX8_take, 3, some .int, 7, 185)
theorem mo_X8_take : mOk mX8_take 1 := ⟨(in_tb 889 (by decide +kernel) (by decide +kernel)), (in_tb 55 (by decide +kernel) (by decide +kernel)), by decide +kernel, by decide +kernel⟩
theorem im_X8_take : Cond.instanceMethod (m_y mX8_take) ∈ tb := (in_tb 887 (by decide +kernel) (by decide +kernel))
theorem se_X8_take : Cond.selects (m_y mX8_take).cls (m_y mX8_take) (m_y mX8_take) ∈ tb := (in_tb 888 (by decide +kernel) (by decide +kernel))
def mX8_tell : MT := (yX8_tell, cX8_tell, 8, some .int, 5, 131)
theorem mo_X8_tell : mOk mX8_tell 1 := ⟨(in_tb 853 (by decide +kernel) (by decide +kernel)), (in_tb 55 (by decide +kernel) (by decide +kernel)), by decide +kernel, by decide +kernel⟩
theorem im_X8_tell : Cond.instanceMethod (m_y mX8_tell) ∈ tb := (in_tb 852 (by decide +kernel) (by decide +kernel))
theorem se_X8_tell : Cond.selects (m_y mX8_tell).cls (m_y mX8_tell) (m_y mX8_tell) ∈ tb := (in_tb 30 (by decide +kernel) (by decide +kernel))
def mX8_told : MT := (yX8_told, cX8_told, 3, some .int, 0, 0)
theorem mo_X8_told : mOk mX8_told 2 := ⟨(in_tb 811 (by decide +kernel) (by decide +kernel)), (in_tb 55 (by decide +kernel) (by decide +kernel)), by decide +kernel, by decide +kernel⟩
theorem im_X8_told : Cond.instanceMethod (m_y mX8_told) ∈ tb := (in_tb 810 (by decide +kernel) (by decide +kernel))
theorem se_X8_told : Cond.selects (m_y mX8_told).cls (m_y mX8_told) (m_y mX8_told) ∈ tb := (in_tb 26 (by decide +kernel) (by decide +kernel))
def mX8_trip : MT := (yX8_trip, cX8_trip, 7, some .int, 2, 44)
theorem mo_X8_trip : mOk mX8_trip 5 := ⟨(in_tb 795 (by decide +kernel) (by decide +kernel)), (in_tb 55 (by decide +kernel) (by decide +kernel)), by decide +kernel, by decide +kernel⟩
theorem im_X8_trip : Cond.instanceMethod (m_y mX8_trip) ∈ tb := (in_tb 793 (by decide +kernel) (by decide +kernel))
theorem se_X8_trip : Cond.selects (m_y mX8_trip).cls (m_y mX8_trip) (m_y mX8_trip) ∈ tb := (in_tb 794 (by decide +kernel) (by decide +kernel))
def mX8_turn : MT := (yX8_turn, cX8_turn, 4, some .int, 2, 48)
theorem mo_X8_turn : mOk mX8_turn 2 := ⟨(in_tb 950 (by decide +kernel) (by decide +kernel)), (in_tb 55 (by decide +kernel) (by decide +kernel)), by decide +kernel, by decide +kernel⟩
theorem im_X8_turn : Cond.instanceMethod (m_y mX8_turn) ∈ tb := (in_tb 948 (by decide +kernel) (by decide +kernel))
theorem se_X8_turn : Cond.selects (m_y mX8_turn).cls (m_y mX8_turn) (m_y mX8_turn) ∈ tb := (in_tb 949 (by decide +kernel) (by decide +kernel))
def mX8_undo : MT := (yX8_undo, cX8_undo, 2, some .int, 1, 21)
theorem mo_X8_undo : mOk mX8_undo 0 := ⟨(in_tb 722 (by decide +kernel) (by decide +kernel)), (in_tb 55 (by decide +kernel) (by decide +kernel)), by decide +kernel, by decide +kernel⟩
theorem im_X8_undo : Cond.instanceMethod (m_y mX8_undo) ∈ tb := (in_tb 720 (by decide +kernel) (by decide +kernel))
theorem se_X8_undo : Cond.selects (m_y mX8_undo).cls (m_y mX8_undo) (m_y mX8_undo) ∈ tb := (in_tb 721 (by decide +kernel) (by decide +kernel))
def mX8_water : MT := (yX8_water, cX8_water, 4, some .int, 2, 44)
theorem mo_X8_water : mOk mX8_water 3 := ⟨(in_tb 768 (by decide +kernel) (by decide +kernel)), (in_tb 55 (by decide +kernel) (by decide +kernel)), by decide +kernel, by decide +kernel⟩
theorem im_X8_water : Cond.instanceMethod (m_y mX8_water) ∈ tb := (in_tb 766 (by decide +kernel) (by decide +kernel))
theorem se_X8_water : Cond.selects (m_y mX8_water).cls (m_y mX8_water) (m_y mX8_water) ∈ tb := (in_tb 767 (by decide +kernel) (by decide +kernel))
def mX8_waterAt : MT := (yX8_waterAt, cX8_waterAt, 4, some .int, 2, 42)
theorem mo_X8_waterAt : mOk mX8_waterAt 3 := ⟨(in_tb 775 (by decide +kernel) (by decide +kernel)), (in_tb 55 (by decide +kernel) (by decide +kernel)), by decide +kernel, by decide +kernel⟩
theorem im_X8_waterAt : Cond.instanceMethod (m_y mX8_waterAt) ∈ tb := (in_tb 773 (by decide +kernel) (by decide +kernel))
theorem se_X8_waterAt : Cond.selects (m_y mX8_waterAt).cls (m_y mX8_waterAt) (m_y mX8_waterAt) ∈ tb := (in_tb 774 (by decide +kernel) (by decide +kernel))
def mX8_waterOf : MT := (yX8_waterOf, cX8_waterOf, 5, some .int, 0, 0)
theorem mo_X8_waterOf : mOk mX8_waterOf 3 := ⟨(in_tb 779 (by decide +kernel) (by decide +kernel)), (in_tb 55 (by decide +kernel) (by decide +kernel)), by decide +kernel, by decide +kernel⟩
theorem im_X8_waterOf : Cond.instanceMethod (m_y mX8_waterOf) ∈ tb := (in_tb 778 (by decide +kernel) (by decide +kernel))
theorem se_X8_waterOf : Cond.selects (m_y mX8_waterOf).cls (m_y mX8_waterOf) (m_y mX8_waterOf) ∈ tb := (in_tb 21 (by decide +kernel) (by decide +kernel))
def mX8_weigh : MT := (yX8_weigh, cX8_weigh, 3, some .int, 2, 44)
theorem mo_X8_weigh : mOk mX8_weigh 2 := ⟨(in_tb 925 (by decide +kernel) (by decide +kernel)), (in_tb 55 (by decide +kernel) (by decide +kernel)), by decide +kernel, by decide +kernel⟩
theorem im_X8_weigh : Cond.instanceMethod (m_y mX8_weigh) ∈ tb := (in_tb 923 (by decide +kernel) (by decide +kernel))
theorem se_X8_weigh : Cond.selects (m_y mX8_weigh).cls (m_y mX8_weigh) (m_y mX8_weigh) ∈ tb := (in_tb 924 (by decide +kernel) (by decide +kernel))
def mX8_weights : MT := (yX8_weights, cX8_weights, 3, some .int, 0, 0)
theorem mo_X8_weights : mOk mX8_weights 0 := ⟨(in_tb 937 (by decide +kernel) (by decide +kernel)), (in_tb 55 (by decide +kernel) (by decide +kernel)), by decide +kernel, by decide +kernel⟩
theorem im_X8_weights : Cond.instanceMethod (m_y mX8_weights) ∈ tb := (in_tb 936 (by decide +kernel) (by decide +kernel))
theorem se_X8_weights : Cond.selects (m_y mX8_weights).cls (m_y mX8_weights) (m_y mX8_weights) ∈ tb := (in_tb 42 (by decide +kernel) (by decide +kernel))
def mX8_who : MT := (yX8_who, cX8_who, 4, some .int, 2, 42)
theorem mo_X8_who : mOk mX8_who 2 := ⟨(in_tb 845 (by decide +kernel) (by decide +kernel)), (in_tb 55 (by decide +kernel) (by decide +kernel)), by decide +kernel, by decide +kernel⟩
theorem im_X8_who : Cond.instanceMethod (m_y mX8_who) ∈ tb := (in_tb 843 (by decide +kernel) (by decide +kernel))
theorem se_X8_who : Cond.selects (m_y mX8_who).cls (m_y mX8_who) (m_y mX8_who) ∈ tb := (in_tb 844 (by decide +kernel) (by decide +kernel))
theorem lk_L_9 : lkD RL 9 mX7_init := (in_tb 60 (by decide +kernel) (by decide +kernel))
theorem lo_7_1 : Cond.methodLink RX7 1 Lib.objectInit ∈ tb := (in_tb 63 (by decide +kernel) (by decide +kernel))
theorem lk_7_9 : lkD RX7 9 mX4_init := (in_tb 68 (by decide +kernel) (by decide +kernel))
theorem lo_4_5 : Cond.methodLink RX4 5 Lib.objectInit ∈ tb := (in_tb 71 (by decide +kernel) (by decide +kernel))
theorem lk_4_40 : lkD RX4 40 mJ_fill := (in_tb 72 (by decide +kernel) (by decide +kernel))
theorem lk_7_18 : lkN RX7 18 mX6_init := by show (RX7, 18, m_y mX6_init, RX7) ∈ nwL; decide +kernel
theorem lo_6_5 : Cond.methodLink RX6 5 Lib.objectInit ∈ tb := (in_tb 119 (by decide +kernel) (by decide +kernel))
theorem lk_7_25 : lkN RX7 25 mX3_init := by show (RX7, 25, m_y mX3_init, RX7) ∈ nwL; decide +kernel
theorem lo_3_7 : Cond.methodLink RX3 7 Lib.objectInit ∈ tb := (in_tb 137 (by decide +kernel) (by decide +kernel))
theorem lk_7_32 : lkN RX7 32 mX0_init := by show (RX7, 32, m_y mX0_init, RX7) ∈ nwL; decide +kernel
theorem lo_0_1 : Cond.methodLink RX0 1 Lib.objectInit ∈ tb := (in_tb 161 (by decide +kernel) (by decide +kernel))
theorem lk_7_39 : lkD RX7 39 mX1_init := (in_tb 177 (by decide +kernel) (by decide +kernel))
theorem lo_1_1 : Cond.methodLink RX1 1 Lib.objectInit ∈ tb := (in_tb 180 (by decide +kernel) (by decide +kernel))
theorem lk_1_22 : lkN RX1 22 mX2_init := by show (RX1, 22, m_y mX2_init, RX7) ∈ nwL; decide +kernel
theorem lo_2_1 : Cond.methodLink RX2 1 Lib.objectInit ∈ tb := (in_tb 187 (by decide +kernel) (by decide +kernel))
theorem lk_7_54 : lkN RX7 54 mX5_init := by show (RX7, 54, m_y mX5_init, RX7) ∈ nwL; decide +kernel
theorem lo_5_1 : Cond.methodLink RX5 1 Lib.objectInit ∈ tb := (in_tb 218 (by decide +kernel) (by decide +kernel))
theorem lk_L_13 : lkD RL 13 mX7_end := (in_tb 254 (by decide +kernel) (by decide +kernel))
theorem lk_7_55 : lkD RX7 55 mX7_within := (in_tb 258 (by decide +kernel) (by decide +kernel))
theorem lk_7_60 : lkD RX7 60 mX7_finding := (in_tb 262 (by decide +kernel) (by decide +kernel))
theorem lk_7_68 : lkD RX7 68 mX7_change := (in_tb 266 (by decide +kernel) (by decide +kernel))
theorem lk_7_260 : lkD RX7 260 mX1_keep := (in_tb 270 (by decide +kernel) (by decide +kernel))
theorem lk_1_23 : lkD RX1 23 mX2_keep := (in_tb 274 (by decide +kernel) (by decide +kernel))
theorem la_2_25 : Cond.methodLink RX2 25 arraycopyName ∈ tb := (in_tb 278 (by decide +kernel) (by decide +kernel))
theorem lm_1_27 : Cond.methodLink RX1 27 Lib.Math.min.name ∈ tb := (in_tb 281 (by decide +kernel) (by decide +kernel))
theorem lk_L_18 : lkD RL 18 mX7_camp := (in_tb 284 (by decide +kernel) (by decide +kernel))
theorem lk_L_23 : lkD RL 23 mX7_rapid := (in_tb 289 (by decide +kernel) (by decide +kernel))
theorem lk_7_83 : lkD RX7 83 mX7_isWater := (in_tb 293 (by decide +kernel) (by decide +kernel))
theorem lk_L_28 : lkD RL 28 mX7_landing := (in_tb 297 (by decide +kernel) (by decide +kernel))
theorem lk_7_97 : lkD RX7 97 mX7_isMile := (in_tb 301 (by decide +kernel) (by decide +kernel))
theorem lk_L_32 : lkD RL 32 mX7_speed := (in_tb 304 (by decide +kernel) (by decide +kernel))
theorem lk_L_36 : lkD RL 36 mX7_water := (in_tb 308 (by decide +kernel) (by decide +kernel))
theorem lk_7_103 : lkD RX7 103 mX7_isDay := (in_tb 312 (by decide +kernel) (by decide +kernel))
theorem lk_L_40 : lkD RL 40 mX7_waterAt := (in_tb 315 (by decide +kernel) (by decide +kernel))
theorem lk_7_109 : lkD RX7 109 mX4_arriving := (in_tb 319 (by decide +kernel) (by decide +kernel))
theorem lm_4_46 : Cond.methodLink RX4 46 Lib.Math.max.name ∈ tb := (in_tb 323 (by decide +kernel) (by decide +kernel))
theorem lk_L_44 : lkD RL 44 mX7_runs := (in_tb 326 (by decide +kernel) (by decide +kernel))
theorem lk_7_113 : lkD RX7 113 mX7_isKind := (in_tb 330 (by decide +kernel) (by decide +kernel))
theorem lk_7_116 : lkD RX7 116 mX4_firstHour := (in_tb 333 (by decide +kernel) (by decide +kernel))
theorem lk_4_52 : lkD RX4 52 mX4_arriving := (in_tb 337 (by decide +kernel) (by decide +kernel))
theorem lk_4_56 : lkN RX4 56 mX7_within := by show (RX4, 56, m_y mX7_within, RX7) ∈ nwL; decide +kernel
theorem lk_L_48 : lkD RL 48 mX7_trip := (in_tb 339 (by decide +kernel) (by decide +kernel))
theorem lk_7_119 : lkD RX7 119 mX6_size := (in_tb 343 (by decide +kernel) (by decide +kernel))
theorem lk_7_123 : lkD RX7 123 mX6_write := (in_tb 347 (by decide +kernel) (by decide +kernel))
theorem lk_6_21 : lkD RX6 21 mX6_index := (in_tb 351 (by decide +kernel) (by decide +kernel))
theorem lk_7_127 : lkD RX7 127 mX6_clearNights := (in_tb 355 (by decide +kernel) (by decide +kernel))
theorem lk_6_25 : lkD RX6 25 mX6_write := (in_tb 359 (by decide +kernel) (by decide +kernel))
theorem lk_L_53 : lkD RL 53 mX7_as := (in_tb 360 (by decide +kernel) (by decide +kernel))
theorem lk_7_134 : lkD RX7 134 mX7_isTrip := (in_tb 364 (by decide +kernel) (by decide +kernel))
theorem lk_7_137 : lkD RX7 137 mX6_read := (in_tb 368 (by decide +kernel) (by decide +kernel))
theorem lk_L_58 : lkD RL 58 mX7_of := (in_tb 375 (by decide +kernel) (by decide +kernel))
theorem lk_7_145 : lkD RX7 145 mX6_nightsOf := (in_tb 379 (by decide +kernel) (by decide +kernel))
theorem lk_6_29 : lkD RX6 29 mX6_read := (in_tb 383 (by decide +kernel) (by decide +kernel))
theorem lk_L_62 : lkD RL 62 mX7_launch := (in_tb 384 (by decide +kernel) (by decide +kernel))
theorem lk_7_148 : lkD RX7 148 mX7_keepTrips := (in_tb 388 (by decide +kernel) (by decide +kernel))
theorem lk_7_162 : lkD RX7 162 mX6_index := (in_tb 392 (by decide +kernel) (by decide +kernel))
theorem lk_L_66 : lkD RL 66 mX7_night := (in_tb 393 (by decide +kernel) (by decide +kernel))
theorem lk_7_152 : lkD RX7 152 mX7_isCamp := (in_tb 397 (by decide +kernel) (by decide +kernel))
theorem lk_7_155 : lkD RX7 155 mX6_guest := (in_tb 401 (by decide +kernel) (by decide +kernel))
theorem lk_6_32 : lkD RX6 32 mX6_size := (in_tb 405 (by decide +kernel) (by decide +kernel))
theorem lk_L_70 : lkD RL 70 mX7_at := (in_tb 407 (by decide +kernel) (by decide +kernel))
theorem lk_L_74 : lkD RL 74 mX7_who := (in_tb 412 (by decide +kernel) (by decide +kernel))
theorem lk_L_78 : lkD RL 78 mX7_plan := (in_tb 416 (by decide +kernel) (by decide +kernel))
theorem lk_7_166 : lkD RX7 166 mX3_search := (in_tb 420 (by decide +kernel) (by decide +kernel))
theorem lk_3_32 : lkD RX3 32 mX6_read := (in_tb 424 (by decide +kernel) (by decide +kernel))
theorem lm_3_36 : Cond.methodLink RX3 36 Lib.Math.min.name ∈ tb := (in_tb 425 (by decide +kernel) (by decide +kernel))
theorem lk_3_41 : lkD RX3 41 mX4_campsFor := (in_tb 426 (by decide +kernel) (by decide +kernel))
theorem lk_3_45 : lkD RX3 45 mX3_startAhead := (in_tb 430 (by decide +kernel) (by decide +kernel))
theorem lk_3_98 : lkD RX3 98 mJ_fill := (in_tb 434 (by decide +kernel) (by decide +kernel))
theorem lk_3_48 : lkD RX3 48 mX3_placesAhead := (in_tb 435 (by decide +kernel) (by decide +kernel))
theorem lk_3_51 : lkD RX3 51 mX4_closedRapids := (in_tb 439 (by decide +kernel) (by decide +kernel))
theorem lk_4_60 : lkD RX4 60 mX4_firstHour := (in_tb 443 (by decide +kernel) (by decide +kernel))
theorem lk_3_54 : lkD RX3 54 mX3_findEnders := (in_tb 444 (by decide +kernel) (by decide +kernel))
theorem lk_3_86 : lkN RX3 86 mX7_holds := by show (RX3, 86, m_y mX7_holds, RX7) ∈ nwL; decide +kernel
theorem lk_3_104 : lkD RX3 104 mX4_leadsToEnd := (in_tb 451 (by decide +kernel) (by decide +kernel))
theorem lk_4_70 : lkD RX4 70 mX4_mileOf := (in_tb 455 (by decide +kernel) (by decide +kernel))
theorem lk_4_74 : lkD RX4 74 mX4_nextClosed := (in_tb 459 (by decide +kernel) (by decide +kernel))
theorem lk_4_63 : lkN RX4 63 mX7_holds := by show (RX4, 63, m_y mX7_holds, RX7) ∈ nwL; decide +kernel
theorem lm_4_67 : Cond.methodLink RX4 67 Lib.Math.min.name ∈ tb := (in_tb 464 (by decide +kernel) (by decide +kernel))
theorem lk_3_58 : lkD RX3 58 mX6_takenFrom := (in_tb 465 (by decide +kernel) (by decide +kernel))
theorem lk_3_61 : lkD RX3 61 mX3_findLeads := (in_tb 469 (by decide +kernel) (by decide +kernel))
theorem lk_3_108 : lkD RX3 108 mX4_campsAhead := (in_tb 473 (by decide +kernel) (by decide +kernel))
theorem lk_3_65 : lkD RX3 65 mX3_spread := (in_tb 477 (by decide +kernel) (by decide +kernel))
theorem lk_3_69 : lkD RX3 69 mX3_dropDeadEnds := (in_tb 481 (by decide +kernel) (by decide +kernel))
theorem lk_3_112 : lkD RX3 112 mX3_goesOn := (in_tb 485 (by decide +kernel) (by decide +kernel))
theorem lk_3_115 : lkD RX3 115 mX3_goers := (in_tb 489 (by decide +kernel) (by decide +kernel))
theorem lk_3_118 : lkD RX3 118 mX3_mayStay := (in_tb 493 (by decide +kernel) (by decide +kernel))
theorem lk_3_72 : lkD RX3 72 mX3_chooseCamps := (in_tb 497 (by decide +kernel) (by decide +kernel))
theorem lk_3_121 : lkD RX3 121 mX3_lowest := (in_tb 501 (by decide +kernel) (by decide +kernel))
theorem lk_L_82 : lkD RL 82 mX7_planned := (in_tb 504 (by decide +kernel) (by decide +kernel))
theorem lk_L_86 : lkD RL 86 mX7_take := (in_tb 508 (by decide +kernel) (by decide +kernel))
theorem lk_7_176 : lkD RX7 176 mX3_writeNights := (in_tb 512 (by decide +kernel) (by decide +kernel))
theorem lk_3_75 : lkD RX3 75 mX6_clearNights := (in_tb 516 (by decide +kernel) (by decide +kernel))
theorem lk_3_79 : lkD RX3 79 mX6_write := (in_tb 517 (by decide +kernel) (by decide +kernel))
theorem lk_L_90 : lkD RL 90 mX7_calendar := (in_tb 518 (by decide +kernel) (by decide +kernel))
theorem lk_7_180 : lkD RX7 180 mX7_isSet := (in_tb 522 (by decide +kernel) (by decide +kernel))
theorem lk_7_183 : lkD RX7 183 mX6_saveRows := (in_tb 526 (by decide +kernel) (by decide +kernel))
theorem la_6_36 : Cond.methodLink RX6 36 arraycopyName ∈ tb := (in_tb 530 (by decide +kernel) (by decide +kernel))
theorem lk_7_186 : lkD RX7 186 mX3_schedule := (in_tb 531 (by decide +kernel) (by decide +kernel))
theorem lk_3_82 : lkD RX3 82 mX6_size := (in_tb 535 (by decide +kernel) (by decide +kernel))
theorem lk_3_90 : lkD RX3 90 mX3_search := (in_tb 536 (by decide +kernel) (by decide +kernel))
theorem lk_3_94 : lkD RX3 94 mX3_writeNights := (in_tb 537 (by decide +kernel) (by decide +kernel))
theorem lk_7_190 : lkD RX7 190 mX6_bringRowsBack := (in_tb 538 (by decide +kernel) (by decide +kernel))
theorem lk_L_94 : lkD RL 94 mX7_fill := (in_tb 542 (by decide +kernel) (by decide +kernel))
theorem lk_L_98 : lkD RL 98 mX7_near := (in_tb 546 (by decide +kernel) (by decide +kernel))
theorem lm_7_193 : Cond.methodLink RX7 193 Lib.Math.abs.name ∈ tb := (in_tb 550 (by decide +kernel) (by decide +kernel))
theorem lk_L_102 : lkD RL 102 mX7_hurt := (in_tb 553 (by decide +kernel) (by decide +kernel))
theorem lk_7_198 : lkD RX7 198 mX4_minutesOut := (in_tb 557 (by decide +kernel) (by decide +kernel))
theorem lk_L_106 : lkD RL 106 mX7_applicant := (in_tb 561 (by decide +kernel) (by decide +kernel))
theorem lk_7_202 : lkD RX7 202 mX0_size := (in_tb 565 (by decide +kernel) (by decide +kernel))
theorem lk_L_110 : lkD RL 110 mX7_weigh := (in_tb 569 (by decide +kernel) (by decide +kernel))
theorem lk_7_207 : lkD RX7 207 mX7_isApplicant := (in_tb 573 (by decide +kernel) (by decide +kernel))
theorem lk_L_114 : lkD RL 114 mX7_chance := (in_tb 577 (by decide +kernel) (by decide +kernel))
theorem lk_7_210 : lkD RX7 210 mX0_everybody := (in_tb 581 (by decide +kernel) (by decide +kernel))
theorem lk_0_19 : lkD RX0 19 mX0_size := (in_tb 585 (by decide +kernel) (by decide +kernel))
theorem lk_7_213 : lkD RX7 213 mX0_together := (in_tb 586 (by decide +kernel) (by decide +kernel))
theorem lk_0_23 : lkN RX0 23 mX7_holds := by show (RX0, 23, m_y mX7_holds, RX7) ∈ nwL; decide +kernel
theorem lk_7_216 : lkD RX7 216 mX7_greatestDivisor := (in_tb 591 (by decide +kernel) (by decide +kernel))
theorem lk_L_118 : lkD RL 118 mX7_drawn := (in_tb 594 (by decide +kernel) (by decide +kernel))
theorem lk_7_219 : lkD RX7 219 mX0_draw := (in_tb 598 (by decide +kernel) (by decide +kernel))
theorem lk_0_29 : lkD RX0 29 mX0_everybody := (in_tb 602 (by decide +kernel) (by decide +kernel))
theorem lk_0_33 : lkD RX0 33 mX0_together := (in_tb 604 (by decide +kernel) (by decide +kernel))
theorem lm_0_37 : Cond.methodLink RX0 37 Lib.Math.max.name ∈ tb := (in_tb 605 (by decide +kernel) (by decide +kernel))
theorem lk_0_43 : lkD RX0 43 mX0_owner := (in_tb 606 (by decide +kernel) (by decide +kernel))
theorem lk_L_122 : lkD RL 122 mX7_turn := (in_tb 610 (by decide +kernel) (by decide +kernel))
theorem lk_7_225 : lkD RX7 225 mX0_placeOf := (in_tb 614 (by decide +kernel) (by decide +kernel))
theorem lk_L_126 : lkD RL 126 mX7_sheet := (in_tb 618 (by decide +kernel) (by decide +kernel))
theorem lk_7_228 : lkD RX7 228 mX7_isSheet := (in_tb 622 (by decide +kernel) (by decide +kernel))
theorem lk_7_231 : lkD RX7 231 mX5_renew := (in_tb 625 (by decide +kernel) (by decide +kernel))
theorem lk_5_20 : lkD RX5 20 mX5_isMissing := (in_tb 629 (by decide +kernel) (by decide +kernel))
theorem lk_5_24 : lkD RX5 24 mJ_fill := (in_tb 633 (by decide +kernel) (by decide +kernel))
theorem lk_L_130 : lkD RL 130 mX7_put := (in_tb 634 (by decide +kernel) (by decide +kernel))
theorem lk_7_234 : lkD RX7 234 mX5_isMissing := (in_tb 638 (by decide +kernel) (by decide +kernel))
theorem lk_7_244 : lkD RX7 244 mX5_lowest := (in_tb 640 (by decide +kernel) (by decide +kernel))
theorem lk_L_134 : lkD RL 134 mX7_copy := (in_tb 644 (by decide +kernel) (by decide +kernel))
theorem lk_7_250 : lkD RX7 250 mX5_has := (in_tb 648 (by decide +kernel) (by decide +kernel))
theorem la_7_254 : Cond.methodLink RX7 254 arraycopyName ∈ tb := (in_tb 652 (by decide +kernel) (by decide +kernel))
theorem lk_L_138 : lkD RL 138 mX7_let := (in_tb 653 (by decide +kernel) (by decide +kernel))
theorem lk_L_142 : lkD RL 142 mX7_undo := (in_tb 657 (by decide +kernel) (by decide +kernel))
theorem lk_7_264 : lkD RX7 264 mX1_bringBack := (in_tb 661 (by decide +kernel) (by decide +kernel))
theorem lk_1_33 : lkD RX1 33 mX2_bringBack := (in_tb 665 (by decide +kernel) (by decide +kernel))
theorem lk_L_147 : lkD RL 147 mX7_all := (in_tb 669 (by decide +kernel) (by decide +kernel))
theorem lk_L_12 : lkD RL 12 mX8_init := (in_tb 675 (by decide +kernel) (by decide +kernel))
theorem lo_8_1 : Cond.methodLink RX8 1 Lib.objectInit ∈ tb := (in_tb 678 (by decide +kernel) (by decide +kernel))
theorem lk_L_146 : lkD RL 146 mX8_undo := (in_tb 719 (by decide +kernel) (by decide +kernel))
theorem lk_8_56 : lkD RX8 56 mX8_finding := (in_tb 724 (by decide +kernel) (by decide +kernel))
theorem lk_L_17 : lkD RL 17 mX8_end := (in_tb 728 (by decide +kernel) (by decide +kernel))
theorem lk_8_48 : lkD RX8 48 mX8_isIn := (in_tb 732 (by decide +kernel) (by decide +kernel))
theorem lk_8_63 : lkD RX8 63 mX8_becomes := (in_tb 735 (by decide +kernel) (by decide +kernel))
theorem lk_8_60 : lkD RX8 60 mX8_keep := (in_tb 739 (by decide +kernel) (by decide +kernel))
theorem lk_L_22 : lkD RL 22 mX8_camp := (in_tb 744 (by decide +kernel) (by decide +kernel))
theorem lk_L_27 : lkD RL 27 mX8_rapid := (in_tb 749 (by decide +kernel) (by decide +kernel))
theorem lk_8_69 : lkD RX8 69 mX8_isWater := (in_tb 753 (by decide +kernel) (by decide +kernel))
theorem lk_L_31 : lkD RL 31 mX8_landing := (in_tb 757 (by decide +kernel) (by decide +kernel))
theorem lk_L_35 : lkD RL 35 mX8_speed := (in_tb 761 (by decide +kernel) (by decide +kernel))
theorem lk_L_39 : lkD RL 39 mX8_water := (in_tb 765 (by decide +kernel) (by decide +kernel))
theorem lk_8_74 : lkD RX8 74 mX8_isDay := (in_tb 769 (by decide +kernel) (by decide +kernel))
theorem lk_L_43 : lkD RL 43 mX8_waterAt := (in_tb 772 (by decide +kernel) (by decide +kernel))
theorem lk_8_77 : lkD RX8 77 mX8_waterOf := (in_tb 776 (by decide +kernel) (by decide +kernel))
theorem lk_L_47 : lkD RL 47 mX8_runs := (in_tb 780 (by decide +kernel) (by decide +kernel))
theorem lk_8_81 : lkD RX8 81 mX8_isRapid := (in_tb 784 (by decide +kernel) (by decide +kernel))
theorem lk_8_84 : lkD RX8 84 mX8_hourOf := (in_tb 788 (by decide +kernel) (by decide +kernel))
theorem lk_L_52 : lkD RL 52 mX8_trip := (in_tb 792 (by decide +kernel) (by decide +kernel))
theorem lk_8_87 : lkD RX8 87 mX8_noNights := (in_tb 796 (by decide +kernel) (by decide +kernel))
theorem lk_L_57 : lkD RL 57 mX8_as := (in_tb 800 (by decide +kernel) (by decide +kernel))
theorem lk_8_91 : lkD RX8 91 mX8_isTrip := (in_tb 804 (by decide +kernel) (by decide +kernel))
theorem lk_8_94 : lkD RX8 94 mX8_told := (in_tb 808 (by decide +kernel) (by decide +kernel))
theorem lk_L_61 : lkD RL 61 mX8_of := (in_tb 813 (by decide +kernel) (by decide +kernel))
theorem lk_L_65 : lkD RL 65 mX8_launch := (in_tb 817 (by decide +kernel) (by decide +kernel))
theorem lk_L_69 : lkD RL 69 mX8_night := (in_tb 821 (by decide +kernel) (by decide +kernel))
theorem lk_8_98 : lkD RX8 98 mX8_isCamp := (in_tb 825 (by decide +kernel) (by decide +kernel))
theorem lk_8_101 : lkD RX8 101 mX8_other := (in_tb 829 (by decide +kernel) (by decide +kernel))
theorem lk_8_105 : lkD RX8 105 mX8_mayCamp := (in_tb 834 (by decide +kernel) (by decide +kernel))
theorem lk_L_73 : lkD RL 73 mX8_at := (in_tb 838 (by decide +kernel) (by decide +kernel))
theorem lk_L_77 : lkD RL 77 mX8_who := (in_tb 842 (by decide +kernel) (by decide +kernel))
theorem lk_L_81 : lkD RL 81 mX8_plan := (in_tb 846 (by decide +kernel) (by decide +kernel))
theorem lk_8_129 : lkD RX8 129 mX8_tell := (in_tb 850 (by decide +kernel) (by decide +kernel))
theorem lk_8_116 : lkD RX8 116 mX8_leftFrom := (in_tb 854 (by decide +kernel) (by decide +kernel))
theorem lk_8_123 : lkD RX8 123 mX8_canEnd := (in_tb 858 (by decide +kernel) (by decide +kernel))
theorem lk_8_109 : lkD RX8 109 mX8_mileOf := (in_tb 862 (by decide +kernel) (by decide +kernel))
theorem lk_8_112 : lkD RX8 112 mX8_isOpen := (in_tb 866 (by decide +kernel) (by decide +kernel))
theorem lk_8_120 : lkD RX8 120 mX8_leftAt := (in_tb 870 (by decide +kernel) (by decide +kernel))
theorem lk_8_126 : lkD RX8 126 mX8_canGo := (in_tb 874 (by decide +kernel) (by decide +kernel))
theorem lk_L_85 : lkD RL 85 mX8_planned := (in_tb 878 (by decide +kernel) (by decide +kernel))
theorem lk_8_132 : lkD RX8 132 mX8_planOf := (in_tb 882 (by decide +kernel) (by decide +kernel))
theorem lk_L_89 : lkD RL 89 mX8_take := (in_tb 886 (by decide +kernel) (by decide +kernel))
theorem lk_8_135 : lkD RX8 135 mX8_lay := (in_tb 890 (by decide +kernel) (by decide +kernel))
theorem lk_L_93 : lkD RL 93 mX8_calendar := (in_tb 894 (by decide +kernel) (by decide +kernel))
theorem lk_8_139 : lkD RX8 139 mX8_isSet := (in_tb 898 (by decide +kernel) (by decide +kernel))
theorem lk_8_142 : lkD RX8 142 mX8_calendarOf := (in_tb 902 (by decide +kernel) (by decide +kernel))
theorem lk_L_97 : lkD RL 97 mX8_fill := (in_tb 906 (by decide +kernel) (by decide +kernel))
theorem lk_L_101 : lkD RL 101 mX8_near := (in_tb 910 (by decide +kernel) (by decide +kernel))
theorem lk_L_105 : lkD RL 105 mX8_hurt := (in_tb 914 (by decide +kernel) (by decide +kernel))
theorem lk_L_109 : lkD RL 109 mX8_applicant := (in_tb 918 (by decide +kernel) (by decide +kernel))
theorem lk_L_113 : lkD RL 113 mX8_weigh := (in_tb 922 (by decide +kernel) (by decide +kernel))
theorem lk_8_145 : lkD RX8 145 mX8_isApplicant := (in_tb 926 (by decide +kernel) (by decide +kernel))
theorem lk_L_117 : lkD RL 117 mX8_chance := (in_tb 930 (by decide +kernel) (by decide +kernel))
theorem lk_8_148 : lkD RX8 148 mX8_weights := (in_tb 934 (by decide +kernel) (by decide +kernel))
theorem lk_L_121 : lkD RL 121 mX8_drawn := (in_tb 938 (by decide +kernel) (by decide +kernel))
theorem lk_8_153 : lkD RX8 153 mX8_draw := (in_tb 942 (by decide +kernel) (by decide +kernel))
theorem lk_L_125 : lkD RL 125 mX8_turn := (in_tb 947 (by decide +kernel) (by decide +kernel))
theorem lk_L_129 : lkD RL 129 mX8_sheet := (in_tb 951 (by decide +kernel) (by decide +kernel))
theorem lk_8_156 : lkD RX8 156 mX8_isSheet := (in_tb 955 (by decide +kernel) (by decide +kernel))
theorem lk_L_133 : lkD RL 133 mX8_put := (in_tb 958 (by decide +kernel) (by decide +kernel))
theorem lk_L_137 : lkD RL 137 mX8_copy := (in_tb 963 (by decide +kernel) (by decide +kernel))
theorem lk_8_160 : lkD RX8 160 mX8_hasPart := (in_tb 967 (by decide +kernel) (by decide +kernel))
theorem lk_L_141 : lkD RL 141 mX8_let := (in_tb 971 (by decide +kernel) (by decide +kernel))
theorem lk_L_150 : lkD RL 150 mX8_all := (in_tb 975 (by decide +kernel) (by decide +kernel))
