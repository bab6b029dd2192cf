theorem wsel_X1_fillBehind : Cond.selects RX1 yX1_fillBehind yX1_fillBehind ∈ tbG := tbG_s (q := (yX1_fillBehind, 2)) (by decide +kernel)
theorem wsel_X1_findLights : Cond.selects RX1 yX1_findLights yX1_findLights ∈ tbG := tbG_s (q := (yX1_findLights, 2)) (by decide +kernel)
theorem wsel_X1_bringTogether : Cond.selects RX1 yX1_bringTogether yX1_bringTogether ∈ tbG := tbG_s (q := (yX1_bringTogether, 2)) (by decide +kernel)
theorem wsel_X1_heardOf : Cond.selects RX1 yX1_heardOf yX1_heardOf ∈ tbG := tbG_s (q := (yX1_heardOf, 2)) (by decide +kernel)
theorem wsel_X1_nextLights : Cond.selects RX1 yX1_nextLights yX1_nextLights ∈ tbG := tbG_s (q := (yX1_nextLights, 2)) (by decide +kernel)
theorem wsel_X3_canBeOneLayer : Cond.selects RX3 yX3_canBeOneLayer yX3_canBeOneLayer ∈ tbG := tbG_s (q := (yX3_canBeOneLayer, 6)) (by decide +kernel)
theorem wsel_X3_fewestFor : Cond.selects RX3 yX3_fewestFor yX3_fewestFor ∈ tbG := tbG_s (q := (yX3_fewestFor, 6)) (by decide +kernel)
theorem wsel_X3_fewestWith : Cond.selects RX3 yX3_fewestWith yX3_fewestWith ∈ tbG := tbG_s (q := (yX3_fewestWith, 6)) (by decide +kernel)
theorem wsel_X5_readClause : Cond.selects RX5 yX5_readClause yX5_readClause ∈ tbG := tbG_s (q := (yX5_readClause, 5)) (by decide +kernel)
theorem wsel_X5_readLayers : Cond.selects RX5 yX5_readLayers yX5_readLayers ∈ tbG := tbG_s (q := (yX5_readLayers, 5)) (by decide +kernel)
theorem wsel_X5_readPerson : Cond.selects RX5 yX5_readPerson yX5_readPerson ∈ tbG := tbG_s (q := (yX5_readPerson, 5)) (by decide +kernel)
theorem wsel_X5_readLights : Cond.selects RX5 yX5_readLights yX5_readLights ∈ tbG := tbG_s (q := (yX5_readLights, 5)) (by decide +kernel)
theorem wsel_X5_readNumber : Cond.selects RX5 yX5_readNumber yX5_readNumber ∈ tbG := tbG_s (q := (yX5_readNumber, 5)) (by decide +kernel)
theorem wsel_X5_readWord : Cond.selects RX5 yX5_readWord yX5_readWord ∈ tbG := tbG_s (q := (yX5_readWord, 5)) (by decide +kernel)
theorem wsel_X5_skipBlanks : Cond.selects RX5 yX5_skipBlanks yX5_skipBlanks ∈ tbG := tbG_s (q := (yX5_skipBlanks, 5)) (by decide +kernel)
theorem wsel_X5_letterHere : Cond.selects RX5 yX5_letterHere yX5_letterHere ∈ tbG := tbG_s (q := (yX5_letterHere, 5)) (by decide +kernel)
theorem wsel_X5_blame : Cond.selects RX5 yX5_blame yX5_blame ∈ tbG := tbG_s (q := (yX5_blame, 5)) (by decide +kernel)
theorem wsel_X6_greatestPart : Cond.selects RX6 yX6_greatestPart yX6_greatestPart ∈ tbG := tbG_s (q := (yX6_greatestPart, 4)) (by decide +kernel)
theorem wsel_X6_fits : Cond.selects RX6 yX6_fits yX6_fits ∈ tbG := tbG_s (q := (yX6_fits, 4)) (by decide +kernel)
theorem wsel_X6_moveOf : Cond.selects RX6 yX6_moveOf yX6_moveOf ∈ tbG := tbG_s (q := (yX6_moveOf, 4)) (by decide +kernel)
theorem wsel_X7_mostFrom : Cond.selects RX7 yX7_mostFrom yX7_mostFrom ∈ tbG := tbG_s (q := (yX7_mostFrom, 2)) (by decide +kernel)
theorem wsel_X7_mostBehind : Cond.selects RX7 yX7_mostBehind yX7_mostBehind ∈ tbG := tbG_s (q := (yX7_mostBehind, 2)) (by decide +kernel)
theorem wsel_X7_chooseKeepers : Cond.selects RX7 yX7_chooseKeepers yX7_chooseKeepers ∈ tbG := tbG_s (q := (yX7_chooseKeepers, 2)) (by decide +kernel)
theorem wsel_X7_keeperFor : Cond.selects RX7 yX7_keeperFor yX7_keeperFor ∈ tbG := tbG_s (q := (yX7_keeperFor, 2)) (by decide +kernel)
theorem wsel_X10_refusalOfDawns : Cond.selects RX10 yX10_refusalOfDawns yX10_refusalOfDawns ∈ tbG := tbG_s (q := (yX10_refusalOfDawns, 14)) (by decide +kernel)
theorem wsel_X10_tearAll : Cond.selects RX10 yX10_tearAll yX10_tearAll ∈ tbG := tbG_s (q := (yX10_tearAll, 14)) (by decide +kernel)
theorem wsel_X10_draw : Cond.selects RX10 yX10_draw yX10_draw ∈ tbG := tbG_s (q := (yX10_draw, 14)) (by decide +kernel)
theorem wsel_X10_doByDraws : Cond.selects RX10 yX10_doByDraws yX10_doByDraws ∈ tbG := tbG_s (q := (yX10_doByDraws, 14)) (by decide +kernel)
theorem wsel_X11_isPerson : Cond.selects RX11 yX11_isPerson yX11_isPerson ∈ tbG := tbG_s (q := (yX11_isPerson, 32)) (by decide +kernel)
theorem wsel_X11_isLayer : Cond.selects RX11 yX11_isLayer yX11_isLayer ∈ tbG := tbG_s (q := (yX11_isLayer, 32)) (by decide +kernel)
theorem wsel_X11_isTown : Cond.selects RX11 yX11_isTown yX11_isTown ∈ tbG := tbG_s (q := (yX11_isTown, 32)) (by decide +kernel)
theorem wsel_X11_areThere : Cond.selects RX11 yX11_areThere yX11_areThere ∈ tbG := tbG_s (q := (yX11_areThere, 32)) (by decide +kernel)
theorem wsel_X11_layersOf : Cond.selects RX11 yX11_layersOf yX11_layersOf ∈ tbG := tbG_s (q := (yX11_layersOf, 32)) (by decide +kernel)
theorem wsel_X11_isOn : Cond.selects RX11 yX11_isOn yX11_isOn ∈ tbG := tbG_s (q := (yX11_isOn, 32)) (by decide +kernel)
theorem wsel_X11_on : Cond.selects RX11 yX11_on yX11_on ∈ tbG := tbG_s (q := (yX11_on, 32)) (by decide +kernel)
theorem wsel_X11_lightOf : Cond.selects RX11 yX11_lightOf yX11_lightOf ∈ tbG := tbG_s (q := (yX11_lightOf, 32)) (by decide +kernel)
theorem wsel_X11_crowed : Cond.selects RX11 yX11_crowed yX11_crowed ∈ tbG := tbG_s (q := (yX11_crowed, 32)) (by decide +kernel)
theorem wsel_X11_hears : Cond.selects RX11 yX11_hears yX11_hears ∈ tbG := tbG_s (q := (yX11_hears, 32)) (by decide +kernel)
theorem wsel_X11_sounds : Cond.selects RX11 yX11_sounds yX11_sounds ∈ tbG := tbG_s (q := (yX11_sounds, 32)) (by decide +kernel)
theorem wsel_X11_goesOn : Cond.selects RX11 yX11_goesOn yX11_goesOn ∈ tbG := tbG_s (q := (yX11_goesOn, 32)) (by decide +kernel)
theorem wsel_X11_whoOn : Cond.selects RX11 yX11_whoOn yX11_whoOn ∈ tbG := tbG_s (q := (yX11_whoOn, 32)) (by decide +kernel)
theorem wsel_X11_anybody : Cond.selects RX11 yX11_anybody yX11_anybody ∈ tbG := tbG_s (q := (yX11_anybody, 32)) (by decide +kernel)
theorem wsel_X11_meets : Cond.selects RX11 yX11_meets yX11_meets ∈ tbG := tbG_s (q := (yX11_meets, 32)) (by decide +kernel)
theorem wsel_X11_tornOnes : Cond.selects RX11 yX11_tornOnes yX11_tornOnes ∈ tbG := tbG_s (q := (yX11_tornOnes, 32)) (by decide +kernel)
theorem wsel_X11_cover : Cond.selects RX11 yX11_cover yX11_cover ∈ tbG := tbG_s (q := (yX11_cover, 32)) (by decide +kernel)
theorem wsel_X11_fullest : Cond.selects RX11 yX11_fullest yX11_fullest ∈ tbG := tbG_s (q := (yX11_fullest, 32)) (by decide +kernel)
theorem wsel_X11_here : Cond.selects RX11 yX11_here yX11_here ∈ tbG := tbG_s (q := (yX11_here, 32)) (by decide +kernel)
theorem wsel_X11_faults : Cond.selects RX11 yX11_faults yX11_faults ∈ tbG := tbG_s (q := (yX11_faults, 32)) (by decide +kernel)
theorem wsel_X11_number : Cond.selects RX11 yX11_number yX11_number ∈ tbG := tbG_s (q := (yX11_number, 32)) (by decide +kernel)
theorem wsel_X11_ends : Cond.selects RX11 yX11_ends yX11_ends ∈ tbG := tbG_s (q := (yX11_ends, 32)) (by decide +kernel)
theorem wsel_X11_readDawns : Cond.selects RX11 yX11_readDawns yX11_readDawns ∈ tbG := tbG_s (q := (yX11_readDawns, 32)) (by decide +kernel)
theorem wsel_X11_readPerson : Cond.selects RX11 yX11_readPerson yX11_readPerson ∈ tbG := tbG_s (q := (yX11_readPerson, 32)) (by decide +kernel)
theorem wsel_X11_readClause : Cond.selects RX11 yX11_readClause yX11_readClause ∈ tbG := tbG_s (q := (yX11_readClause, 32)) (by decide +kernel)
theorem wsel_X11_readAll : Cond.selects RX11 yX11_readAll yX11_readAll ∈ tbG := tbG_s (q := (yX11_readAll, 32)) (by decide +kernel)
theorem wsel_X11_notes : Cond.selects RX11 yX11_notes yX11_notes ∈ tbG := tbG_s (q := (yX11_notes, 32)) (by decide +kernel)
theorem wsel_X11_draw : Cond.selects RX11 yX11_draw yX11_draw ∈ tbG := tbG_s (q := (yX11_draw, 32)) (by decide +kernel)
theorem wsel_X11_chances : Cond.selects RX11 yX11_chances yX11_chances ∈ tbG := tbG_s (q := (yX11_chances, 32)) (by decide +kernel)
theorem wsel_X11_asides : Cond.selects RX11 yX11_asides yX11_asides ∈ tbG := tbG_s (q := (yX11_asides, 32)) (by decide +kernel)
theorem wsel_X11_backs : Cond.selects RX11 yX11_backs yX11_backs ∈ tbG := tbG_s (q := (yX11_backs, 32)) (by decide +kernel)
theorem wsel_X11_common : Cond.selects RX11 yX11_common yX11_common ∈ tbG := tbG_s (q := (yX11_common, 32)) (by decide +kernel)
theorem wsel_X11_isAside : Cond.selects RX11 yX11_isAside yX11_isAside ∈ tbG := tbG_s (q := (yX11_isAside, 32)) (by decide +kernel)
theorem wsel_X11_crowsTogether : Cond.selects RX11 yX11_crowsTogether yX11_crowsTogether ∈ tbG := tbG_s (q := (yX11_crowsTogether, 32)) (by decide +kernel)
theorem wsel_X11_markets : Cond.selects RX11 yX11_markets yX11_markets ∈ tbG := tbG_s (q := (yX11_markets, 32)) (by decide +kernel)
theorem wsel_X11_goes : Cond.selects RX11 yX11_goes yX11_goes ∈ tbG := tbG_s (q := (yX11_goes, 32)) (by decide +kernel)
theorem wsel_X11_isSo : Cond.selects RX11 yX11_isSo yX11_isSo ∈ tbG := tbG_s (q := (yX11_isSo, 32)) (by decide +kernel)
theorem wsel_X11_watch : Cond.selects RX11 yX11_watch yX11_watch ∈ tbG := tbG_s (q := (yX11_watch, 32)) (by decide +kernel)
theorem wsel_X11_fits : Cond.selects RX11 yX11_fits yX11_fits ∈ tbG := tbG_s (q := (yX11_fits, 32)) (by decide +kernel)
theorem wsel_X11_fitsOn : Cond.selects RX11 yX11_fitsOn yX11_fitsOn ∈ tbG := tbG_s (q := (yX11_fitsOn, 32)) (by decide +kernel)
theorem wsel_X11_explained : Cond.selects RX11 yX11_explained yX11_explained ∈ tbG := tbG_s (q := (yX11_explained, 32)) (by decide +kernel)
theorem inG0 : ∀ w ∈ u_ws RX0 TX0 4, w ∈ tbG := by
  have h : (u_ws RX0 TX0 4).all (fun w => decide (w ∈ tables_1) && goodWord w) = true := by decide +kernel
  intro w hw
  have := List.all_eq_true.mp h w hw
  simp only [Bool.and_eq_true, decide_eq_true_eq] at this
  exact tbG_t this.1 this.2
theorem inG1 : ∀ w ∈ u_ws RX1 TX1 2, w ∈ tbG := by
  have h : (u_ws RX1 TX1 2).all (fun w => decide (w ∈ tables_1) && goodWord w) = true := by decide +kernel
  intro w hw
  have := List.all_eq_true.mp h w hw
  simp only [Bool.and_eq_true, decide_eq_true_eq] at this
  exact tbG_t this.1 this.2
theorem inG2 : ∀ w ∈ u_ws RX2 TX2 3, w ∈ tbG := by
  have h : (u_ws RX2 TX2 3).all (fun w => decide (w ∈ tables_1) && goodWord w) = true := by decide +kernel
  intro w hw
  have := List.all_eq_true.mp h w hw
  simp only [Bool.and_eq_true, decide_eq_true_eq] at this
  exact tbG_t this.1 this.2
theorem inG3 : ∀ w ∈ u_ws RX3 TX3 6, w ∈ tbG := by
  have h : (u_ws RX3 TX3 6).all (fun w => decide (w ∈ tables_1) && goodWord w) = true := by decide +kernel
  intro w hw
  have := List.all_eq_true.mp h w hw
  simp only [Bool.and_eq_true, decide_eq_true_eq] at this
  exact tbG_t this.1 this.2
theorem inG4 : ∀ w ∈ u_ws RX4 TX4 3, w ∈ tbG := by
  have h : (u_ws RX4 TX4 3).all (fun w => decide (w ∈ tables_1) && goodWord w) = true := by decide +kernel
  intro w hw
  have := List.all_eq_true.mp h w hw
  simp only [Bool.and_eq_true, decide_eq_true_eq] at this
  exact tbG_t this.1 this.2
theorem inG5 : ∀ w ∈ u_ws RX5 TX5 5, w ∈ tbG := by
  have h : (u_ws RX5 TX5 5).all (fun w => decide (w ∈ tables_1) && goodWord w) = true := by decide +kernel
  intro w hw
  have := List.all_eq_true.mp h w hw
  simp only [Bool.and_eq_true, decide_eq_true_eq] at this
  exact tbG_t this.1 this.2
theorem inG6 : ∀ w ∈ u_ws RX6 TX6 4, w ∈ tbG := by
  have h : (u_ws RX6 TX6 4).all (fun w => decide (w ∈ tables_1) && goodWord w) = true := by decide +kernel
  intro w hw
  have := List.all_eq_true.mp h w hw
  simp only [Bool.and_eq_true, decide_eq_true_eq] at this
  exact tbG_t this.1 this.2
theorem inG7 : ∀ w ∈ u_ws RX7 TX7 2, w ∈ tbG := by
  have h : (u_ws RX7 TX7 2).all (fun w => decide (w ∈ tables_1) && goodWord w) = true := by decide +kernel
  intro w hw
  have := List.all_eq_true.mp h w hw
  simp only [Bool.and_eq_true, decide_eq_true_eq] at this
  exact tbG_t this.1 this.2
theorem inG8 : ∀ w ∈ u_ws RX8 TX8 5, w ∈ tbG := by
  have h : (u_ws RX8 TX8 5).all (fun w => decide (w ∈ tables_1) && goodWord w) = true := by decide +kernel
  intro w hw
  have := List.all_eq_true.mp h w hw
  simp only [Bool.and_eq_true, decide_eq_true_eq] at this
  exact tbG_t this.1 this.2
theorem inG9 : ∀ w ∈ u_ws RX9 TX9 8, w ∈ tbG := by
  have h : (u_ws RX9 TX9 8).all (fun w => decide (w ∈ tables_1) && goodWord w) = true := by decide +kernel
  intro w hw
  have := List.all_eq_true.mp h w hw
  simp only [Bool.and_eq_true, decide_eq_true_eq] at this
  exact tbG_t this.1 this.2
theorem inG10 : ∀ w ∈ u_ws RX10 TX10 14, w ∈ tbG := by
  have h : (u_ws RX10 TX10 14).all (fun w => decide (w ∈ tables_1) && goodWord w) = true := by decide +kernel
  intro w hw
  have := List.all_eq_true.mp h w hw
  simp only [Bool.and_eq_true, decide_eq_true_eq] at this
  exact tbG_t this.1 this.2
theorem inG11 : ∀ w ∈ u_ws RX11 TX11 32, w ∈ tbG := by
  have h : (u_ws RX11 TX11 32).all (fun w => decide (w ∈ tables_1) && goodWord w) = true := by decide +kernel
  intro w hw
  have := List.all_eq_true.mp h w hw
  simp only [Bool.and_eq_true, decide_eq_true_eq] at this
  exact tbG_t this.1 this.2
theorem sh_0 : shp 0 = (0, 10) := by decide +kernel
theorem sh_1 : shp 1 = (0, 9) := by decide +kernel
theorem sh_2 : shp 2 = (1, 8) := by decide +kernel
theorem sh_3 : shp 3 = (1, 8) := by decide +kernel
theorem sh_4 : shp 4 = (1, 8) := by decide +kernel
theorem sh_5 : shp 5 = (1, 12) := by decide +kernel
theorem sh_6 : shp 6 = (0, 9) := by decide +kernel
theorem sh_7 : shp 7 = (1, 8) := by decide +kernel
theorem sh_8 : shp 8 = (1, 8) := by decide +kernel
theorem sh_9 : shp 9 = (1, 8) := by decide +kernel
theorem sh_10 : shp 10 = (1, 12) := by decide +kernel
theorem sh_11 : shp 11 = (0, 5) := by decide +kernel
theorem sh_12 : shp 12 = (1, 240) := by decide +kernel
theorem sh_13 : shp 13 = (0, 8) := by decide +kernel
theorem sh_14 : shp 14 = (1, 8) := by decide +kernel
theorem sh_15 : shp 15 = (1, 8) := by decide +kernel
theorem sh_16 : shp 16 = (1, 8) := by decide +kernel
theorem sh_17 : shp 17 = (0, 8) := by decide +kernel
theorem sh_18 : shp 18 = (1, 8) := by decide +kernel
theorem sh_19 : shp 19 = (1, 8) := by decide +kernel
theorem sh_20 : shp 20 = (1, 8) := by decide +kernel
theorem sh_21 : shp 21 = (0, 4) := by decide +kernel
theorem sh_22 : shp 22 = (3, 16) := by decide +kernel
theorem sh_23 : shp 23 = (0, 8) := by decide +kernel
theorem sh_24 : shp 24 = (1, 8) := by decide +kernel
theorem sh_25 : shp 25 = (1, 8) := by decide +kernel
theorem sh_26 : shp 26 = (1, 8) := by decide +kernel
theorem sh_27 : shp 27 = (0, 8) := by decide +kernel
theorem sh_28 : shp 28 = (1, 8) := by decide +kernel
theorem sh_29 : shp 29 = (1, 8) := by decide +kernel
theorem sh_30 : shp 30 = (1, 8) := by decide +kernel
theorem sh_31 : shp 31 = (0, 8) := by decide +kernel
theorem sh_32 : shp 32 = (1, 8) := by decide +kernel
theorem sh_33 : shp 33 = (1, 8) := by decide +kernel
theorem sh_34 : shp 34 = (1, 8) := by decide +kernel
theorem sh_35 : shp 35 = (0, 8) := by decide +kernel
theorem sh_36 : shp 36 = (1, 8) := by decide +kernel
theorem sh_37 : shp 37 = (1, 8) := by decide +kernel
theorem sh_38 : shp 38 = (1, 8) := by decide +kernel
theorem sh_39 : shp 39 = (0, 8) := by decide +kernel
theorem sh_40 : shp 40 = (1, 8) := by decide +kernel
theorem sh_41 : shp 41 = (1, 8) := by decide +kernel
theorem sh_42 : shp 42 = (1, 8) := by decide +kernel
theorem sh_43 : shp 43 = (0, 8) := by decide +kernel
theorem sh_44 : shp 44 = (1, 8) := by decide +kernel
theorem sh_45 : shp 45 = (1, 8) := by decide +kernel
theorem sh_46 : shp 46 = (1, 8) := by decide +kernel
theorem sh_47 : shp 47 = (0, 8) := by decide +kernel
theorem sh_48 : shp 48 = (1, 8) := by decide +kernel
theorem sh_49 : shp 49 = (1, 8) := by decide +kernel
theorem sh_50 : shp 50 = (1, 8) := by decide +kernel
theorem sh_51 : shp 51 = (0, 8) := by decide +kernel
theorem sh_52 : shp 52 = (1, 8) := by decide +kernel
theorem sh_53 : shp 53 = (1, 8) := by decide +kernel
theorem sh_54 : shp 54 = (1, 8) := by decide +kernel
theorem sh_55 : shp 55 = (0, 8) := by decide +kernel
theorem sh_56 : shp 56 = (1, 8) := by decide +kernel
theorem sh_57 : shp 57 = (1, 8) := by decide +kernel
theorem sh_58 : shp 58 = (1, 8) := by decide +kernel
theorem sh_59 : shp 59 = (0, 8) := by decide +kernel
theorem sh_60 : shp 60 = (1, 8) := by decide +kernel
theorem sh_61 : shp 61 = (1, 8) := by decide +kernel
theorem sh_62 : shp 62 = (1, 8) := by decide +kernel
theorem sh_63 : shp 63 = (0, 8) := by decide +kernel
theorem sh_64 : shp 64 = (1, 8) := by decide +kernel
theorem sh_65 : shp 65 = (1, 8) := by decide +kernel
theorem sh_66 : shp 66 = (1, 8) := by decide +kernel
theorem sh_67 : shp 67 = (0, 8) := by decide +kernel
theorem sh_68 : shp 68 = (1, 8) := by decide +kernel
theorem sh_69 : shp 69 = (1, 8) := by decide +kernel
theorem sh_70 : shp 70 = (1, 8) := by decide +kernel
theorem sh_71 : shp 71 = (0, 8) := by decide +kernel
theorem sh_72 : shp 72 = (1, 8) := by decide +kernel
theorem sh_73 : shp 73 = (1, 8) := by decide +kernel
theorem sh_74 : shp 74 = (1, 8) := by decide +kernel
theorem sh_75 : shp 75 = (0, 8) := by decide +kernel
theorem sh_76 : shp 76 = (1, 8) := by decide +kernel
theorem sh_77 : shp 77 = (1, 8) := by decide +kernel
theorem sh_78 : shp 78 = (1, 8) := by decide +kernel
theorem sh_79 : shp 79 = (0, 8) := by decide +kernel
theorem sh_80 : shp 80 = (1, 8) := by decide +kernel
theorem sh_81 : shp 81 = (1, 8) := by decide +kernel
theorem sh_82 : shp 82 = (1, 8) := by decide +kernel
theorem sh_83 : shp 83 = (0, 8) := by decide +kernel
theorem sh_84 : shp 84 = (1, 8) := by decide +kernel
theorem sh_85 : shp 85 = (1, 8) := by decide +kernel
theorem sh_86 : shp 86 = (1, 8) := by decide +kernel
theorem sh_87 : shp 87 = (0, 2) := by decide +kernel
theorem sh_88 : shp 88 = (3, 2) := by decide +kernel
theorem sh_89 : shp 89 = (1, 2) := by decide +kernel
theorem sh_90 : shp 90 = (2, 2) := by decide +kernel
theorem sh_91 : shp 91 = (0, 8) := by decide +kernel
theorem sh_92 : shp 92 = (1, 8) := by decide +kernel
theorem sh_93 : shp 93 = (1, 8) := by decide +kernel
theorem sh_94 : shp 94 = (1, 8) := by decide +kernel
theorem sh_95 : shp 95 = (0, 8) := by decide +kernel
theorem sh_96 : shp 96 = (1, 8) := by decide +kernel
theorem sh_97 : shp 97 = (1, 8) := by decide +kernel
theorem sh_98 : shp 98 = (1, 8) := by decide +kernel
theorem sh_99 : shp 99 = (0, 1) := by decide +kernel
theorem sh_100 : shp 100 = (1, 5) := by decide +kernel
theorem sh_101 : shp 101 = (1, 48) := by decide +kernel
theorem sh_102 : shp 102 = (0, 7) := by decide +kernel
theorem sh_103 : shp 103 = (1, 2560) := by decide +kernel
theorem sh_104 : shp 104 = (1, 9) := by decide +kernel
theorem sh_105 : shp 105 = (0, 6) := by decide +kernel
theorem sh_106 : shp 106 = (1, 6) := by decide +kernel
theorem sh_107 : shp 107 = (1, 6) := by decide +kernel
theorem sh_108 : shp 108 = (1, 9) := by decide +kernel
theorem sh_109 : shp 109 = (0, 3) := by decide +kernel
theorem sh_110 : shp 110 = (1, 10) := by decide +kernel
theorem sh_111 : shp 111 = (1, 10) := by decide +kernel
theorem sh_112 : shp 112 = (2, 10) := by decide +kernel
theorem sh_113 : shp 113 = (2, 256) := by decide +kernel
theorem sh_114 : shp 114 = (1, 256) := by decide +kernel
theorem sh_115 : shp 115 = (0, 0) := by decide +kernel
theorem sh_116 : shp 116 = (1, 15) := by decide +kernel
theorem sh_117 : shp 117 = (1, 15) := by decide +kernel
theorem sh_118 : shp 118 = (2, 15) := by decide +kernel
theorem sh_119 : shp 119 = (0, 11) := by decide +kernel
theorem sh_120 : shp 120 = (1, 8) := by decide +kernel
theorem sh_121 : shp 121 = (1, 12) := by decide +kernel
theorem sh_122 : shp 122 = (1, 26) := by decide +kernel
theorem sh_123 : shp 123 = (1, 240) := by decide +kernel
theorem sh_124 : shp 124 = (1, 24) := by decide +kernel
theorem sh_125 : shp 125 = (1, 12) := by decide +kernel
theorem sh_126 : shp 126 = (1, 416) := by decide +kernel
theorem sh_127 : shp 127 = (1, 26) := by decide +kernel
theorem sh_128 : shp 128 = (1, 2560) := by decide +kernel
theorem sh_129 : shp 129 = (1, 12) := by decide +kernel
theorem sh_130 : shp 130 = (1, 30) := by decide +kernel
theorem sh_131 : shp 131 = (1, 8) := by decide +kernel
theorem sh_132 : shp 132 = (1, 45) := by decide +kernel
theorem sh_133 : shp 133 = (1, 54) := by decide +kernel
theorem sh_134 : shp 134 = (2, 2) := by decide +kernel
/-- a State at a cell, a Town at a cell, with their rows behind them -/
def stO (c : Nat) : Prop := shp c = (0, 8) ∧ shp (c + 1) = (1, 8) ∧ shp (c + 2) = (1, 8) ∧ shp (c + 3) = (1, 8)
def twO (c : Nat) : Prop := shp c = (0, 9) ∧ shp (c + 1) = (1, 8) ∧ shp (c + 2) = (1, 8) ∧ shp (c + 3) = (1, 8) ∧ shp (c + 4) = (1, 12)
theorem stO_13 : stO 13 := by unfold stO; decide +kernel
theorem stO_17 : stO 17 := by unfold stO; decide +kernel
theorem twO_1 : twO 1 := by unfold twO; decide +kernel
theorem twO_6 : twO 6 := by unfold twO; decide +kernel
theorem stO_pastN : ∀ k : Nat, k < 16 → stO (23 + 4 * k) := by unfold stO; decide +kernel
theorem stO_imgN : ∀ k : Nat, k < 2 → stO (91 + 4 * k) := by unfold stO; decide +kernel
theorem vp_lt {i : Int32} {n : Nat} (h : vp_in i n) : i.toNatClampNeg < n := Nat.not_le.mp fun q => h (Or.inr q)
theorem stO_past {i : Int32} (h : vp_in i 16) : stO (23 + 4 * i.toNatClampNeg) := stO_pastN _ (vp_lt h)
theorem stO_img {i : Int32} (h : vp_in i 2) : stO (91 + 4 * i.toNatClampNeg) := stO_imgN _ (vp_lt h)
/-- one int written: a field, a place of a row -/
def pt (M : MM) (c k : Nat) (x : Int32) : MM := sC M c (upd (M c) k x)
theorem pt_s (M : MM) (c k : Nat) (x : Int32) : pt M c k x c k = x := by simp [pt, sC, upd]
theorem pt_k (M : MM) {c k j : Nat} (x : Int32) (h : j ≠ k) : pt M c k x c j = M c j := by simp [pt, sC, upd, h]
theorem pt_c (M : MM) {c d k : Nat} (x : Int32) (h : d ≠ c) : pt M c k x d = M d := by simp [pt, sC, h]
theorem pt_e (M : MM) (c k : Nat) (x : Int32) (d j : Nat) : pt M c k x d j = if d = c ∧ j = k then x else M d j := by
  by_cases h : d = c
  · subst h
    by_cases h2 : j = k
    · subst h2; simp [pt_s]
    · simp [pt_k M x h2, h2]
  · simp [pt_c M x h, h]
theorem pt_r (M : MM) (c k : Nat) (x : Int32) : pt M c k x c = upd (M c) k x := by simp [pt, sC]
/-- a row copied from its beginning -/
def cp (M : MM) (c d n : Nat) : MM := sC M d (va_cpy (M c) (M d) 0 0 n)
theorem cp_e (M : MM) (c d n e j : Nat) : cp M c d n e j = if e = d ∧ j < n then M c j else M e j := by
  by_cases h : e = d
  · subst h
    by_cases h2 : j < n <;> simp [cp, sC, va_cpy, h2]
  · simp [cp, sC, h]
def mX0_init : gM := (yX0_init, cX0_init, 1, none, 1)
theorem okp_X0_init : okP mX0_init 0 := ⟨by decide +kernel, by decide +kernel, by decide +kernel⟩
theorem pl_X0_init : plainName mX0_init.1.cls = true := by decide +kernel
def mX0_add : gM := (yX0_add, cX0_add, 4, some .int, 0)
theorem okp_X0_add : okP mX0_add 3 := ⟨by decide +kernel, by decide +kernel, by decide +kernel⟩
theorem pl_X0_add : plainName mX0_add.1.cls = true := by decide +kernel
def mX0_firstWrong : gM := (yX0_firstWrong, cX0_firstWrong, 4, some .int, 0)
theorem okp_X0_firstWrong : okP mX0_firstWrong 1 := ⟨by decide +kernel, by decide +kernel, by decide +kernel⟩
theorem pl_X0_firstWrong : plainName mX0_firstWrong.1.cls = true := by decide +kernel
def mX1_init : gM := (yX1_init, cX1_init, 1, none, 1)
theorem okp_X1_init : okP mX1_init 0 := ⟨by decide +kernel, by decide +kernel, by decide +kernel⟩
theorem pl_X1_init : plainName mX1_init.1.cls = true := by decide +kernel
def mX1_fewest : gM := (yX1_fewest, cX1_fewest, 5, some .int, 3)
theorem okp_X1_fewest : okP mX1_fewest 3 := ⟨by decide +kernel, by decide +kernel, by decide +kernel⟩
theorem pl_X1_fewest : plainName mX1_fewest.1.cls = true := by decide +kernel
def mX1_figures : gM := (yX1_figures, cX1_figures, 4, some .int, 0)
theorem okp_X1_figures : okP mX1_figures 1 := ⟨by decide +kernel, by decide +kernel, by decide +kernel⟩
theorem pl_X1_figures : plainName mX1_figures.1.cls = true := by decide +kernel
def mX1_fillBehind : gM := (yX1_fillBehind, cX1_fillBehind, 6, none, 2)
theorem okp_X1_fillBehind : okP mX1_fillBehind 2 := ⟨by decide +kernel, by decide +kernel, by decide +kernel⟩
theorem pl_X1_fillBehind : plainName mX1_fillBehind.1.cls = true := by decide +kernel
def mX1_findLights : gM := (yX1_findLights, cX1_findLights, 5, some .boolean, 2)
theorem okp_X1_findLights : okP mX1_findLights 3 := ⟨by decide +kernel, by decide +kernel, by decide +kernel⟩
theorem pl_X1_findLights : plainName mX1_findLights.1.cls = true := by decide +kernel
def mX1_bringTogether : gM := (yX1_bringTogether, cX1_bringTogether, 6, some .boolean, 1)
theorem okp_X1_bringTogether : okP mX1_bringTogether 3 := ⟨by decide +kernel, by decide +kernel, by decide +kernel⟩
theorem pl_X1_bringTogether : plainName mX1_bringTogether.1.cls = true := by decide +kernel
def mX1_heardOf : gM := (yX1_heardOf, cX1_heardOf, 5, some .int, 0)
theorem okp_X1_heardOf : okP mX1_heardOf 2 := ⟨by decide +kernel, by decide +kernel, by decide +kernel⟩
theorem pl_X1_heardOf : plainName mX1_heardOf.1.cls = true := by decide +kernel
def mX1_nextLights : gM := (yX1_nextLights, cX1_nextLights, 5, some .boolean, 0)
theorem okp_X1_nextLights : okP mX1_nextLights 1 := ⟨by decide +kernel, by decide +kernel, by decide +kernel⟩
theorem pl_X1_nextLights : plainName mX1_nextLights.1.cls = true := by decide +kernel
def mX2_init : gM := (yX2_init, cX2_init, 2, none, 1)
theorem okp_X2_init : okP mX2_init 0 := ⟨by decide +kernel, by decide +kernel, by decide +kernel⟩
theorem pl_X2_init : plainName mX2_init.1.cls = true := by decide +kernel
def mX2_take : gM := (yX2_take, cX2_take, 4, none, 2)
theorem okp_X2_take : okP mX2_take 3 := ⟨by decide +kernel, by decide +kernel, by decide +kernel⟩
theorem pl_X2_take : plainName mX2_take.1.cls = true := by decide +kernel
def mX2_forget : gM := (yX2_forget, cX2_forget, 2, none, 0)
theorem okp_X2_forget : okP mX2_forget 0 := ⟨by decide +kernel, by decide +kernel, by decide +kernel⟩
theorem pl_X2_forget : plainName mX2_forget.1.cls = true := by decide +kernel
def mX3_init : gM := (yX3_init, cX3_init, 1, none, 1)
theorem okp_X3_init : okP mX3_init 0 := ⟨by decide +kernel, by decide +kernel, by decide +kernel⟩
theorem pl_X3_init : plainName mX3_init.1.cls = true := by decide +kernel
def mX3_add : gM := (yX3_add, cX3_add, 4, some .int, 0)
theorem okp_X3_add : okP mX3_add 3 := ⟨by decide +kernel, by decide +kernel, by decide +kernel⟩
theorem pl_X3_add : plainName mX3_add.1.cls = true := by decide +kernel
def mX3_explained : gM := (yX3_explained, cX3_explained, 4, some .int, 2)
theorem okp_X3_explained : okP mX3_explained 1 := ⟨by decide +kernel, by decide +kernel, by decide +kernel⟩
theorem pl_X3_explained : plainName mX3_explained.1.cls = true := by decide +kernel
def mX3_canBeOneLayer : gM := (yX3_canBeOneLayer, cX3_canBeOneLayer, 5, some .boolean, 0)
theorem okp_X3_canBeOneLayer : okP mX3_canBeOneLayer 1 := ⟨by decide +kernel, by decide +kernel, by decide +kernel⟩
theorem pl_X3_canBeOneLayer : plainName mX3_canBeOneLayer.1.cls = true := by decide +kernel
def mX3_fewestFor : gM := (yX3_fewestFor, cX3_fewestFor, 6, some .int, 1)
theorem okp_X3_fewestFor : okP mX3_fewestFor 1 := ⟨by decide +kernel, by decide +kernel, by decide +kernel⟩
theorem pl_X3_fewestFor : plainName mX3_fewestFor.1.cls = true := by decide +kernel
def mX3_fewestWith : gM := (yX3_fewestWith, cX3_fewestWith, 3, some .int, 0)
theorem okp_X3_fewestWith : okP mX3_fewestWith 2 := ⟨by decide +kernel, by decide +kernel, by decide +kernel⟩
theorem pl_X3_fewestWith : plainName mX3_fewestWith.1.cls = true := by decide +kernel
def mX4_init : gM := (yX4_init, cX4_init, 2, none, 1)
theorem okp_X4_init : okP mX4_init 0 := ⟨by decide +kernel, by decide +kernel, by decide +kernel⟩
theorem pl_X4_init : plainName mX4_init.1.cls = true := by decide +kernel
def mX4_remember : gM := (yX4_remember, cX4_remember, 2, none, 2)
theorem okp_X4_remember : okP mX4_remember 1 := ⟨by decide +kernel, by decide +kernel, by decide +kernel⟩
theorem pl_X4_remember : plainName mX4_remember.1.cls = true := by decide +kernel
def mX4_restore : gM := (yX4_restore, cX4_restore, 2, none, 2)
theorem okp_X4_restore : okP mX4_restore 1 := ⟨by decide +kernel, by decide +kernel, by decide +kernel⟩
theorem pl_X4_restore : plainName mX4_restore.1.cls = true := by decide +kernel
def mX4_forget : gM := (yX4_forget, cX4_forget, 1, none, 0)
theorem okp_X4_forget : okP mX4_forget 0 := ⟨by decide +kernel, by decide +kernel, by decide +kernel⟩
theorem pl_X4_forget : plainName mX4_forget.1.cls = true := by decide +kernel
def mX5_init : gM := (yX5_init, cX5_init, 1, none, 1)
theorem okp_X5_init : okP mX5_init 0 := ⟨by decide +kernel, by decide +kernel, by decide +kernel⟩
theorem pl_X5_init : plainName mX5_init.1.cls = true := by decide +kernel
def mX5_add : gM := (yX5_add, cX5_add, 2, some .int, 0)
theorem okp_X5_add : okP mX5_add 1 := ⟨by decide +kernel, by decide +kernel, by decide +kernel⟩
theorem pl_X5_add : plainName mX5_add.1.cls = true := by decide +kernel
def mX5_readInto : gM := (yX5_readInto, cX5_readInto, 3, some .int, 5)
theorem okp_X5_readInto : okP mX5_readInto 1 := ⟨by decide +kernel, by decide +kernel, by decide +kernel⟩
theorem pl_X5_readInto : plainName mX5_readInto.1.cls = true := by decide +kernel
def mX5_readClause : gM := (yX5_readClause, cX5_readClause, 3, none, 4)
theorem okp_X5_readClause : okP mX5_readClause 1 := ⟨by decide +kernel, by decide +kernel, by decide +kernel⟩
theorem pl_X5_readClause : plainName mX5_readClause.1.cls = true := by decide +kernel
def mX5_readLayers : gM := (yX5_readLayers, cX5_readLayers, 2, none, 3)
theorem okp_X5_readLayers : okP mX5_readLayers 1 := ⟨by decide +kernel, by decide +kernel, by decide +kernel⟩
theorem pl_X5_readLayers : plainName mX5_readLayers.1.cls = true := by decide +kernel
def mX5_readPerson : gM := (yX5_readPerson, cX5_readPerson, 3, none, 3)
theorem okp_X5_readPerson : okP mX5_readPerson 1 := ⟨by decide +kernel, by decide +kernel, by decide +kernel⟩
theorem pl_X5_readPerson : plainName mX5_readPerson.1.cls = true := by decide +kernel
def mX5_readLights : gM := (yX5_readLights, cX5_readLights, 3, none, 3)
theorem okp_X5_readLights : okP mX5_readLights 1 := ⟨by decide +kernel, by decide +kernel, by decide +kernel⟩
theorem pl_X5_readLights : plainName mX5_readLights.1.cls = true := by decide +kernel
def mX5_readNumber : gM := (yX5_readNumber, cX5_readNumber, 6, some .int, 2)
theorem okp_X5_readNumber : okP mX5_readNumber 2 := ⟨by decide +kernel, by decide +kernel, by decide +kernel⟩
theorem pl_X5_readNumber : plainName mX5_readNumber.1.cls = true := by decide +kernel
def mX5_readWord : gM := (yX5_readWord, cX5_readWord, 2, none, 2)
theorem okp_X5_readWord : okP mX5_readWord 1 := ⟨by decide +kernel, by decide +kernel, by decide +kernel⟩
theorem pl_X5_readWord : plainName mX5_readWord.1.cls = true := by decide +kernel
def mX5_skipBlanks : gM := (yX5_skipBlanks, cX5_skipBlanks, 1, none, 1)
theorem okp_X5_skipBlanks : okP mX5_skipBlanks 0 := ⟨by decide +kernel, by decide +kernel, by decide +kernel⟩
theorem pl_X5_skipBlanks : plainName mX5_skipBlanks.1.cls = true := by decide +kernel
def mX5_letterHere : gM := (yX5_letterHere, cX5_letterHere, 1, some .int, 0)
theorem okp_X5_letterHere : okP mX5_letterHere 0 := ⟨by decide +kernel, by decide +kernel, by decide +kernel⟩
theorem pl_X5_letterHere : plainName mX5_letterHere.1.cls = true := by decide +kernel
def mX5_isFigure : gM := (yX5_isFigure, cX5_isFigure, 1, some .boolean, 0)
theorem okp_X5_isFigure : okP mX5_isFigure 1 := ⟨by decide +kernel, by decide +kernel, by decide +kernel⟩
theorem pl_X5_isFigure : plainName mX5_isFigure.1.cls = true := by decide +kernel
def mX5_blame : gM := (yX5_blame, cX5_blame, 3, none, 0)
theorem okp_X5_blame : okP mX5_blame 2 := ⟨by decide +kernel, by decide +kernel, by decide +kernel⟩
theorem pl_X5_blame : plainName mX5_blame.1.cls = true := by decide +kernel
def mX6_init : gM := (yX6_init, cX6_init, 1, none, 1)
theorem okp_X6_init : okP mX6_init 0 := ⟨by decide +kernel, by decide +kernel, by decide +kernel⟩
theorem pl_X6_init : plainName mX6_init.1.cls = true := by decide +kernel
def mX6_add : gM := (yX6_add, cX6_add, 3, some .int, 0)
theorem okp_X6_add : okP mX6_add 2 := ⟨by decide +kernel, by decide +kernel, by decide +kernel⟩
theorem pl_X6_add : plainName mX6_add.1.cls = true := by decide +kernel
def mX6_howManyFit : gM := (yX6_howManyFit, cX6_howManyFit, 8, some .int, 3)
theorem okp_X6_howManyFit : okP mX6_howManyFit 1 := ⟨by decide +kernel, by decide +kernel, by decide +kernel⟩
theorem pl_X6_howManyFit : plainName mX6_howManyFit.1.cls = true := by decide +kernel
def mX6_firstFit : gM := (yX6_firstFit, cX6_firstFit, 7, some .int, 3)
theorem okp_X6_firstFit : okP mX6_firstFit 1 := ⟨by decide +kernel, by decide +kernel, by decide +kernel⟩
theorem pl_X6_firstFit : plainName mX6_firstFit.1.cls = true := by decide +kernel
def mX6_lightToWatch : gM := (yX6_lightToWatch, cX6_lightToWatch, 6, some .int, 4)
theorem okp_X6_lightToWatch : okP mX6_lightToWatch 1 := ⟨by decide +kernel, by decide +kernel, by decide +kernel⟩
theorem pl_X6_lightToWatch : plainName mX6_lightToWatch.1.cls = true := by decide +kernel
def mX6_greatestPart : gM := (yX6_greatestPart, cX6_greatestPart, 10, some .int, 3)
theorem okp_X6_greatestPart : okP mX6_greatestPart 2 := ⟨by decide +kernel, by decide +kernel, by decide +kernel⟩
theorem pl_X6_greatestPart : plainName mX6_greatestPart.1.cls = true := by decide +kernel
def mX6_fits : gM := (yX6_fits, cX6_fits, 5, some .boolean, 2)
theorem okp_X6_fits : okP mX6_fits 3 := ⟨by decide +kernel, by decide +kernel, by decide +kernel⟩
theorem pl_X6_fits : plainName mX6_fits.1.cls = true := by decide +kernel
def mX6_moveOf : gM := (yX6_moveOf, cX6_moveOf, 5, some .int, 1)
theorem okp_X6_moveOf : okP mX6_moveOf 4 := ⟨by decide +kernel, by decide +kernel, by decide +kernel⟩
theorem pl_X6_moveOf : plainName mX6_moveOf.1.cls = true := by decide +kernel
def mX7_init : gM := (yX7_init, cX7_init, 1, none, 1)
theorem okp_X7_init : okP mX7_init 0 := ⟨by decide +kernel, by decide +kernel, by decide +kernel⟩
theorem pl_X7_init : plainName mX7_init.1.cls = true := by decide +kernel
def mX7_share : gM := (yX7_share, cX7_share, 6, some .int, 3)
theorem okp_X7_share : okP mX7_share 1 := ⟨by decide +kernel, by decide +kernel, by decide +kernel⟩
theorem pl_X7_share : plainName mX7_share.1.cls = true := by decide +kernel
def mX7_mostFrom : gM := (yX7_mostFrom, cX7_mostFrom, 7, some .int, 1)
theorem okp_X7_mostFrom : okP mX7_mostFrom 3 := ⟨by decide +kernel, by decide +kernel, by decide +kernel⟩
theorem pl_X7_mostFrom : plainName mX7_mostFrom.1.cls = true := by decide +kernel
def mX7_mostBehind : gM := (yX7_mostBehind, cX7_mostBehind, 3, some .int, 0)
theorem okp_X7_mostBehind : okP mX7_mostBehind 2 := ⟨by decide +kernel, by decide +kernel, by decide +kernel⟩
theorem pl_X7_mostBehind : plainName mX7_mostBehind.1.cls = true := by decide +kernel
def mX7_chooseKeepers : gM := (yX7_chooseKeepers, cX7_chooseKeepers, 4, none, 2)
theorem okp_X7_chooseKeepers : okP mX7_chooseKeepers 1 := ⟨by decide +kernel, by decide +kernel, by decide +kernel⟩
theorem pl_X7_chooseKeepers : plainName mX7_chooseKeepers.1.cls = true := by decide +kernel
def mX7_keeperFor : gM := (yX7_keeperFor, cX7_keeperFor, 6, some .int, 1)
theorem okp_X7_keeperFor : okP mX7_keeperFor 3 := ⟨by decide +kernel, by decide +kernel, by decide +kernel⟩
theorem pl_X7_keeperFor : plainName mX7_keeperFor.1.cls = true := by decide +kernel
def mX8_init : gM := (yX8_init, cX8_init, 1, none, 1)
theorem okp_X8_init : okP mX8_init 0 := ⟨by decide +kernel, by decide +kernel, by decide +kernel⟩
theorem pl_X8_init : plainName mX8_init.1.cls = true := by decide +kernel
def mX8_begin : gM := (yX8_begin, cX8_begin, 3, none, 1)
theorem okp_X8_begin : okP mX8_begin 1 := ⟨by decide +kernel, by decide +kernel, by decide +kernel⟩
theorem pl_X8_begin : plainName mX8_begin.1.cls = true := by decide +kernel
def mX8_copyFrom : gM := (yX8_copyFrom, cX8_copyFrom, 2, none, 1)
theorem okp_X8_copyFrom : okP mX8_copyFrom 1 := ⟨by decide +kernel, by decide +kernel, by decide +kernel⟩
theorem pl_X8_copyFrom : plainName mX8_copyFrom.1.cls = true := by decide +kernel
def mX8_hearCrow : gM := (yX8_hearCrow, cX8_hearCrow, 5, some .int, 2)
theorem okp_X8_hearCrow : okP mX8_hearCrow 2 := ⟨by decide +kernel, by decide +kernel, by decide +kernel⟩
theorem pl_X8_hearCrow : plainName mX8_hearCrow.1.cls = true := by decide +kernel
def mX8_passDawn : gM := (yX8_passDawn, cX8_passDawn, 2, none, 3)
theorem okp_X8_passDawn : okP mX8_passDawn 1 := ⟨by decide +kernel, by decide +kernel, by decide +kernel⟩
theorem pl_X8_passDawn : plainName mX8_passDawn.1.cls = true := by decide +kernel
def mX8_whoIsOn : gM := (yX8_whoIsOn, cX8_whoIsOn, 4, some .int, 0)
theorem okp_X8_whoIsOn : okP mX8_whoIsOn 1 := ⟨by decide +kernel, by decide +kernel, by decide +kernel⟩
theorem pl_X8_whoIsOn : plainName mX8_whoIsOn.1.cls = true := by decide +kernel
def mX8_everybody : gM := (yX8_everybody, cX8_everybody, 1, some .int, 1)
theorem okp_X8_everybody : okP mX8_everybody 0 := ⟨by decide +kernel, by decide +kernel, by decide +kernel⟩
theorem pl_X8_everybody : plainName mX8_everybody.1.cls = true := by decide +kernel
def mX8_layersOf : gM := (yX8_layersOf, cX8_layersOf, 4, some .int, 0)
theorem okp_X8_layersOf : okP mX8_layersOf 1 := ⟨by decide +kernel, by decide +kernel, by decide +kernel⟩
theorem pl_X8_layersOf : plainName mX8_layersOf.1.cls = true := by decide +kernel
def mX8_areTogether : gM := (yX8_areTogether, cX8_areTogether, 4, some .boolean, 0)
theorem okp_X8_areTogether : okP mX8_areTogether 1 := ⟨by decide +kernel, by decide +kernel, by decide +kernel⟩
theorem pl_X8_areTogether : plainName mX8_areTogether.1.cls = true := by decide +kernel
def mX8_isWhere : gM := (yX8_isWhere, cX8_isWhere, 3, some .boolean, 0)
theorem okp_X8_isWhere : okP mX8_isWhere 1 := ⟨by decide +kernel, by decide +kernel, by decide +kernel⟩
theorem pl_X8_isWhere : plainName mX8_isWhere.1.cls = true := by decide +kernel
def mX8_onSeveral : gM := (yX8_onSeveral, cX8_onSeveral, 3, some .int, 1)
theorem okp_X8_onSeveral : okP mX8_onSeveral 0 := ⟨by decide +kernel, by decide +kernel, by decide +kernel⟩
theorem pl_X8_onSeveral : plainName mX8_onSeveral.1.cls = true := by decide +kernel
def mX8_cover : gM := (yX8_cover, cX8_cover, 5, some .int, 2)
theorem okp_X8_cover : okP mX8_cover 0 := ⟨by decide +kernel, by decide +kernel, by decide +kernel⟩
theorem pl_X8_cover : plainName mX8_cover.1.cls = true := by decide +kernel
def mX8_fullest : gM := (yX8_fullest, cX8_fullest, 5, some .int, 1)
theorem okp_X8_fullest : okP mX8_fullest 0 := ⟨by decide +kernel, by decide +kernel, by decide +kernel⟩
theorem pl_X8_fullest : plainName mX8_fullest.1.cls = true := by decide +kernel
def mX9_init : gM := (yX9_init, cX9_init, 1, none, 1)
theorem okp_X9_init : okP mX9_init 0 := ⟨by decide +kernel, by decide +kernel, by decide +kernel⟩
theorem pl_X9_init : plainName mX9_init.1.cls = true := by decide +kernel
def mX9_clear : gM := (yX9_clear, cX9_clear, 1, none, 0)
theorem okp_X9_clear : okP mX9_clear 0 := ⟨by decide +kernel, by decide +kernel, by decide +kernel⟩
theorem pl_X9_clear : plainName mX9_clear.1.cls = true := by decide +kernel
def mX9_copyFrom : gM := (yX9_copyFrom, cX9_copyFrom, 2, none, 1)
theorem okp_X9_copyFrom : okP mX9_copyFrom 1 := ⟨by decide +kernel, by decide +kernel, by decide +kernel⟩
theorem pl_X9_copyFrom : plainName mX9_copyFrom.1.cls = true := by decide +kernel
def mX9_isThere : gM := (yX9_isThere, cX9_isThere, 1, some .boolean, 0)
theorem okp_X9_isThere : okP mX9_isThere 0 := ⟨by decide +kernel, by decide +kernel, by decide +kernel⟩
theorem pl_X9_isThere : plainName mX9_isThere.1.cls = true := by decide +kernel
def mX9_hasPerson : gM := (yX9_hasPerson, cX9_hasPerson, 2, some .boolean, 0)
theorem okp_X9_hasPerson : okP mX9_hasPerson 1 := ⟨by decide +kernel, by decide +kernel, by decide +kernel⟩
theorem pl_X9_hasPerson : plainName mX9_hasPerson.1.cls = true := by decide +kernel
def mX9_hasLayer : gM := (yX9_hasLayer, cX9_hasLayer, 2, some .boolean, 0)
theorem okp_X9_hasLayer : okP mX9_hasLayer 1 := ⟨by decide +kernel, by decide +kernel, by decide +kernel⟩
theorem pl_X9_hasLayer : plainName mX9_hasLayer.1.cls = true := by decide +kernel
def mX9_hasAll : gM := (yX9_hasAll, cX9_hasAll, 2, some .boolean, 1)
theorem okp_X9_hasAll : okP mX9_hasAll 1 := ⟨by decide +kernel, by decide +kernel, by decide +kernel⟩
theorem pl_X9_hasAll : plainName mX9_hasAll.1.cls = true := by decide +kernel
def mX9_allPersons : gM := (yX9_allPersons, cX9_allPersons, 1, some .int, 0)
theorem okp_X9_allPersons : okP mX9_allPersons 0 := ⟨by decide +kernel, by decide +kernel, by decide +kernel⟩
theorem pl_X9_allPersons : plainName mX9_allPersons.1.cls = true := by decide +kernel
def mX9_lightOf : gM := (yX9_lightOf, cX9_lightOf, 2, some .int, 1)
theorem okp_X9_lightOf : okP mX9_lightOf 1 := ⟨by decide +kernel, by decide +kernel, by decide +kernel⟩
theorem pl_X9_lightOf : plainName mX9_lightOf.1.cls = true := by decide +kernel
def mX9_strideOf : gM := (yX9_strideOf, cX9_strideOf, 2, some .int, 0)
theorem okp_X9_strideOf : okP mX9_strideOf 1 := ⟨by decide +kernel, by decide +kernel, by decide +kernel⟩
theorem pl_X9_strideOf : plainName mX9_strideOf.1.cls = true := by decide +kernel
def mX9_goneOn : gM := (yX9_goneOn, cX9_goneOn, 3, some .int, 0)
theorem okp_X9_goneOn : okP mX9_goneOn 2 := ⟨by decide +kernel, by decide +kernel, by decide +kernel⟩
theorem pl_X9_goneOn : plainName mX9_goneOn.1.cls = true := by decide +kernel
def mX9_behindCrow : gM := (yX9_behindCrow, cX9_behindCrow, 4, some .int, 1)
theorem okp_X9_behindCrow : okP mX9_behindCrow 3 := ⟨by decide +kernel, by decide +kernel, by decide +kernel⟩
theorem pl_X9_behindCrow : plainName mX9_behindCrow.1.cls = true := by decide +kernel
def mX10_init : gM := (yX10_init, cX10_init, 1, none, 1)
theorem okp_X10_init : okP mX10_init 0 := ⟨by decide +kernel, by decide +kernel, by decide +kernel⟩
theorem pl_X10_init : plainName mX10_init.1.cls = true := by decide +kernel
def mX10_feed : gM := (yX10_feed, cX10_feed, 2, some .int, 1)
theorem okp_X10_feed : okP mX10_feed 1 := ⟨by decide +kernel, by decide +kernel, by decide +kernel⟩
theorem pl_X10_feed : plainName mX10_feed.1.cls = true := by decide +kernel
def mX10_town : gM := (yX10_town, cX10_town, 2, some .int, 6)
theorem okp_X10_town : okP mX10_town 0 := ⟨by decide +kernel, by decide +kernel, by decide +kernel⟩
theorem pl_X10_town : plainName mX10_town.1.cls = true := by decide +kernel
def mX10_fault : gM := (yX10_fault, cX10_fault, 1, some .int, 0)
theorem okp_X10_fault : okP mX10_fault 0 := ⟨by decide +kernel, by decide +kernel, by decide +kernel⟩
theorem pl_X10_fault : plainName mX10_fault.1.cls = true := by decide +kernel
def mX10_told : gM := (yX10_told, cX10_told, 2, some .int, 3)
theorem okp_X10_told : okP mX10_told 1 := ⟨by decide +kernel, by decide +kernel, by decide +kernel⟩
theorem pl_X10_told : plainName mX10_told.1.cls = true := by decide +kernel
def mX10_person : gM := (yX10_person, cX10_person, 3, some .int, 1)
theorem okp_X10_person : okP mX10_person 2 := ⟨by decide +kernel, by decide +kernel, by decide +kernel⟩
theorem pl_X10_person : plainName mX10_person.1.cls = true := by decide +kernel
def mX10_onLayer : gM := (yX10_onLayer, cX10_onLayer, 2, some .int, 1)
theorem okp_X10_onLayer : okP mX10_onLayer 1 := ⟨by decide +kernel, by decide +kernel, by decide +kernel⟩
theorem pl_X10_onLayer : plainName mX10_onLayer.1.cls = true := by decide +kernel
def mX10_dawn : gM := (yX10_dawn, cX10_dawn, 4, some .int, 4)
theorem okp_X10_dawn : okP mX10_dawn 1 := ⟨by decide +kernel, by decide +kernel, by decide +kernel⟩
theorem pl_X10_dawn : plainName mX10_dawn.1.cls = true := by decide +kernel
def mX10_crow : gM := (yX10_crow, cX10_crow, 2, some .int, 3)
theorem okp_X10_crow : okP mX10_crow 1 := ⟨by decide +kernel, by decide +kernel, by decide +kernel⟩
theorem pl_X10_crow : plainName mX10_crow.1.cls = true := by decide +kernel
def mX10_step : gM := (yX10_step, cX10_step, 4, some .int, 3)
theorem okp_X10_step : okP mX10_step 2 := ⟨by decide +kernel, by decide +kernel, by decide +kernel⟩
theorem pl_X10_step : plainName mX10_step.1.cls = true := by decide +kernel
def mX10_leave : gM := (yX10_leave, cX10_leave, 4, some .int, 3)
theorem okp_X10_leave : okP mX10_leave 2 := ⟨by decide +kernel, by decide +kernel, by decide +kernel⟩
theorem pl_X10_leave : plainName mX10_leave.1.cls = true := by decide +kernel
def mX10_ear : gM := (yX10_ear, cX10_ear, 4, some .int, 3)
theorem okp_X10_ear : okP mX10_ear 2 := ⟨by decide +kernel, by decide +kernel, by decide +kernel⟩
theorem pl_X10_ear : plainName mX10_ear.1.cls = true := by decide +kernel
def mX10_deed : gM := (yX10_deed, cX10_deed, 2, some .int, 3)
theorem okp_X10_deed : okP mX10_deed 1 := ⟨by decide +kernel, by decide +kernel, by decide +kernel⟩
theorem pl_X10_deed : plainName mX10_deed.1.cls = true := by decide +kernel
def mX10_wipe : gM := (yX10_wipe, cX10_wipe, 2, some .int, 3)
theorem okp_X10_wipe : okP mX10_wipe 0 := ⟨by decide +kernel, by decide +kernel, by decide +kernel⟩
theorem pl_X10_wipe : plainName mX10_wipe.1.cls = true := by decide +kernel
def mX10_drift : gM := (yX10_drift, cX10_drift, 4, some .int, 4)
theorem okp_X10_drift : okP mX10_drift 1 := ⟨by decide +kernel, by decide +kernel, by decide +kernel⟩
theorem pl_X10_drift : plainName mX10_drift.1.cls = true := by decide +kernel
def mX10_undo : gM := (yX10_undo, cX10_undo, 1, some .int, 3)
theorem okp_X10_undo : okP mX10_undo 0 := ⟨by decide +kernel, by decide +kernel, by decide +kernel⟩
theorem pl_X10_undo : plainName mX10_undo.1.cls = true := by decide +kernel
def mX10_layers : gM := (yX10_layers, cX10_layers, 4, some .int, 4)
theorem okp_X10_layers : okP mX10_layers 2 := ⟨by decide +kernel, by decide +kernel, by decide +kernel⟩
theorem pl_X10_layers : plainName mX10_layers.1.cls = true := by decide +kernel
def mX10_first : gM := (yX10_first, cX10_first, 4, some .int, 4)
theorem okp_X10_first : okP mX10_first 2 := ⟨by decide +kernel, by decide +kernel, by decide +kernel⟩
theorem pl_X10_first : plainName mX10_first.1.cls = true := by decide +kernel
def mX10_together : gM := (yX10_together, cX10_together, 3, some .int, 4)
theorem okp_X10_together : okP mX10_together 1 := ⟨by decide +kernel, by decide +kernel, by decide +kernel⟩
theorem pl_X10_together : plainName mX10_together.1.cls = true := by decide +kernel
def mX10_asNow : gM := (yX10_asNow, cX10_asNow, 2, some .int, 4)
theorem okp_X10_asNow : okP mX10_asNow 0 := ⟨by decide +kernel, by decide +kernel, by decide +kernel⟩
theorem pl_X10_asNow : plainName mX10_asNow.1.cls = true := by decide +kernel
def mX10_crows : gM := (yX10_crows, cX10_crows, 4, some .int, 4)
theorem okp_X10_crows : okP mX10_crows 2 := ⟨by decide +kernel, by decide +kernel, by decide +kernel⟩
theorem pl_X10_crows : plainName mX10_crows.1.cls = true := by decide +kernel
def mX10_know : gM := (yX10_know, cX10_know, 6, some .int, 1)
theorem okp_X10_know : okP mX10_know 2 := ⟨by decide +kernel, by decide +kernel, by decide +kernel⟩
theorem pl_X10_know : plainName mX10_know.1.cls = true := by decide +kernel
def mX10_market : gM := (yX10_market, cX10_market, 3, some .int, 4)
theorem okp_X10_market : okP mX10_market 1 := ⟨by decide +kernel, by decide +kernel, by decide +kernel⟩
theorem pl_X10_market : plainName mX10_market.1.cls = true := by decide +kernel
def mX10_torn : gM := (yX10_torn, cX10_torn, 3, some .int, 1)
theorem okp_X10_torn : okP mX10_torn 2 := ⟨by decide +kernel, by decide +kernel, by decide +kernel⟩
theorem pl_X10_torn : plainName mX10_torn.1.cls = true := by decide +kernel
def mX10_dark : gM := (yX10_dark, cX10_dark, 6, some .int, 0)
theorem okp_X10_dark : okP mX10_dark 2 := ⟨by decide +kernel, by decide +kernel, by decide +kernel⟩
theorem pl_X10_dark : plainName mX10_dark.1.cls = true := by decide +kernel
def mX10_shadow : gM := (yX10_shadow, cX10_shadow, 3, some .int, 1)
theorem okp_X10_shadow : okP mX10_shadow 2 := ⟨by decide +kernel, by decide +kernel, by decide +kernel⟩
theorem pl_X10_shadow : plainName mX10_shadow.1.cls = true := by decide +kernel
def mX10_is : gM := (yX10_is, cX10_is, 2, some .int, 5)
theorem okp_X10_is : okP mX10_is 1 := ⟨by decide +kernel, by decide +kernel, by decide +kernel⟩
theorem pl_X10_is : plainName mX10_is.1.cls = true := by decide +kernel
def mX10_met : gM := (yX10_met, cX10_met, 4, some .int, 1)
theorem okp_X10_met : okP mX10_met 3 := ⟨by decide +kernel, by decide +kernel, by decide +kernel⟩
theorem pl_X10_met : plainName mX10_met.1.cls = true := by decide +kernel
def mX10_write : gM := (yX10_write, cX10_write, 4, some .int, 1)
theorem okp_X10_write : okP mX10_write 3 := ⟨by decide +kernel, by decide +kernel, by decide +kernel⟩
theorem pl_X10_write : plainName mX10_write.1.cls = true := by decide +kernel
def mX10_tear : gM := (yX10_tear, cX10_tear, 1, some .int, 1)
theorem okp_X10_tear : okP mX10_tear 0 := ⟨by decide +kernel, by decide +kernel, by decide +kernel⟩
theorem pl_X10_tear : plainName mX10_tear.1.cls = true := by decide +kernel
def mX10_judge : gM := (yX10_judge, cX10_judge, 1, some .int, 1)
theorem okp_X10_judge : okP mX10_judge 0 := ⟨by decide +kernel, by decide +kernel, by decide +kernel⟩
theorem pl_X10_judge : plainName mX10_judge.1.cls = true := by decide +kernel
def mX10_seed : gM := (yX10_seed, cX10_seed, 3, some .int, 0)
theorem okp_X10_seed : okP mX10_seed 1 := ⟨by decide +kernel, by decide +kernel, by decide +kernel⟩
theorem pl_X10_seed : plainName mX10_seed.1.cls = true := by decide +kernel
def mX10_keep : gM := (yX10_keep, cX10_keep, 2, some .int, 3)
theorem okp_X10_keep : okP mX10_keep 1 := ⟨by decide +kernel, by decide +kernel, by decide +kernel⟩
theorem pl_X10_keep : plainName mX10_keep.1.cls = true := by decide +kernel
def mX10_goBack : gM := (yX10_goBack, cX10_goBack, 2, some .int, 2)
theorem okp_X10_goBack : okP mX10_goBack 1 := ⟨by decide +kernel, by decide +kernel, by decide +kernel⟩
theorem pl_X10_goBack : plainName mX10_goBack.1.cls = true := by decide +kernel
def mX10_refusalOfDawns : gM := (yX10_refusalOfDawns, cX10_refusalOfDawns, 2, some .int, 1)
theorem okp_X10_refusalOfDawns : okP mX10_refusalOfDawns 1 := ⟨by decide +kernel, by decide +kernel, by decide +kernel⟩
theorem pl_X10_refusalOfDawns : plainName mX10_refusalOfDawns.1.cls = true := by decide +kernel
def mX10_tearAll : gM := (yX10_tearAll, cX10_tearAll, 2, some .int, 0)
theorem okp_X10_tearAll : okP mX10_tearAll 0 := ⟨by decide +kernel, by decide +kernel, by decide +kernel⟩
theorem pl_X10_tearAll : plainName mX10_tearAll.1.cls = true := by decide +kernel
def mX10_draw : gM := (yX10_draw, cX10_draw, 2, some .int, 0)
theorem okp_X10_draw : okP mX10_draw 1 := ⟨by decide +kernel, by decide +kernel, by decide +kernel⟩
theorem pl_X10_draw : plainName mX10_draw.1.cls = true := by decide +kernel
def mX10_doByDraws : gM := (yX10_doByDraws, cX10_doByDraws, 3, none, 3)
theorem okp_X10_doByDraws : okP mX10_doByDraws 0 := ⟨by decide +kernel, by decide +kernel, by decide +kernel⟩
theorem pl_X10_doByDraws : plainName mX10_doByDraws.1.cls = true := by decide +kernel
def mX11_init : gM := (yX11_init, cX11_init, 1, none, 1)
theorem okp_X11_init : okP mX11_init 0 := ⟨by decide +kernel, by decide +kernel, by decide +kernel⟩
theorem pl_X11_init : plainName mX11_init.1.cls = true := by decide +kernel
def mX11_in : gM := (yX11_in, cX11_in, 6, some .boolean, 0)
theorem okp_X11_in : okP mX11_in 3 := ⟨by decide +kernel, by decide +kernel, by decide +kernel⟩
theorem pl_X11_in : plainName mX11_in.1.cls = true := by decide +kernel
def mX11_isPerson : gM := (yX11_isPerson, cX11_isPerson, 2, some .boolean, 1)
theorem okp_X11_isPerson : okP mX11_isPerson 1 := ⟨by decide +kernel, by decide +kernel, by decide +kernel⟩
theorem pl_X11_isPerson : plainName mX11_isPerson.1.cls = true := by decide +kernel
def mX11_isLayer : gM := (yX11_isLayer, cX11_isLayer, 2, some .boolean, 1)
theorem okp_X11_isLayer : okP mX11_isLayer 1 := ⟨by decide +kernel, by decide +kernel, by decide +kernel⟩
theorem pl_X11_isLayer : plainName mX11_isLayer.1.cls = true := by decide +kernel
def mX11_isTown : gM := (yX11_isTown, cX11_isTown, 1, some .boolean, 0)
theorem okp_X11_isTown : okP mX11_isTown 0 := ⟨by decide +kernel, by decide +kernel, by decide +kernel⟩
theorem pl_X11_isTown : plainName mX11_isTown.1.cls = true := by decide +kernel
def mX11_areThere : gM := (yX11_areThere, cX11_areThere, 2, some .boolean, 1)
theorem okp_X11_areThere : okP mX11_areThere 1 := ⟨by decide +kernel, by decide +kernel, by decide +kernel⟩
theorem pl_X11_areThere : plainName mX11_areThere.1.cls = true := by decide +kernel
def mX11_layersOf : gM := (yX11_layersOf, cX11_layersOf, 2, some .int, 0)
theorem okp_X11_layersOf : okP mX11_layersOf 1 := ⟨by decide +kernel, by decide +kernel, by decide +kernel⟩
theorem pl_X11_layersOf : plainName mX11_layersOf.1.cls = true := by decide +kernel
def mX11_isOn : gM := (yX11_isOn, cX11_isOn, 3, some .boolean, 1)
theorem okp_X11_isOn : okP mX11_isOn 2 := ⟨by decide +kernel, by decide +kernel, by decide +kernel⟩
theorem pl_X11_isOn : plainName mX11_isOn.1.cls = true := by decide +kernel
def mX11_on : gM := (yX11_on, cX11_on, 4, some .int, 0)
theorem okp_X11_on : okP mX11_on 2 := ⟨by decide +kernel, by decide +kernel, by decide +kernel⟩
theorem pl_X11_on : plainName mX11_on.1.cls = true := by decide +kernel
def mX11_many : gM := (yX11_many, cX11_many, 3, some .int, 0)
theorem okp_X11_many : okP mX11_many 1 := ⟨by decide +kernel, by decide +kernel, by decide +kernel⟩
theorem pl_X11_many : plainName mX11_many.1.cls = true := by decide +kernel
def mX11_lightOf : gM := (yX11_lightOf, cX11_lightOf, 2, some .int, 0)
theorem okp_X11_lightOf : okP mX11_lightOf 1 := ⟨by decide +kernel, by decide +kernel, by decide +kernel⟩
theorem pl_X11_lightOf : plainName mX11_lightOf.1.cls = true := by decide +kernel
def mX11_crowed : gM := (yX11_crowed, cX11_crowed, 4, some .int, 1)
theorem okp_X11_crowed : okP mX11_crowed 3 := ⟨by decide +kernel, by decide +kernel, by decide +kernel⟩
theorem pl_X11_crowed : plainName mX11_crowed.1.cls = true := by decide +kernel
def mX11_hears : gM := (yX11_hears, cX11_hears, 4, some .int, 0)
theorem okp_X11_hears : okP mX11_hears 1 := ⟨by decide +kernel, by decide +kernel, by decide +kernel⟩
theorem pl_X11_hears : plainName mX11_hears.1.cls = true := by decide +kernel
def mX11_sounds : gM := (yX11_sounds, cX11_sounds, 4, none, 2)
theorem okp_X11_sounds : okP mX11_sounds 1 := ⟨by decide +kernel, by decide +kernel, by decide +kernel⟩
theorem pl_X11_sounds : plainName mX11_sounds.1.cls = true := by decide +kernel
def mX11_goesOn : gM := (yX11_goesOn, cX11_goesOn, 3, none, 3)
theorem okp_X11_goesOn : okP mX11_goesOn 1 := ⟨by decide +kernel, by decide +kernel, by decide +kernel⟩
theorem pl_X11_goesOn : plainName mX11_goesOn.1.cls = true := by decide +kernel
def mX11_whoOn : gM := (yX11_whoOn, cX11_whoOn, 4, some .int, 2)
theorem okp_X11_whoOn : okP mX11_whoOn 1 := ⟨by decide +kernel, by decide +kernel, by decide +kernel⟩
theorem pl_X11_whoOn : plainName mX11_whoOn.1.cls = true := by decide +kernel
def mX11_anybody : gM := (yX11_anybody, cX11_anybody, 3, some .int, 1)
theorem okp_X11_anybody : okP mX11_anybody 0 := ⟨by decide +kernel, by decide +kernel, by decide +kernel⟩
theorem pl_X11_anybody : plainName mX11_anybody.1.cls = true := by decide +kernel
def mX11_meets : gM := (yX11_meets, cX11_meets, 4, some .int, 1)
theorem okp_X11_meets : okP mX11_meets 1 := ⟨by decide +kernel, by decide +kernel, by decide +kernel⟩
theorem pl_X11_meets : plainName mX11_meets.1.cls = true := by decide +kernel
def mX11_tornOnes : gM := (yX11_tornOnes, cX11_tornOnes, 3, some .int, 1)
theorem okp_X11_tornOnes : okP mX11_tornOnes 0 := ⟨by decide +kernel, by decide +kernel, by decide +kernel⟩
theorem pl_X11_tornOnes : plainName mX11_tornOnes.1.cls = true := by decide +kernel
def mX11_cover : gM := (yX11_cover, cX11_cover, 6, some .int, 2)
theorem okp_X11_cover : okP mX11_cover 0 := ⟨by decide +kernel, by decide +kernel, by decide +kernel⟩
theorem pl_X11_cover : plainName mX11_cover.1.cls = true := by decide +kernel
def mX11_fullest : gM := (yX11_fullest, cX11_fullest, 5, some .int, 3)
theorem okp_X11_fullest : okP mX11_fullest 0 := ⟨by decide +kernel, by decide +kernel, by decide +kernel⟩
theorem pl_X11_fullest : plainName mX11_fullest.1.cls = true := by decide +kernel
def mX11_feed : gM := (yX11_feed, cX11_feed, 2, some .int, 1)
theorem okp_X11_feed : okP mX11_feed 1 := ⟨by decide +kernel, by decide +kernel, by decide +kernel⟩
theorem pl_X11_feed : plainName mX11_feed.1.cls = true := by decide +kernel
def mX11_here : gM := (yX11_here, cX11_here, 1, some .int, 0)
theorem okp_X11_here : okP mX11_here 0 := ⟨by decide +kernel, by decide +kernel, by decide +kernel⟩
theorem pl_X11_here : plainName mX11_here.1.cls = true := by decide +kernel
def mX11_faults : gM := (yX11_faults, cX11_faults, 3, none, 0)
theorem okp_X11_faults : okP mX11_faults 2 := ⟨by decide +kernel, by decide +kernel, by decide +kernel⟩
theorem pl_X11_faults : plainName mX11_faults.1.cls = true := by decide +kernel
def mX11_number : gM := (yX11_number, cX11_number, 6, some .int, 1)
theorem okp_X11_number : okP mX11_number 2 := ⟨by decide +kernel, by decide +kernel, by decide +kernel⟩
theorem pl_X11_number : plainName mX11_number.1.cls = true := by decide +kernel
def mX11_ends : gM := (yX11_ends, cX11_ends, 1, none, 1)
theorem okp_X11_ends : okP mX11_ends 0 := ⟨by decide +kernel, by decide +kernel, by decide +kernel⟩
theorem pl_X11_ends : plainName mX11_ends.1.cls = true := by decide +kernel
def mX11_readDawns : gM := (yX11_readDawns, cX11_readDawns, 3, none, 2)
theorem okp_X11_readDawns : okP mX11_readDawns 0 := ⟨by decide +kernel, by decide +kernel, by decide +kernel⟩
theorem pl_X11_readDawns : plainName mX11_readDawns.1.cls = true := by decide +kernel
def mX11_readPerson : gM := (yX11_readPerson, cX11_readPerson, 2, none, 2)
theorem okp_X11_readPerson : okP mX11_readPerson 0 := ⟨by decide +kernel, by decide +kernel, by decide +kernel⟩
theorem pl_X11_readPerson : plainName mX11_readPerson.1.cls = true := by decide +kernel
def mX11_readClause : gM := (yX11_readClause, cX11_readClause, 5, none, 3)
theorem okp_X11_readClause : okP mX11_readClause 1 := ⟨by decide +kernel, by decide +kernel, by decide +kernel⟩
theorem pl_X11_readClause : plainName mX11_readClause.1.cls = true := by decide +kernel
def mX11_readAll : gM := (yX11_readAll, cX11_readAll, 2, none, 4)
theorem okp_X11_readAll : okP mX11_readAll 0 := ⟨by decide +kernel, by decide +kernel, by decide +kernel⟩
theorem pl_X11_readAll : plainName mX11_readAll.1.cls = true := by decide +kernel
def mX11_town : gM := (yX11_town, cX11_town, 2, some .int, 5)
theorem okp_X11_town : okP mX11_town 0 := ⟨by decide +kernel, by decide +kernel, by decide +kernel⟩
theorem pl_X11_town : plainName mX11_town.1.cls = true := by decide +kernel
def mX11_fault : gM := (yX11_fault, cX11_fault, 1, some .int, 0)
theorem okp_X11_fault : okP mX11_fault 0 := ⟨by decide +kernel, by decide +kernel, by decide +kernel⟩
theorem pl_X11_fault : plainName mX11_fault.1.cls = true := by decide +kernel
def mX11_told : gM := (yX11_told, cX11_told, 2, some .int, 4)
theorem okp_X11_told : okP mX11_told 1 := ⟨by decide +kernel, by decide +kernel, by decide +kernel⟩
theorem pl_X11_told : plainName mX11_told.1.cls = true := by decide +kernel
def mX11_person : gM := (yX11_person, cX11_person, 3, some .int, 2)
theorem okp_X11_person : okP mX11_person 2 := ⟨by decide +kernel, by decide +kernel, by decide +kernel⟩
theorem pl_X11_person : plainName mX11_person.1.cls = true := by decide +kernel
def mX11_onLayer : gM := (yX11_onLayer, cX11_onLayer, 2, some .int, 3)
theorem okp_X11_onLayer : okP mX11_onLayer 1 := ⟨by decide +kernel, by decide +kernel, by decide +kernel⟩
theorem pl_X11_onLayer : plainName mX11_onLayer.1.cls = true := by decide +kernel
def mX11_notes : gM := (yX11_notes, cX11_notes, 2, none, 0)
theorem okp_X11_notes : okP mX11_notes 0 := ⟨by decide +kernel, by decide +kernel, by decide +kernel⟩
theorem pl_X11_notes : plainName mX11_notes.1.cls = true := by decide +kernel
def mX11_dawn : gM := (yX11_dawn, cX11_dawn, 2, some .int, 4)
theorem okp_X11_dawn : okP mX11_dawn 1 := ⟨by decide +kernel, by decide +kernel, by decide +kernel⟩
theorem pl_X11_dawn : plainName mX11_dawn.1.cls = true := by decide +kernel
def mX11_crow : gM := (yX11_crow, cX11_crow, 2, some .int, 3)
theorem okp_X11_crow : okP mX11_crow 1 := ⟨by decide +kernel, by decide +kernel, by decide +kernel⟩
theorem pl_X11_crow : plainName mX11_crow.1.cls = true := by decide +kernel
def mX11_step : gM := (yX11_step, cX11_step, 4, some .int, 2)
theorem okp_X11_step : okP mX11_step 2 := ⟨by decide +kernel, by decide +kernel, by decide +kernel⟩
theorem pl_X11_step : plainName mX11_step.1.cls = true := by decide +kernel
def mX11_leave : gM := (yX11_leave, cX11_leave, 3, some .int, 2)
theorem okp_X11_leave : okP mX11_leave 2 := ⟨by decide +kernel, by decide +kernel, by decide +kernel⟩
theorem pl_X11_leave : plainName mX11_leave.1.cls = true := by decide +kernel
def mX11_ear : gM := (yX11_ear, cX11_ear, 4, some .int, 2)
theorem okp_X11_ear : okP mX11_ear 2 := ⟨by decide +kernel, by decide +kernel, by decide +kernel⟩
theorem pl_X11_ear : plainName mX11_ear.1.cls = true := by decide +kernel
def mX11_deed : gM := (yX11_deed, cX11_deed, 2, some .int, 2)
theorem okp_X11_deed : okP mX11_deed 1 := ⟨by decide +kernel, by decide +kernel, by decide +kernel⟩
theorem pl_X11_deed : plainName mX11_deed.1.cls = true := by decide +kernel
def mX11_wipe : gM := (yX11_wipe, cX11_wipe, 2, some .int, 1)
theorem okp_X11_wipe : okP mX11_wipe 0 := ⟨by decide +kernel, by decide +kernel, by decide +kernel⟩
theorem pl_X11_wipe : plainName mX11_wipe.1.cls = true := by decide +kernel
def mX11_draw : gM := (yX11_draw, cX11_draw, 2, some .int, 0)
theorem okp_X11_draw : okP mX11_draw 1 := ⟨by decide +kernel, by decide +kernel, by decide +kernel⟩
theorem pl_X11_draw : plainName mX11_draw.1.cls = true := by decide +kernel
def mX11_chances : gM := (yX11_chances, cX11_chances, 3, none, 3)
theorem okp_X11_chances : okP mX11_chances 0 := ⟨by decide +kernel, by decide +kernel, by decide +kernel⟩
theorem pl_X11_chances : plainName mX11_chances.1.cls = true := by decide +kernel
def mX11_drift : gM := (yX11_drift, cX11_drift, 3, some .int, 4)
theorem okp_X11_drift : okP mX11_drift 1 := ⟨by decide +kernel, by decide +kernel, by decide +kernel⟩
theorem pl_X11_drift : plainName mX11_drift.1.cls = true := by decide +kernel
def mX11_undo : gM := (yX11_undo, cX11_undo, 2, some .int, 0)
theorem okp_X11_undo : okP mX11_undo 0 := ⟨by decide +kernel, by decide +kernel, by decide +kernel⟩
theorem pl_X11_undo : plainName mX11_undo.1.cls = true := by decide +kernel
def mX11_asides : gM := (yX11_asides, cX11_asides, 2, none, 0)
theorem okp_X11_asides : okP mX11_asides 0 := ⟨by decide +kernel, by decide +kernel, by decide +kernel⟩
theorem pl_X11_asides : plainName mX11_asides.1.cls = true := by decide +kernel
def mX11_backs : gM := (yX11_backs, cX11_backs, 2, none, 0)
theorem okp_X11_backs : okP mX11_backs 0 := ⟨by decide +kernel, by decide +kernel, by decide +kernel⟩
theorem pl_X11_backs : plainName mX11_backs.1.cls = true := by decide +kernel
def mX11_layers : gM := (yX11_layers, cX11_layers, 4, some .int, 4)
theorem okp_X11_layers : okP mX11_layers 2 := ⟨by decide +kernel, by decide +kernel, by decide +kernel⟩
theorem pl_X11_layers : plainName mX11_layers.1.cls = true := by decide +kernel
def mX11_first : gM := (yX11_first, cX11_first, 4, some .int, 4)
theorem okp_X11_first : okP mX11_first 2 := ⟨by decide +kernel, by decide +kernel, by decide +kernel⟩
theorem pl_X11_first : plainName mX11_first.1.cls = true := by decide +kernel
def mX11_common : gM := (yX11_common, cX11_common, 4, some .int, 1)
theorem okp_X11_common : okP mX11_common 1 := ⟨by decide +kernel, by decide +kernel, by decide +kernel⟩
theorem pl_X11_common : plainName mX11_common.1.cls = true := by decide +kernel
def mX11_together : gM := (yX11_together, cX11_together, 3, some .int, 4)
theorem okp_X11_together : okP mX11_together 1 := ⟨by decide +kernel, by decide +kernel, by decide +kernel⟩
theorem pl_X11_together : plainName mX11_together.1.cls = true := by decide +kernel
def mX11_isAside : gM := (yX11_isAside, cX11_isAside, 3, some .boolean, 1)
theorem okp_X11_isAside : okP mX11_isAside 0 := ⟨by decide +kernel, by decide +kernel, by decide +kernel⟩
theorem pl_X11_isAside : plainName mX11_isAside.1.cls = true := by decide +kernel
def mX11_asNow : gM := (yX11_asNow, cX11_asNow, 3, some .int, 4)
theorem okp_X11_asNow : okP mX11_asNow 0 := ⟨by decide +kernel, by decide +kernel, by decide +kernel⟩
theorem pl_X11_asNow : plainName mX11_asNow.1.cls = true := by decide +kernel
def mX11_crowsTogether : gM := (yX11_crowsTogether, cX11_crowsTogether, 6, some .boolean, 3)
theorem okp_X11_crowsTogether : okP mX11_crowsTogether 3 := ⟨by decide +kernel, by decide +kernel, by decide +kernel⟩
theorem pl_X11_crowsTogether : plainName mX11_crowsTogether.1.cls = true := by decide +kernel
def mX11_figures : gM := (yX11_figures, cX11_figures, 6, some .int, 0)
theorem okp_X11_figures : okP mX11_figures 2 := ⟨by decide +kernel, by decide +kernel, by decide +kernel⟩
theorem pl_X11_figures : plainName mX11_figures.1.cls = true := by decide +kernel
def mX11_crows : gM := (yX11_crows, cX11_crows, 6, some .int, 4)
theorem okp_X11_crows : okP mX11_crows 2 := ⟨by decide +kernel, by decide +kernel, by decide +kernel⟩
theorem pl_X11_crows : plainName mX11_crows.1.cls = true := by decide +kernel
def mX11_know : gM := (yX11_know, cX11_know, 7, some .int, 2)
theorem okp_X11_know : okP mX11_know 2 := ⟨by decide +kernel, by decide +kernel, by decide +kernel⟩
theorem pl_X11_know : plainName mX11_know.1.cls = true := by decide +kernel
def mX11_markets : gM := (yX11_markets, cX11_markets, 7, none, 2)
theorem okp_X11_markets : okP mX11_markets 0 := ⟨by decide +kernel, by decide +kernel, by decide +kernel⟩
theorem pl_X11_markets : plainName mX11_markets.1.cls = true := by decide +kernel
def mX11_market : gM := (yX11_market, cX11_market, 7, some .int, 3)
theorem okp_X11_market : okP mX11_market 1 := ⟨by decide +kernel, by decide +kernel, by decide +kernel⟩
theorem pl_X11_market : plainName mX11_market.1.cls = true := by decide +kernel
def mX11_torn : gM := (yX11_torn, cX11_torn, 3, some .int, 3)
theorem okp_X11_torn : okP mX11_torn 2 := ⟨by decide +kernel, by decide +kernel, by decide +kernel⟩
theorem pl_X11_torn : plainName mX11_torn.1.cls = true := by decide +kernel
def mX11_dark : gM := (yX11_dark, cX11_dark, 6, some .int, 1)
theorem okp_X11_dark : okP mX11_dark 2 := ⟨by decide +kernel, by decide +kernel, by decide +kernel⟩
theorem pl_X11_dark : plainName mX11_dark.1.cls = true := by decide +kernel
def mX11_shadow : gM := (yX11_shadow, cX11_shadow, 3, some .int, 1)
theorem okp_X11_shadow : okP mX11_shadow 2 := ⟨by decide +kernel, by decide +kernel, by decide +kernel⟩
theorem pl_X11_shadow : plainName mX11_shadow.1.cls = true := by decide +kernel
def mX11_goes : gM := (yX11_goes, cX11_goes, 4, some .int, 0)
theorem okp_X11_goes : okP mX11_goes 2 := ⟨by decide +kernel, by decide +kernel, by decide +kernel⟩
theorem pl_X11_goes : plainName mX11_goes.1.cls = true := by decide +kernel
def mX11_isSo : gM := (yX11_isSo, cX11_isSo, 4, some .boolean, 1)
theorem okp_X11_isSo : okP mX11_isSo 1 := ⟨by decide +kernel, by decide +kernel, by decide +kernel⟩
theorem pl_X11_isSo : plainName mX11_isSo.1.cls = true := by decide +kernel
def mX11_watch : gM := (yX11_watch, cX11_watch, 9, some .int, 2)
theorem okp_X11_watch : okP mX11_watch 0 := ⟨by decide +kernel, by decide +kernel, by decide +kernel⟩
theorem pl_X11_watch : plainName mX11_watch.1.cls = true := by decide +kernel
def mX11_is : gM := (yX11_is, cX11_is, 5, some .int, 3)
theorem okp_X11_is : okP mX11_is 1 := ⟨by decide +kernel, by decide +kernel, by decide +kernel⟩
theorem pl_X11_is : plainName mX11_is.1.cls = true := by decide +kernel
def mX11_met : gM := (yX11_met, cX11_met, 4, some .int, 2)
theorem okp_X11_met : okP mX11_met 3 := ⟨by decide +kernel, by decide +kernel, by decide +kernel⟩
theorem pl_X11_met : plainName mX11_met.1.cls = true := by decide +kernel
def mX11_fits : gM := (yX11_fits, cX11_fits, 6, some .boolean, 0)
theorem okp_X11_fits : okP mX11_fits 1 := ⟨by decide +kernel, by decide +kernel, by decide +kernel⟩
theorem pl_X11_fits : plainName mX11_fits.1.cls = true := by decide +kernel
def mX11_fitsOn : gM := (yX11_fitsOn, cX11_fitsOn, 5, some .boolean, 1)
theorem okp_X11_fitsOn : okP mX11_fitsOn 1 := ⟨by decide +kernel, by decide +kernel, by decide +kernel⟩
theorem pl_X11_fitsOn : plainName mX11_fitsOn.1.cls = true := by decide +kernel
def mX11_explained : gM := (yX11_explained, cX11_explained, 3, some .int, 2)
theorem okp_X11_explained : okP mX11_explained 0 := ⟨by decide +kernel, by decide +kernel, by decide +kernel⟩
theorem pl_X11_explained : plainName mX11_explained.1.cls = true := by decide +kernel
def mX11_write : gM := (yX11_write, cX11_write, 4, some .int, 2)
theorem okp_X11_write : okP mX11_write 3 := ⟨by decide +kernel, by decide +kernel, by decide +kernel⟩
theorem pl_X11_write : plainName mX11_write.1.cls = true := by decide +kernel
def mX11_tear : gM := (yX11_tear, cX11_tear, 2, some .int, 0)
theorem okp_X11_tear : okP mX11_tear 0 := ⟨by decide +kernel, by decide +kernel, by decide +kernel⟩
theorem pl_X11_tear : plainName mX11_tear.1.cls = true := by decide +kernel
def mX11_judge : gM := (yX11_judge, cX11_judge, 4, some .int, 2)
theorem okp_X11_judge : okP mX11_judge 0 := ⟨by decide +kernel, by decide +kernel, by decide +kernel⟩
theorem pl_X11_judge : plainName mX11_judge.1.cls = true := by decide +kernel
def mX11_seed : gM := (yX11_seed, cX11_seed, 3, some .int, 0)
theorem okp_X11_seed : okP mX11_seed 1 := ⟨by decide +kernel, by decide +kernel, by decide +kernel⟩
theorem pl_X11_seed : plainName mX11_seed.1.cls = true := by decide +kernel
def mX11_keep : gM := (yX11_keep, cX11_keep, 3, some .int, 1)
theorem okp_X11_keep : okP mX11_keep 1 := ⟨by decide +kernel, by decide +kernel, by decide +kernel⟩
theorem pl_X11_keep : plainName mX11_keep.1.cls = true := by decide +kernel
def mX11_goBack : gM := (yX11_goBack, cX11_goBack, 3, some .int, 1)
theorem okp_X11_goBack : okP mX11_goBack 1 := ⟨by decide +kernel, by decide +kernel, by decide +kernel⟩
theorem pl_X11_goBack : plainName mX11_goBack.1.cls = true := by decide +kernel
def mJ6_bitCount_0f7a4 : gM := (yJ6_bitCount_0f7a4, cJ6_bitCount_0f7a4, 1, some .int, 0)
theorem okp_J6_bitCount_0f7a4 : okP mJ6_bitCount_0f7a4 1 := ⟨by decide +kernel, by decide +kernel, by decide +kernel⟩
theorem pl_J6_bitCount_0f7a4 : plainName mJ6_bitCount_0f7a4.1.cls = true := by decide +kernel
