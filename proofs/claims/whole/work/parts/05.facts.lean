/-! words of the tables, by their places (wip/whole/gen3.py) -/
def zcnL : List String := [RX0, RX1, RX2, RX3, RX4, RX5, RX6, RX7, RX8, RX9, RX10]
def zctL : List u_T := [TX0, TX1, TX2, TX3, TX4, TX5, TX6, TX7, TX8, TX9, TX10]
def zcn (c : Nat) : String := zcnL.getD c RX0
def zct (c : Nat) : u_T := zctL.getD c TX0
def zflW (e : Nat × (Nat × (Nat × Nat))) : Cond := .fieldLink (zcn e.1) e.2.1 (zcn e.2.2.1) (zct e.2.2.1 e.2.2.2).2.1 (zct e.2.2.1 e.2.2.2).2.2.1
def zmlW (e : Nat × (Nat × (Nat × Nat))) : List Cond := match e.2.2.1 with
  | 0 => [.methodLink (zcn e.1) e.2.1 (zmt e.2.2.2).1, .instanceMethod (zmt e.2.2.2).1, .selects (zmt e.2.2.2).1.cls (zmt e.2.2.2).1 (zmt e.2.2.2).1, .initialized (zmt e.2.2.2).1.cls]
  | 1 => [.methodLink (zcn e.1) e.2.1 (zmt e.2.2.2).1, .static (zmt e.2.2.2).1, .initialized (zmt e.2.2.2).1.cls]
  | 3 => [.methodLink (zcn e.1) e.2.1 yJ0_length_8abf5]
  | 4 => [.methodLink (zcn e.1) e.2.1 yJ0_charAt_5068e]
  | 5 => [.methodLink (zcn e.1) e.2.1 Lib.Math.max.name]
  | 6 => [.methodLink (zcn e.1) e.2.1 Lib.Math.min.name]
  | _ => [.methodLink (zcn e.1) e.2.1 arraycopyName]
def zmcW (q : MethodName × (ByteArray × (Nat × Option FieldType))) : List Cond := [.initialized q.1.cls]
def zmkW (q : MethodName × (ByteArray × (Nat × Option FieldType))) : Cond := .code q.1 q.2.1 q.2.2.1 q.2.2.2
def zpk (ps : List Nat) (ws : List Cond) : Bool := decide (ps.map (fun i => lw_tbl[i]?) = ws.map some) && ws.all goodWord
def zpkL : List (List Nat) → List (List Cond) → Bool
  | [], [] => true
  | p :: ps, w :: ws => zpk p w && zpkL ps ws
  | _, _ => false
theorem zpk_in {ps : List Nat} {ws : List Cond} (h : zpk ps ws = true) : ∀ w ∈ ws, w ∈ lw_tbl ∧ goodWord w = true := by
  intro w hw
  rw [zpk, Bool.and_eq_true] at h
  have h1 := of_decide_eq_true h.1
  have h2 : some w ∈ ws.map some := List.mem_map.mpr ⟨w, hw, rfl⟩
  rw [← h1] at h2
  obtain ⟨i, -, hi⟩ := List.mem_map.mp h2
  exact ⟨List.mem_of_getElem? hi, List.all_eq_true.mp h.2 w hw⟩
theorem zpkL_in : ∀ {ps : List (List Nat)} {ws : List (List Cond)}, zpkL ps ws = true → ∀ l ∈ ws, ∀ w ∈ l, w ∈ lw_tbl ∧ goodWord w = true
  | [], [], _, l, hl => absurd hl List.not_mem_nil
  | p :: ps, w :: ws, h, l, hl => by
    rw [zpkL, Bool.and_eq_true] at h
    rcases List.mem_cons.mp hl with e | e
    · rw [e]; exact zpk_in h.1
    · exact zpkL_in h.2 l e
  | [], _ :: _, h, _, _ => by cases h
  | _ :: _, [], h, _, _ => by cases h
def zflP : List Nat := [326, 328, 330, 331, 332, 116, 120, 195, 197, 200, 202, 204, 206, 208, 840, 841, 848, 849, 859, 860, 844, 845, 846, 843, 847, 850, 851, 853, 855, 852, 856, 857, 858, 854, 861, 863, 862, 864, 842, 163, 165, 286, 288, 290, 292, 293, 294, 295, 296, 297, 298, 198, 209, 135, 138, 130, 125, 118, 122, 133, 115, 119, 123, 126, 128, 131, 134, 137, 262, 264, 265, 266, 99, 101, 240, 241, 242, 243, 244, 245, 246, 178, 180, 182, 184, 98, 100, 345, 346, 347, 348, 349, 350, 351, 352, 196, 102, 207, 263, 199, 117, 121, 124, 127, 129, 132, 201, 166, 164, 210, 136, 287, 291, 289, 139, 203, 205, 185, 179, 181, 183, 329, 327]
def zmlP : List (List Nat) := [[767, 769, 25, 70], [775, 777, 26, 70], [784, 786, 27, 70], [779, 764, 765, 70], [788, 772, 773, 70], [810, 811, 812, 63], [815, 816, 817, 64], [820, 643, 644, 65], [821, 822, 823, 66], [654], [613, 587, 588, 68], [614, 591, 592, 64], [615, 539, 540, 68], [616, 543, 544, 68], [617, 619, 17, 69], [635], [642, 643, 644, 65], [646, 648, 20, 69], [730, 575, 576, 65], [650, 651, 652, 65], [621, 623, 18, 69], [625, 626, 69], [628, 630, 19, 69], [632, 633, 69], [819], [387], [390, 391, 392, 68], [394, 396, 0, 67], [459, 461, 4, 67], [402, 404, 2, 67], [411], [421], [398, 400, 1, 67], [466, 468, 5, 67], [470, 472, 6, 67], [492, 493, 494, 68], [407, 409, 3, 67], [474, 476, 7, 67], [488, 489, 490, 68], [478, 480, 8, 67], [483, 485, 9, 67], [500], [546, 548, 12, 68], [550, 552, 13, 68], [825], [814], [375, 376, 377, 63], [383, 384, 385, 67], [496, 497, 498, 68], [508, 509, 61], [511, 512, 61], [514, 515, 516, 64], [522, 523, 524, 64], [526, 527, 528, 64], [530, 532, 10, 61], [562, 563, 564, 64], [574, 575, 576, 65], [582, 584, 14, 61], [534, 536, 11, 61], [586, 587, 588, 68], [590, 591, 592, 64], [594, 596, 15, 61], [602, 603, 61], [605, 607, 16, 61], [655, 643, 644, 65], [656, 657, 658, 69], [668, 670, 21, 61], [676, 678, 22, 61], [684, 685, 686, 64], [692, 694, 23, 61], [700, 701, 61], [711, 712, 61], [722, 724, 24, 61], [736, 737, 61], [755, 756, 757, 70], [759, 760, 761, 70], [763, 764, 765, 70], [771, 772, 773, 70], [780, 781, 782, 70], [797, 798, 64], [806, 807, 808, 62], [538, 539, 540, 68], [542, 543, 544, 68], [609, 610, 611, 69], [638, 639, 640, 69], [726, 727, 728, 69], [714, 715, 716, 66], [922, 923, 71], [933, 935, 29, 71], [946], [947], [948, 950, 32, 71], [970, 972, 37, 71], [974, 976, 38, 71], [962, 964, 35, 71], [979, 981, 39, 71], [952, 954, 33, 71], [966, 968, 36, 71], [942, 944, 31, 71], [938, 940, 30, 71], [958, 960, 34, 71], [929, 931, 28, 71], [1008, 1010, 43, 71], [1004, 1006, 42, 71], [989, 990, 71], [996, 998, 40, 71], [1000, 1002, 41, 71], [1032, 1034, 44, 71], [1036, 1038, 45, 71], [1059, 1061, 49, 71], [1055, 1057, 48, 71], [1063, 1065, 50, 71], [1051, 1053, 47, 71], [1044, 1045, 71], [1047, 1049, 46, 71], [1096, 1098, 51, 71], [1108, 1110, 52, 71], [1118, 1119, 71], [1145, 1147, 54, 71], [1142, 1143, 71], [1149, 1151, 55, 71], [1138, 1140, 53, 71], [1157, 1159, 57, 71], [1153, 1155, 56, 71], [1165, 1167, 59, 71], [1161, 1163, 58, 71]]
def zmcP : List (List Nat) := [[70], [70], [70], [70], [70], [70], [70], [70], [70], [62], [62], [65], [65], [65], [65], [69], [69], [69], [69], [69], [69], [69], [69], [69], [69], [69], [64], [64], [64], [64], [64], [64], [64], [64], [64], [67], [67], [67], [67], [67], [67], [67], [67], [67], [67], [67], [67], [68], [68], [68], [68], [68], [68], [68], [68], [68], [68], [66], [66], [66], [63], [63], [63], [61], [61], [61], [61], [61], [61], [61], [61], [61], [61], [61], [61], [61], [61], [61], [61], [61], [61], [61], [61], [61], [61], [61], [61], [61], [61], [61], [61], [61], [61], [61], [61], [61], [61], [61], [61], [61], [61], [61], [61], [61], [61], [61], [61], [61], [71], [71], [71], [71], [71], [71], [71], [71], [71], [71], [71], [71], [71], [71], [71], [71], [71], [71], [71], [71], [71], [71], [71], [71], [71], [71], [71], [71], [71], [71], [71], [71], [71], [71], [71], [71], [71], [71], [71], [71], [71], [71], [71], [71], [71], [71], [71], [71], [71], [71], [71], [71], [71], [71], [71], [71], [71], [71], [71], [71], [71], [71], [71], [71], [71], [71], [71]]
theorem zt_1 : ∀ w ∈ tables_1_1, w ∈ lw_tbl := fun w h => List.mem_append_right _ (List.mem_append_left _ h)
theorem zt_2 : ∀ w ∈ tables_1_2, w ∈ lw_tbl := fun w h => List.mem_append_right _ (List.mem_append_right _ (List.mem_append_left _ h))
theorem zt_3 : ∀ w ∈ tables_1_3, w ∈ lw_tbl := fun w h => List.mem_append_right _ (List.mem_append_right _ (List.mem_append_right _ (List.mem_append_left _ h)))
theorem zt_4 : ∀ w ∈ tables_1_4, w ∈ lw_tbl := fun w h => List.mem_append_right _ (List.mem_append_right _ (List.mem_append_right _ (List.mem_append_right _ (List.mem_append_left _ h))))
theorem zt_5 : ∀ w ∈ tables_1_5, w ∈ lw_tbl := fun w h => List.mem_append_right _ (List.mem_append_right _ (List.mem_append_right _ (List.mem_append_right _ (List.mem_append_right _ h))))
set_option maxRecDepth 100000 in
theorem zmk_0 : zmkW (yX0_init, cX0_init, 1, none) ∈ lw_tbl := zt_2 _ (List.mem_of_getElem? (i := 24) rfl)
set_option maxRecDepth 100000 in
theorem zmk_1 : zmkW (yX0_clear, cX0_clear, 1, none) ∈ lw_tbl := zt_3 _ (List.mem_of_getElem? (i := 218) rfl)
set_option maxRecDepth 100000 in
theorem zmk_2 : zmkW (yX0_take, cX0_take, 3, none) ∈ lw_tbl := zt_3 _ (List.mem_of_getElem? (i := 222) rfl)
set_option maxRecDepth 100000 in
theorem zmk_3 : zmkW (yX0_begin, cX0_begin, 2, none) ∈ lw_tbl := zt_3 _ (List.mem_of_getElem? (i := 230) rfl)
set_option maxRecDepth 100000 in
theorem zmk_4 : zmkW (yX0_gives, cX0_gives, 2, some .int) ∈ lw_tbl := zt_3 _ (List.mem_of_getElem? (i := 226) rfl)
set_option maxRecDepth 100000 in
theorem zmk_5 : zmkW (yX0_takes, cX0_takes, 2, some .int) ∈ lw_tbl := zt_3 _ (List.mem_of_getElem? (i := 234) rfl)
set_option maxRecDepth 100000 in
theorem zmk_6 : zmkW (yX0_tells, cX0_tells, 2, some .int) ∈ lw_tbl := zt_4 _ (List.mem_of_getElem? (i := 3) rfl)
set_option maxRecDepth 100000 in
theorem zmk_7 : zmkW (yX0_takesAtTop, cX0_takesAtTop, 2, some .int) ∈ lw_tbl := zt_3 _ (List.mem_of_getElem? (i := 238) rfl)
set_option maxRecDepth 100000 in
theorem zmk_8 : zmkW (yX0_tellsAtTop, cX0_tellsAtTop, 2, some .int) ∈ lw_tbl := zt_4 _ (List.mem_of_getElem? (i := 7) rfl)
set_option maxRecDepth 100000 in
theorem zmk_9 : zmkW (yX1_init, cX1_init, 1, none) ∈ lw_tbl := zt_1 _ (List.mem_of_getElem? (i := 30) rfl)
set_option maxRecDepth 100000 in
theorem zmk_10 : zmkW (yX1_copyFrom, cX1_copyFrom, 2, none) ∈ lw_tbl := zt_4 _ (List.mem_of_getElem? (i := 29) rfl)
set_option maxRecDepth 100000 in
theorem zmk_11 : zmkW (yX2_init, cX2_init, 1, none) ∈ lw_tbl := zt_1 _ (List.mem_of_getElem? (i := 101) rfl)
set_option maxRecDepth 100000 in
theorem zmk_12 : zmkW (yX2_renew, cX2_renew, 1, none) ∈ lw_tbl := zt_3 _ (List.mem_of_getElem? (i := 37) rfl)
set_option maxRecDepth 100000 in
theorem zmk_13 : zmkW (yX2_land, cX2_land, 4, none) ∈ lw_tbl := zt_3 _ (List.mem_of_getElem? (i := 113) rfl)
set_option maxRecDepth 100000 in
theorem zmk_14 : zmkW (yX2_copyFrom, cX2_copyFrom, 2, none) ∈ lw_tbl := zt_3 _ (List.mem_of_getElem? (i := 105) rfl)
set_option maxRecDepth 100000 in
theorem zmk_15 : zmkW (yX3_init, cX3_init, 1, none) ∈ lw_tbl := zt_1 _ (List.mem_of_getElem? (i := 220) rfl)
set_option maxRecDepth 100000 in
theorem zmk_16 : zmkW (yX3_happen, cX3_happen, 9, none) ∈ lw_tbl := zt_3 _ (List.mem_of_getElem? (i := 72) rfl)
set_option maxRecDepth 100000 in
theorem zmk_17 : zmkW (yX3_force, cX3_force, 1, some .int) ∈ lw_tbl := zt_3 _ (List.mem_of_getElem? (i := 119) rfl)
set_option maxRecDepth 100000 in
theorem zmk_18 : zmkW (yX3_meet, cX3_meet, 3, none) ∈ lw_tbl := zt_3 _ (List.mem_of_getElem? (i := 101) rfl)
set_option maxRecDepth 100000 in
theorem zmk_19 : zmkW (yX3_meetNew, cX3_meetNew, 2, none) ∈ lw_tbl := zt_3 _ (List.mem_of_getElem? (i := 189) rfl)
set_option maxRecDepth 100000 in
theorem zmk_20 : zmkW (yX3_landAll, cX3_landAll, 2, none) ∈ lw_tbl := zt_3 _ (List.mem_of_getElem? (i := 109) rfl)
set_option maxRecDepth 100000 in
theorem zmk_21 : zmkW (yX3_goThrough, cX3_goThrough, 6, some .int) ∈ lw_tbl := zt_3 _ (List.mem_of_getElem? (i := 80) rfl)
set_option maxRecDepth 100000 in
theorem zmk_22 : zmkW (yX3_takenBy, cX3_takenBy, 4, some .int) ∈ lw_tbl := zt_3 _ (List.mem_of_getElem? (i := 84) rfl)
set_option maxRecDepth 100000 in
theorem zmk_23 : zmkW (yX3_crumpled, cX3_crumpled, 2, some .int) ∈ lw_tbl := zt_3 _ (List.mem_of_getElem? (i := 87) rfl)
set_option maxRecDepth 100000 in
theorem zmk_24 : zmkW (yX3_hung, cX3_hung, 2, some .int) ∈ lw_tbl := zt_3 _ (List.mem_of_getElem? (i := 94) rfl)
set_option maxRecDepth 100000 in
theorem zmk_25 : zmkW (yX3_standing, cX3_standing, 5, some .int) ∈ lw_tbl := zt_3 _ (List.mem_of_getElem? (i := 91) rfl)
set_option maxRecDepth 100000 in
theorem zmk_26 : zmkW (yX4_init, cX4_init, 1, none) ∈ lw_tbl := zt_1 _ (List.mem_of_getElem? (i := 53) rfl)
set_option maxRecDepth 100000 in
theorem zmk_27 : zmkW (yX4_isUnder, cX4_isUnder, 4, some .boolean) ∈ lw_tbl := zt_4 _ (List.mem_of_getElem? (i := 19) rfl)
set_option maxRecDepth 100000 in
theorem zmk_28 : zmkW (yX4_has, cX4_has, 2, some .boolean) ∈ lw_tbl := zt_2 _ (List.mem_of_getElem? (i := 225) rfl)
set_option maxRecDepth 100000 in
theorem zmk_29 : zmkW (yX4_isBroken, cX4_isBroken, 2, some .boolean) ∈ lw_tbl := zt_2 _ (List.mem_of_getElem? (i := 229) rfl)
set_option maxRecDepth 100000 in
theorem zmk_30 : zmkW (yX4_allBits, cX4_allBits, 1, some .int) ∈ lw_tbl := zt_3 _ (List.mem_of_getElem? (i := 147) rfl)
set_option maxRecDepth 100000 in
theorem zmk_31 : zmkW (yX4_add, cX4_add, 7, some .int) ∈ lw_tbl := zt_2 _ (List.mem_of_getElem? (i := 217) rfl)
set_option maxRecDepth 100000 in
theorem zmk_32 : zmkW (yX4_mark, cX4_mark, 3, none) ∈ lw_tbl := zt_3 _ (List.mem_of_getElem? (i := 25) rfl)
set_option maxRecDepth 100000 in
theorem zmk_33 : zmkW (yX4_weightWithout, cX4_weightWithout, 4, some .int) ∈ lw_tbl := zt_3 _ (List.mem_of_getElem? (i := 53) rfl)
set_option maxRecDepth 100000 in
theorem zmk_34 : zmkW (yX4_copyFrom, cX4_copyFrom, 2, none) ∈ lw_tbl := zt_4 _ (List.mem_of_getElem? (i := 38) rfl)
set_option maxRecDepth 100000 in
theorem zmk_35 : zmkW (yX5_init, cX5_init, 1, none) ∈ lw_tbl := zt_1 _ (List.mem_of_getElem? (i := 172) rfl)
set_option maxRecDepth 100000 in
theorem zmk_36 : zmkW (yX5_read, cX5_read, 3, some .int) ∈ lw_tbl := zt_2 _ (List.mem_of_getElem? (i := 86) rfl)
set_option maxRecDepth 100000 in
theorem zmk_37 : zmkW (yX5_next, cX5_next, 1, some .int) ∈ lw_tbl := zt_2 _ (List.mem_of_getElem? (i := 105) rfl)
set_option maxRecDepth 100000 in
theorem zmk_38 : zmkW (yX5_pass, cX5_pass, 2, some .boolean) ∈ lw_tbl := zt_2 _ (List.mem_of_getElem? (i := 162) rfl)
set_option maxRecDepth 100000 in
theorem zmk_39 : zmkW (yX5_passAll, cX5_passAll, 3, some .boolean) ∈ lw_tbl := zt_2 _ (List.mem_of_getElem? (i := 110) rfl)
set_option maxRecDepth 100000 in
theorem zmk_40 : zmkW (yX5_readClause, cX5_readClause, 4, some .boolean) ∈ lw_tbl := zt_2 _ (List.mem_of_getElem? (i := 97) rfl)
set_option maxRecDepth 100000 in
theorem zmk_41 : zmkW (yX5_readWord, cX5_readWord, 1, some .int) ∈ lw_tbl := zt_2 _ (List.mem_of_getElem? (i := 101) rfl)
set_option maxRecDepth 100000 in
theorem zmk_42 : zmkW (yX5_readNumber, cX5_readNumber, 3, some .int) ∈ lw_tbl := zt_2 _ (List.mem_of_getElem? (i := 169) rfl)
set_option maxRecDepth 100000 in
theorem zmk_43 : zmkW (yX5_readAny, cX5_readAny, 4, some .boolean) ∈ lw_tbl := zt_2 _ (List.mem_of_getElem? (i := 173) rfl)
set_option maxRecDepth 100000 in
theorem zmk_44 : zmkW (yX5_readOne, cX5_readOne, 3, some .boolean) ∈ lw_tbl := zt_2 _ (List.mem_of_getElem? (i := 177) rfl)
set_option maxRecDepth 100000 in
theorem zmk_45 : zmkW (yX5_readTest, cX5_readTest, 4, some .boolean) ∈ lw_tbl := zt_2 _ (List.mem_of_getElem? (i := 181) rfl)
set_option maxRecDepth 100000 in
theorem zmk_46 : zmkW (yX5_readOneOf, cX5_readOneOf, 4, some .int) ∈ lw_tbl := zt_2 _ (List.mem_of_getElem? (i := 186) rfl)
set_option maxRecDepth 100000 in
theorem zmk_47 : zmkW (yX6_init, cX6_init, 1, none) ∈ lw_tbl := zt_1 _ (List.mem_of_getElem? (i := 178) rfl)
set_option maxRecDepth 100000 in
theorem zmk_48 : zmkW (yX6_clear, cX6_clear, 1, none) ∈ lw_tbl := zt_2 _ (List.mem_of_getElem? (i := 93) rfl)
set_option maxRecDepth 100000 in
theorem zmk_49 : zmkW (yX6_copyFrom, cX6_copyFrom, 2, none) ∈ lw_tbl := zt_2 _ (List.mem_of_getElem? (i := 199) rfl)
set_option maxRecDepth 100000 in
theorem zmk_50 : zmkW (yX6_addStep, cX6_addStep, 2, none) ∈ lw_tbl := zt_2 _ (List.mem_of_getElem? (i := 191) rfl)
set_option maxRecDepth 100000 in
theorem zmk_51 : zmkW (yX6_addClause, cX6_addClause, 3, none) ∈ lw_tbl := zt_2 _ (List.mem_of_getElem? (i := 195) rfl)
set_option maxRecDepth 100000 in
theorem zmk_52 : zmkW (yX6_last, cX6_last, 5, some .int) ∈ lw_tbl := zt_3 _ (List.mem_of_getElem? (i := 49) rfl)
set_option maxRecDepth 100000 in
theorem zmk_53 : zmkW (yX6_setTest, cX6_setTest, 6, none) ∈ lw_tbl := zt_3 _ (List.mem_of_getElem? (i := 1) rfl)
set_option maxRecDepth 100000 in
theorem zmk_54 : zmkW (yX6_sum, cX6_sum, 5, some .int) ∈ lw_tbl := zt_3 _ (List.mem_of_getElem? (i := 5) rfl)
set_option maxRecDepth 100000 in
theorem zmk_55 : zmkW (yX6_holds, cX6_holds, 7, some .boolean) ∈ lw_tbl := zt_3 _ (List.mem_of_getElem? (i := 9) rfl)
set_option maxRecDepth 100000 in
theorem zmk_56 : zmkW (yX6_passes, cX6_passes, 5, some .boolean) ∈ lw_tbl := zt_3 _ (List.mem_of_getElem? (i := 13) rfl)
set_option maxRecDepth 100000 in
theorem zmk_57 : zmkW (yX7_init, cX7_init, 1, none) ∈ lw_tbl := zt_1 _ (List.mem_of_getElem? (i := 116) rfl)
set_option maxRecDepth 100000 in
theorem zmk_58 : zmkW (yX7_add, cX7_add, 4, some .boolean) ∈ lw_tbl := zt_3 _ (List.mem_of_getElem? (i := 177) rfl)
set_option maxRecDepth 100000 in
theorem zmk_59 : zmkW (yX7_copyFrom, cX7_copyFrom, 2, none) ∈ lw_tbl := zt_4 _ (List.mem_of_getElem? (i := 44) rfl)
set_option maxRecDepth 100000 in
theorem zmk_60 : zmkW (yX8_init, cX8_init, 1, none) ∈ lw_tbl := zt_1 _ (List.mem_of_getElem? (i := 36) rfl)
set_option maxRecDepth 100000 in
theorem zmk_61 : zmkW (yX8_put, cX8_put, 2, some .boolean) ∈ lw_tbl := zt_2 _ (List.mem_of_getElem? (i := 78) rfl)
set_option maxRecDepth 100000 in
theorem zmk_62 : zmkW (yX8_copyFrom, cX8_copyFrom, 2, none) ∈ lw_tbl := zt_4 _ (List.mem_of_getElem? (i := 33) rfl)
set_option maxRecDepth 100000 in
theorem zmk_63 : zmkW (yX9_init, cX9_init, 2, none) ∈ lw_tbl := zt_1 _ (List.mem_of_getElem? (i := 22) rfl)
set_option maxRecDepth 100000 in
theorem zmk_64 : zmkW (yX9_feed, cX9_feed, 2, some .int) ∈ lw_tbl := zt_2 _ (List.mem_of_getElem? (i := 74) rfl)
set_option maxRecDepth 100000 in
theorem zmk_65 : zmkW (yX9_school, cX9_school, 3, some .int) ∈ lw_tbl := zt_2 _ (List.mem_of_getElem? (i := 82) rfl)
set_option maxRecDepth 100000 in
theorem zmk_66 : zmkW (yX9_layer, cX9_layer, 6, some .int) ∈ lw_tbl := zt_2 _ (List.mem_of_getElem? (i := 207) rfl)
set_option maxRecDepth 100000 in
theorem zmk_67 : zmkW (yX9_of, cX9_of, 4, some .int) ∈ lw_tbl := zt_2 _ (List.mem_of_getElem? (i := 221) rfl)
set_option maxRecDepth 100000 in
theorem zmk_68 : zmkW (yX9_side, cX9_side, 4, some .int) ∈ lw_tbl := zt_3 _ (List.mem_of_getElem? (i := 17) rfl)
set_option maxRecDepth 100000 in
theorem zmk_69 : zmkW (yX9_broken, cX9_broken, 4, some .int) ∈ lw_tbl := zt_3 _ (List.mem_of_getElem? (i := 21) rfl)
set_option maxRecDepth 100000 in
theorem zmk_70 : zmkW (yX9_row, cX9_row, 7, some .int) ∈ lw_tbl := zt_3 _ (List.mem_of_getElem? (i := 29) rfl)
set_option maxRecDepth 100000 in
theorem zmk_71 : zmkW (yX9_egg, cX9_egg, 2, some .int) ∈ lw_tbl := zt_3 _ (List.mem_of_getElem? (i := 33) rfl)
set_option maxRecDepth 100000 in
theorem zmk_72 : zmkW (yX9_told, cX9_told, 2, some .int) ∈ lw_tbl := zt_3 _ (List.mem_of_getElem? (i := 41) rfl)
set_option maxRecDepth 100000 in
theorem zmk_73 : zmkW (yX9_drop, cX9_drop, 3, some .int) ∈ lw_tbl := zt_3 _ (List.mem_of_getElem? (i := 61) rfl)
set_option maxRecDepth 100000 in
theorem zmk_74 : zmkW (yX9_fall, cX9_fall, 4, some .int) ∈ lw_tbl := zt_3 _ (List.mem_of_getElem? (i := 123) rfl)
set_option maxRecDepth 100000 in
theorem zmk_75 : zmkW (yX9_highest, cX9_highest, 3, some .int) ∈ lw_tbl := zt_3 _ (List.mem_of_getElem? (i := 127) rfl)
set_option maxRecDepth 100000 in
theorem zmk_76 : zmkW (yX9_best, cX9_best, 7, some .int) ∈ lw_tbl := zt_3 _ (List.mem_of_getElem? (i := 135) rfl)
set_option maxRecDepth 100000 in
theorem zmk_77 : zmkW (yX9_lighter, cX9_lighter, 9, some .int) ∈ lw_tbl := zt_3 _ (List.mem_of_getElem? (i := 143) rfl)
set_option maxRecDepth 100000 in
theorem zmk_78 : zmkW (yX9_shift, cX9_shift, 7, some .int) ∈ lw_tbl := zt_3 _ (List.mem_of_getElem? (i := 151) rfl)
set_option maxRecDepth 100000 in
theorem zmk_79 : zmkW (yX9_tries, cX9_tries, 4, some .int) ∈ lw_tbl := zt_3 _ (List.mem_of_getElem? (i := 159) rfl)
set_option maxRecDepth 100000 in
theorem zmk_80 : zmkW (yX9_failed, cX9_failed, 5, some .int) ∈ lw_tbl := zt_3 _ (List.mem_of_getElem? (i := 166) rfl)
set_option maxRecDepth 100000 in
theorem zmk_81 : zmkW (yX9_see, cX9_see, 4, some .int) ∈ lw_tbl := zt_3 _ (List.mem_of_getElem? (i := 170) rfl)
set_option maxRecDepth 100000 in
theorem zmk_82 : zmkW (yX9_strong, cX9_strong, 4, some .int) ∈ lw_tbl := zt_3 _ (List.mem_of_getElem? (i := 181) rfl)
set_option maxRecDepth 100000 in
theorem zmk_83 : zmkW (yX9_odds, cX9_odds, 5, some .long) ∈ lw_tbl := zt_3 _ (List.mem_of_getElem? (i := 194) rfl)
set_option maxRecDepth 100000 in
theorem zmk_84 : zmkW (yX9_mean, cX9_mean, 5, some .long) ∈ lw_tbl := zt_3 _ (List.mem_of_getElem? (i := 202) rfl)
set_option maxRecDepth 100000 in
theorem zmk_85 : zmkW (yX9_book, cX9_book, 5, some .int) ∈ lw_tbl := zt_3 _ (List.mem_of_getElem? (i := 206) rfl)
set_option maxRecDepth 100000 in
theorem zmk_86 : zmkW (yX9_looked, cX9_looked, 3, some .int) ∈ lw_tbl := zt_3 _ (List.mem_of_getElem? (i := 210) rfl)
set_option maxRecDepth 100000 in
theorem zmk_87 : zmkW (yX9_act, cX9_act, 4, some .int) ∈ lw_tbl := zt_3 _ (List.mem_of_getElem? (i := 214) rfl)
set_option maxRecDepth 100000 in
theorem zmk_88 : zmkW (yX9_trace, cX9_trace, 2, some .int) ∈ lw_tbl := zt_4 _ (List.mem_of_getElem? (i := 12) rfl)
set_option maxRecDepth 100000 in
theorem zmk_89 : zmkW (yX9_as, cX9_as, 3, some .int) ∈ lw_tbl := zt_4 _ (List.mem_of_getElem? (i := 16) rfl)
set_option maxRecDepth 100000 in
theorem zmk_90 : zmkW (yX9_image, cX9_image, 1, some .int) ∈ lw_tbl := zt_4 _ (List.mem_of_getElem? (i := 25) rfl)
set_option maxRecDepth 100000 in
theorem zmk_91 : zmkW (yX9_undo, cX9_undo, 1, some .int) ∈ lw_tbl := zt_4 _ (List.mem_of_getElem? (i := 49) rfl)
set_option maxRecDepth 100000 in
theorem zmk_92 : zmkW (yX9_count, cX9_count, 2, some .int) ∈ lw_tbl := zt_4 _ (List.mem_of_getElem? (i := 53) rfl)
set_option maxRecDepth 100000 in
theorem zmk_93 : zmkW (yX9_isFloor, cX9_isFloor, 1, some .boolean) ∈ lw_tbl := zt_3 _ (List.mem_of_getElem? (i := 64) rfl)
set_option maxRecDepth 100000 in
theorem zmk_94 : zmkW (yX9_isSide, cX9_isSide, 1, some .boolean) ∈ lw_tbl := zt_2 _ (List.mem_of_getElem? (i := 213) rfl)
set_option maxRecDepth 100000 in
theorem zmk_95 : zmkW (yX9_isKind, cX9_isKind, 1, some .boolean) ∈ lw_tbl := zt_2 _ (List.mem_of_getElem? (i := 210) rfl)
set_option maxRecDepth 100000 in
theorem zmk_96 : zmkW (yX9_holding, cX9_holding, 2, some (.object "EggDrop$School")) ∈ lw_tbl := zt_2 _ (List.mem_of_getElem? (i := 237) rfl)
set_option maxRecDepth 100000 in
theorem zmk_97 : zmkW (yX9_bear, cX9_bear, 1, some .int) ∈ lw_tbl := zt_3 _ (List.mem_of_getElem? (i := 45) rfl)
set_option maxRecDepth 100000 in
theorem zmk_98 : zmkW (yX9_price, cX9_price, 4, some .int) ∈ lw_tbl := zt_2 _ (List.mem_of_getElem? (i := 233) rfl)
set_option maxRecDepth 100000 in
theorem zmk_99 : zmkW (yX9_prices, cX9_prices, 3, some .int) ∈ lw_tbl := zt_3 _ (List.mem_of_getElem? (i := 57) rfl)
set_option maxRecDepth 100000 in
theorem zmk_100 : zmkW (yX9_letFall, cX9_letFall, 5, none) ∈ lw_tbl := zt_3 _ (List.mem_of_getElem? (i := 68) rfl)
set_option maxRecDepth 100000 in
theorem zmk_101 : zmkW (yX9_staysWhole, cX9_staysWhole, 5, some .boolean) ∈ lw_tbl := zt_3 _ (List.mem_of_getElem? (i := 131) rfl)
set_option maxRecDepth 100000 in
theorem zmk_102 : zmkW (yX9_forceOf, cX9_forceOf, 3, some .int) ∈ lw_tbl := zt_3 _ (List.mem_of_getElem? (i := 139) rfl)
set_option maxRecDepth 100000 in
theorem zmk_103 : zmkW (yX9_forceWithShifted, cX9_forceWithShifted, 7, some .int) ∈ lw_tbl := zt_3 _ (List.mem_of_getElem? (i := 155) rfl)
set_option maxRecDepth 100000 in
theorem zmk_104 : zmkW (yX9_floorsTold, cX9_floorsTold, 5, some .int) ∈ lw_tbl := zt_3 _ (List.mem_of_getElem? (i := 162) rfl)
set_option maxRecDepth 100000 in
theorem zmk_105 : zmkW (yX9_findFits, cX9_findFits, 4, none) ∈ lw_tbl := zt_3 _ (List.mem_of_getElem? (i := 185) rfl)
set_option maxRecDepth 100000 in
theorem zmk_106 : zmkW (yX9_write, cX9_write, 4, some .int) ∈ lw_tbl := zt_3 _ (List.mem_of_getElem? (i := 173) rfl)
set_option maxRecDepth 100000 in
theorem zmk_107 : zmkW (yX9_inLowestTerms, cX9_inLowestTerms, 4, some .long) ∈ lw_tbl := zt_3 _ (List.mem_of_getElem? (i := 198) rfl)
set_option maxRecDepth 100000 in
theorem zmk_108 : zmkW (yX10_init, cX10_init, 1, none) ∈ lw_tbl := zt_4 _ (List.mem_of_getElem? (i := 58) rfl)
set_option maxRecDepth 100000 in
theorem zmk_109 : zmkW (yX10_in, cX10_in, 3, some .boolean) ∈ lw_tbl := zt_4 _ (List.mem_of_getElem? (i := 144) rfl)
set_option maxRecDepth 100000 in
theorem zmk_110 : zmkW (yX10_isLayer, cX10_isLayer, 2, some .boolean) ∈ lw_tbl := zt_4 _ (List.mem_of_getElem? (i := 219) rfl)
set_option maxRecDepth 100000 in
theorem zmk_111 : zmkW (yX10_isSide, cX10_isSide, 1, some .boolean) ∈ lw_tbl := zt_4 _ (List.mem_of_getElem? (i := 211) rfl)
set_option maxRecDepth 100000 in
theorem zmk_112 : zmkW (yX10_isFloor, cX10_isFloor, 1, some .boolean) ∈ lw_tbl := zt_5 _ (List.mem_of_getElem? (i := 26) rfl)
set_option maxRecDepth 100000 in
theorem zmk_113 : zmkW (yX10_feed, cX10_feed, 2, some .int) ∈ lw_tbl := zt_4 _ (List.mem_of_getElem? (i := 141) rfl)
set_option maxRecDepth 100000 in
theorem zmk_114 : zmkW (yX10_here, cX10_here, 1, some .int) ∈ lw_tbl := zt_4 _ (List.mem_of_getElem? (i := 156) rfl)
set_option maxRecDepth 100000 in
theorem zmk_115 : zmkW (yX10_must, cX10_must, 2, none) ∈ lw_tbl := zt_4 _ (List.mem_of_getElem? (i := 171) rfl)
set_option maxRecDepth 100000 in
theorem zmk_116 : zmkW (yX10_spells, cX10_spells, 3, none) ∈ lw_tbl := zt_4 _ (List.mem_of_getElem? (i := 165) rfl)
set_option maxRecDepth 100000 in
theorem zmk_117 : zmkW (yX10_figures, cX10_figures, 3, some .int) ∈ lw_tbl := zt_4 _ (List.mem_of_getElem? (i := 175) rfl)
set_option maxRecDepth 100000 in
theorem zmk_118 : zmkW (yX10_among, cX10_among, 3, some .int) ∈ lw_tbl := zt_4 _ (List.mem_of_getElem? (i := 202) rfl)
set_option maxRecDepth 100000 in
theorem zmk_119 : zmkW (yX10_emits, cX10_emits, 2, none) ∈ lw_tbl := zt_4 _ (List.mem_of_getElem? (i := 197) rfl)
set_option maxRecDepth 100000 in
theorem zmk_120 : zmkW (yX10_factor, cX10_factor, 5, none) ∈ lw_tbl := zt_4 _ (List.mem_of_getElem? (i := 193) rfl)
set_option maxRecDepth 100000 in
theorem zmk_121 : zmkW (yX10_every, cX10_every, 1, none) ∈ lw_tbl := zt_4 _ (List.mem_of_getElem? (i := 189) rfl)
set_option maxRecDepth 100000 in
theorem zmk_122 : zmkW (yX10_some, cX10_some, 1, none) ∈ lw_tbl := zt_4 _ (List.mem_of_getElem? (i := 185) rfl)
set_option maxRecDepth 100000 in
theorem zmk_123 : zmkW (yX10_much, cX10_much, 4, none) ∈ lw_tbl := zt_4 _ (List.mem_of_getElem? (i := 181) rfl)
set_option maxRecDepth 100000 in
theorem zmk_124 : zmkW (yX10_tellsHere, cX10_tellsHere, 4, none) ∈ lw_tbl := zt_4 _ (List.mem_of_getElem? (i := 161) rfl)
set_option maxRecDepth 100000 in
theorem zmk_125 : zmkW (yX10_clauseHere, cX10_clauseHere, 1, none) ∈ lw_tbl := zt_4 _ (List.mem_of_getElem? (i := 152) rfl)
set_option maxRecDepth 100000 in
theorem zmk_126 : zmkW (yX10_school, cX10_school, 2, some .int) ∈ lw_tbl := zt_4 _ (List.mem_of_getElem? (i := 148) rfl)
set_option maxRecDepth 100000 in
theorem zmk_127 : zmkW (yX10_tellsOf, cX10_tellsOf, 3, some .int) ∈ lw_tbl := zt_4 _ (List.mem_of_getElem? (i := 231) rfl)
set_option maxRecDepth 100000 in
theorem zmk_128 : zmkW (yX10_looks, cX10_looks, 13, none) ∈ lw_tbl := zt_4 _ (List.mem_of_getElem? (i := 227) rfl)
set_option maxRecDepth 100000 in
theorem zmk_129 : zmkW (yX10_priceOf, cX10_priceOf, 2, some .int) ∈ lw_tbl := zt_4 _ (List.mem_of_getElem? (i := 223) rfl)
set_option maxRecDepth 100000 in
theorem zmk_130 : zmkW (yX10_layer, cX10_layer, 8, some .int) ∈ lw_tbl := zt_4 _ (List.mem_of_getElem? (i := 208) rfl)
set_option maxRecDepth 100000 in
theorem zmk_131 : zmkW (yX10_of, cX10_of, 3, some .int) ∈ lw_tbl := zt_4 _ (List.mem_of_getElem? (i := 215) rfl)
set_option maxRecDepth 100000 in
theorem zmk_132 : zmkW (yX10_side, cX10_side, 4, some .int) ∈ lw_tbl := zt_4 _ (List.mem_of_getElem? (i := 235) rfl)
set_option maxRecDepth 100000 in
theorem zmk_133 : zmkW (yX10_broken, cX10_broken, 4, some .int) ∈ lw_tbl := zt_4 _ (List.mem_of_getElem? (i := 239) rfl)
set_option maxRecDepth 100000 in
theorem zmk_134 : zmkW (yX10_row, cX10_row, 5, some .int) ∈ lw_tbl := zt_5 _ (List.mem_of_getElem? (i := 3) rfl)
set_option maxRecDepth 100000 in
theorem zmk_135 : zmkW (yX10_egg, cX10_egg, 2, some .int) ∈ lw_tbl := zt_5 _ (List.mem_of_getElem? (i := 7) rfl)
set_option maxRecDepth 100000 in
theorem zmk_136 : zmkW (yX10_weightBut, cX10_weightBut, 4, some .int) ∈ lw_tbl := zt_5 _ (List.mem_of_getElem? (i := 15) rfl)
set_option maxRecDepth 100000 in
theorem zmk_137 : zmkW (yX10_prices, cX10_prices, 3, some .int) ∈ lw_tbl := zt_5 _ (List.mem_of_getElem? (i := 19) rfl)
set_option maxRecDepth 100000 in
theorem zmk_138 : zmkW (yX10_told, cX10_told, 2, some .int) ∈ lw_tbl := zt_5 _ (List.mem_of_getElem? (i := 11) rfl)
set_option maxRecDepth 100000 in
theorem zmk_139 : zmkW (yX10_takesOf, cX10_takesOf, 7, some .int) ∈ lw_tbl := zt_5 _ (List.mem_of_getElem? (i := 42) rfl)
set_option maxRecDepth 100000 in
theorem zmk_140 : zmkW (yX10_lands, cX10_lands, 8, some .int) ∈ lw_tbl := zt_5 _ (List.mem_of_getElem? (i := 38) rfl)
set_option maxRecDepth 100000 in
theorem zmk_141 : zmkW (yX10_strikes, cX10_strikes, 3, none) ∈ lw_tbl := zt_5 _ (List.mem_of_getElem? (i := 46) rfl)
set_option maxRecDepth 100000 in
theorem zmk_142 : zmkW (yX10_falls, cX10_falls, 7, some .int) ∈ lw_tbl := zt_5 _ (List.mem_of_getElem? (i := 34) rfl)
set_option maxRecDepth 100000 in
theorem zmk_143 : zmkW (yX10_fallsNow, cX10_fallsNow, 3, some .int) ∈ lw_tbl := zt_5 _ (List.mem_of_getElem? (i := 30) rfl)
set_option maxRecDepth 100000 in
theorem zmk_144 : zmkW (yX10_drop, cX10_drop, 4, some .int) ∈ lw_tbl := zt_5 _ (List.mem_of_getElem? (i := 23) rfl)
set_option maxRecDepth 100000 in
theorem zmk_145 : zmkW (yX10_fall, cX10_fall, 5, some .int) ∈ lw_tbl := zt_5 _ (List.mem_of_getElem? (i := 50) rfl)
set_option maxRecDepth 100000 in
theorem zmk_146 : zmkW (yX10_highest, cX10_highest, 5, some .int) ∈ lw_tbl := zt_5 _ (List.mem_of_getElem? (i := 54) rfl)
set_option maxRecDepth 100000 in
theorem zmk_147 : zmkW (yX10_best, cX10_best, 7, some .int) ∈ lw_tbl := zt_5 _ (List.mem_of_getElem? (i := 58) rfl)
set_option maxRecDepth 100000 in
theorem zmk_148 : zmkW (yX10_lighter, cX10_lighter, 8, some .int) ∈ lw_tbl := zt_5 _ (List.mem_of_getElem? (i := 63) rfl)
set_option maxRecDepth 100000 in
theorem zmk_149 : zmkW (yX10_shift, cX10_shift, 9, some .int) ∈ lw_tbl := zt_5 _ (List.mem_of_getElem? (i := 67) rfl)
set_option maxRecDepth 100000 in
theorem zmk_150 : zmkW (yX10_tries, cX10_tries, 5, some .int) ∈ lw_tbl := zt_5 _ (List.mem_of_getElem? (i := 71) rfl)
set_option maxRecDepth 100000 in
theorem zmk_151 : zmkW (yX10_isSet, cX10_isSet, 2, some .boolean) ∈ lw_tbl := zt_5 _ (List.mem_of_getElem? (i := 79) rfl)
set_option maxRecDepth 100000 in
theorem zmk_152 : zmkW (yX10_failed, cX10_failed, 5, some .int) ∈ lw_tbl := zt_5 _ (List.mem_of_getElem? (i := 75) rfl)
set_option maxRecDepth 100000 in
theorem zmk_153 : zmkW (yX10_see, cX10_see, 4, some .int) ∈ lw_tbl := zt_5 _ (List.mem_of_getElem? (i := 83) rfl)
set_option maxRecDepth 100000 in
theorem zmk_154 : zmkW (yX10_isAsSeen, cX10_isAsSeen, 3, some .boolean) ∈ lw_tbl := zt_5 _ (List.mem_of_getElem? (i := 91) rfl)
set_option maxRecDepth 100000 in
theorem zmk_155 : zmkW (yX10_strong, cX10_strong, 5, some .int) ∈ lw_tbl := zt_5 _ (List.mem_of_getElem? (i := 87) rfl)
set_option maxRecDepth 100000 in
theorem zmk_156 : zmkW (yX10_lowest, cX10_lowest, 11, some .long) ∈ lw_tbl := zt_5 _ (List.mem_of_getElem? (i := 100) rfl)
set_option maxRecDepth 100000 in
theorem zmk_157 : zmkW (yX10_odds, cX10_odds, 6, some .long) ∈ lw_tbl := zt_5 _ (List.mem_of_getElem? (i := 95) rfl)
set_option maxRecDepth 100000 in
theorem zmk_158 : zmkW (yX10_mean, cX10_mean, 6, some .long) ∈ lw_tbl := zt_5 _ (List.mem_of_getElem? (i := 104) rfl)
set_option maxRecDepth 100000 in
theorem zmk_159 : zmkW (yX10_book, cX10_book, 4, some .int) ∈ lw_tbl := zt_5 _ (List.mem_of_getElem? (i := 109) rfl)
set_option maxRecDepth 100000 in
theorem zmk_160 : zmkW (yX10_looked, cX10_looked, 2, some .int) ∈ lw_tbl := zt_5 _ (List.mem_of_getElem? (i := 113) rfl)
set_option maxRecDepth 100000 in
theorem zmk_161 : zmkW (yX10_ranBody, cX10_ranBody, 2, none) ∈ lw_tbl := zt_5 _ (List.mem_of_getElem? (i := 128) rfl)
set_option maxRecDepth 100000 in
theorem zmk_162 : zmkW (yX10_isUnder, cX10_isUnder, 2, some .boolean) ∈ lw_tbl := zt_5 _ (List.mem_of_getElem? (i := 124) rfl)
set_option maxRecDepth 100000 in
theorem zmk_163 : zmkW (yX10_plainGives, cX10_plainGives, 2, some .int) ∈ lw_tbl := zt_5 _ (List.mem_of_getElem? (i := 132) rfl)
set_option maxRecDepth 100000 in
theorem zmk_164 : zmkW (yX10_givesActs, cX10_givesActs, 2, some .int) ∈ lw_tbl := zt_5 _ (List.mem_of_getElem? (i := 121) rfl)
set_option maxRecDepth 100000 in
theorem zmk_165 : zmkW (yX10_plainTakes, cX10_plainTakes, 2, some .int) ∈ lw_tbl := zt_5 _ (List.mem_of_getElem? (i := 140) rfl)
set_option maxRecDepth 100000 in
theorem zmk_166 : zmkW (yX10_takesActs, cX10_takesActs, 2, some .int) ∈ lw_tbl := zt_5 _ (List.mem_of_getElem? (i := 136) rfl)
set_option maxRecDepth 100000 in
theorem zmk_167 : zmkW (yX10_plainTells, cX10_plainTells, 2, some .int) ∈ lw_tbl := zt_5 _ (List.mem_of_getElem? (i := 148) rfl)
set_option maxRecDepth 100000 in
theorem zmk_168 : zmkW (yX10_tellsActs, cX10_tellsActs, 3, some .int) ∈ lw_tbl := zt_5 _ (List.mem_of_getElem? (i := 144) rfl)
set_option maxRecDepth 100000 in
theorem zmk_169 : zmkW (yX10_act, cX10_act, 4, some .int) ∈ lw_tbl := zt_5 _ (List.mem_of_getElem? (i := 117) rfl)
set_option maxRecDepth 100000 in
theorem zmk_170 : zmkW (yX10_trace, cX10_trace, 2, some .int) ∈ lw_tbl := zt_5 _ (List.mem_of_getElem? (i := 152) rfl)
set_option maxRecDepth 100000 in
theorem zmk_171 : zmkW (yX10_as, cX10_as, 3, some .int) ∈ lw_tbl := zt_5 _ (List.mem_of_getElem? (i := 156) rfl)
set_option maxRecDepth 100000 in
theorem zmk_172 : zmkW (yX10_image, cX10_image, 2, some .int) ∈ lw_tbl := zt_5 _ (List.mem_of_getElem? (i := 160) rfl)
set_option maxRecDepth 100000 in
theorem zmk_173 : zmkW (yX10_undo, cX10_undo, 2, some .int) ∈ lw_tbl := zt_5 _ (List.mem_of_getElem? (i := 164) rfl)
set_option maxRecDepth 100000 in
theorem zmk_174 : zmkW (yX10_count, cX10_count, 2, some .int) ∈ lw_tbl := zt_5 _ (List.mem_of_getElem? (i := 168) rfl)
theorem zmk_r0 : ∀ q ∈ [((yX0_init, cX0_init, 1, none) : MethodName × (ByteArray × (Nat × Option FieldType))), ((yX0_clear, cX0_clear, 1, none) : MethodName × (ByteArray × (Nat × Option FieldType))), ((yX0_take, cX0_take, 3, none) : MethodName × (ByteArray × (Nat × Option FieldType))), ((yX0_begin, cX0_begin, 2, none) : MethodName × (ByteArray × (Nat × Option FieldType))), ((yX0_gives, cX0_gives, 2, some .int) : MethodName × (ByteArray × (Nat × Option FieldType))), ((yX0_takes, cX0_takes, 2, some .int) : MethodName × (ByteArray × (Nat × Option FieldType))), ((yX0_tells, cX0_tells, 2, some .int) : MethodName × (ByteArray × (Nat × Option FieldType))), ((yX0_takesAtTop, cX0_takesAtTop, 2, some .int) : MethodName × (ByteArray × (Nat × Option FieldType))), ((yX0_tellsAtTop, cX0_tellsAtTop, 2, some .int) : MethodName × (ByteArray × (Nat × Option FieldType))), ((yX1_init, cX1_init, 1, none) : MethodName × (ByteArray × (Nat × Option FieldType))), ((yX1_copyFrom, cX1_copyFrom, 2, none) : MethodName × (ByteArray × (Nat × Option FieldType))), ((yX2_init, cX2_init, 1, none) : MethodName × (ByteArray × (Nat × Option FieldType))), ((yX2_renew, cX2_renew, 1, none) : MethodName × (ByteArray × (Nat × Option FieldType))), ((yX2_land, cX2_land, 4, none) : MethodName × (ByteArray × (Nat × Option FieldType))), ((yX2_copyFrom, cX2_copyFrom, 2, none) : MethodName × (ByteArray × (Nat × Option FieldType))), ((yX3_init, cX3_init, 1, none) : MethodName × (ByteArray × (Nat × Option FieldType)))], zmkW q ∈ lw_tbl := List.forall_mem_cons.mpr ⟨zmk_0, List.forall_mem_cons.mpr ⟨zmk_1, List.forall_mem_cons.mpr ⟨zmk_2, List.forall_mem_cons.mpr ⟨zmk_3, List.forall_mem_cons.mpr ⟨zmk_4, List.forall_mem_cons.mpr ⟨zmk_5, List.forall_mem_cons.mpr ⟨zmk_6, List.forall_mem_cons.mpr ⟨zmk_7, List.forall_mem_cons.mpr ⟨zmk_8, List.forall_mem_cons.mpr ⟨zmk_9, List.forall_mem_cons.mpr ⟨zmk_10, List.forall_mem_cons.mpr ⟨zmk_11, List.forall_mem_cons.mpr ⟨zmk_12, List.forall_mem_cons.mpr ⟨zmk_13, List.forall_mem_cons.mpr ⟨zmk_14, List.forall_mem_cons.mpr ⟨zmk_15, fun _ h => absurd h List.not_mem_nil⟩⟩⟩⟩⟩⟩⟩⟩⟩⟩⟩⟩⟩⟩⟩⟩
theorem zmk_r1 : ∀ q ∈ [((yX3_happen, cX3_happen, 9, none) : MethodName × (ByteArray × (Nat × Option FieldType))), ((yX3_force, cX3_force, 1, some .int) : MethodName × (ByteArray × (Nat × Option FieldType))), ((yX3_meet, cX3_meet, 3, none) : MethodName × (ByteArray × (Nat × Option FieldType))), ((yX3_meetNew, cX3_meetNew, 2, none) : MethodName × (ByteArray × (Nat × Option FieldType))), ((yX3_landAll, cX3_landAll, 2, none) : MethodName × (ByteArray × (Nat × Option FieldType))), ((yX3_goThrough, cX3_goThrough, 6, some .int) : MethodName × (ByteArray × (Nat × Option FieldType))), ((yX3_takenBy, cX3_takenBy, 4, some .int) : MethodName × (ByteArray × (Nat × Option FieldType))), ((yX3_crumpled, cX3_crumpled, 2, some .int) : MethodName × (ByteArray × (Nat × Option FieldType))), ((yX3_hung, cX3_hung, 2, some .int) : MethodName × (ByteArray × (Nat × Option FieldType))), ((yX3_standing, cX3_standing, 5, some .int) : MethodName × (ByteArray × (Nat × Option FieldType))), ((yX4_init, cX4_init, 1, none) : MethodName × (ByteArray × (Nat × Option FieldType))), ((yX4_isUnder, cX4_isUnder, 4, some .boolean) : MethodName × (ByteArray × (Nat × Option FieldType))), ((yX4_has, cX4_has, 2, some .boolean) : MethodName × (ByteArray × (Nat × Option FieldType))), ((yX4_isBroken, cX4_isBroken, 2, some .boolean) : MethodName × (ByteArray × (Nat × Option FieldType))), ((yX4_allBits, cX4_allBits, 1, some .int) : MethodName × (ByteArray × (Nat × Option FieldType))), ((yX4_add, cX4_add, 7, some .int) : MethodName × (ByteArray × (Nat × Option FieldType)))], zmkW q ∈ lw_tbl := List.forall_mem_cons.mpr ⟨zmk_16, List.forall_mem_cons.mpr ⟨zmk_17, List.forall_mem_cons.mpr ⟨zmk_18, List.forall_mem_cons.mpr ⟨zmk_19, List.forall_mem_cons.mpr ⟨zmk_20, List.forall_mem_cons.mpr ⟨zmk_21, List.forall_mem_cons.mpr ⟨zmk_22, List.forall_mem_cons.mpr ⟨zmk_23, List.forall_mem_cons.mpr ⟨zmk_24, List.forall_mem_cons.mpr ⟨zmk_25, List.forall_mem_cons.mpr ⟨zmk_26, List.forall_mem_cons.mpr ⟨zmk_27, List.forall_mem_cons.mpr ⟨zmk_28, List.forall_mem_cons.mpr ⟨zmk_29, List.forall_mem_cons.mpr ⟨zmk_30, List.forall_mem_cons.mpr ⟨zmk_31, fun _ h => absurd h List.not_mem_nil⟩⟩⟩⟩⟩⟩⟩⟩⟩⟩⟩⟩⟩⟩⟩⟩
theorem zmk_r2 : ∀ q ∈ [((yX4_mark, cX4_mark, 3, none) : MethodName × (ByteArray × (Nat × Option FieldType))), ((yX4_weightWithout, cX4_weightWithout, 4, some .int) : MethodName × (ByteArray × (Nat × Option FieldType))), ((yX4_copyFrom, cX4_copyFrom, 2, none) : MethodName × (ByteArray × (Nat × Option FieldType))), ((yX5_init, cX5_init, 1, none) : MethodName × (ByteArray × (Nat × Option FieldType))), ((yX5_read, cX5_read, 3, some .int) : MethodName × (ByteArray × (Nat × Option FieldType))), ((yX5_next, cX5_next, 1, some .int) : MethodName × (ByteArray × (Nat × Option FieldType))), ((yX5_pass, cX5_pass, 2, some .boolean) : MethodName × (ByteArray × (Nat × Option FieldType))), ((yX5_passAll, cX5_passAll, 3, some .boolean) : MethodName × (ByteArray × (Nat × Option FieldType))), ((yX5_readClause, cX5_readClause, 4, some .boolean) : MethodName × (ByteArray × (Nat × Option FieldType))), ((yX5_readWord, cX5_readWord, 1, some .int) : MethodName × (ByteArray × (Nat × Option FieldType))), ((yX5_readNumber, cX5_readNumber, 3, some .int) : MethodName × (ByteArray × (Nat × Option FieldType))), ((yX5_readAny, cX5_readAny, 4, some .boolean) : MethodName × (ByteArray × (Nat × Option FieldType))), ((yX5_readOne, cX5_readOne, 3, some .boolean) : MethodName × (ByteArray × (Nat × Option FieldType))), ((yX5_readTest, cX5_readTest, 4, some .boolean) : MethodName × (ByteArray × (Nat × Option FieldType))), ((yX5_readOneOf, cX5_readOneOf, 4, some .int) : MethodName × (ByteArray × (Nat × Option FieldType))), ((yX6_init, cX6_init, 1, none) : MethodName × (ByteArray × (Nat × Option FieldType)))], zmkW q ∈ lw_tbl := List.forall_mem_cons.mpr ⟨zmk_32, List.forall_mem_cons.mpr ⟨zmk_33, List.forall_mem_cons.mpr ⟨zmk_34, List.forall_mem_cons.mpr ⟨zmk_35, List.forall_mem_cons.mpr ⟨zmk_36, List.forall_mem_cons.mpr ⟨zmk_37, List.forall_mem_cons.mpr ⟨zmk_38, List.forall_mem_cons.mpr ⟨zmk_39, List.forall_mem_cons.mpr ⟨zmk_40, List.forall_mem_cons.mpr ⟨zmk_41, List.forall_mem_cons.mpr ⟨zmk_42, List.forall_mem_cons.mpr ⟨zmk_43, List.forall_mem_cons.mpr ⟨zmk_44, List.forall_mem_cons.mpr ⟨zmk_45, List.forall_mem_cons.mpr ⟨zmk_46, List.forall_mem_cons.mpr ⟨zmk_47, fun _ h => absurd h List.not_mem_nil⟩⟩⟩⟩⟩⟩⟩⟩⟩⟩⟩⟩⟩⟩⟩⟩
theorem zmk_r3 : ∀ q ∈ [((yX6_clear, cX6_clear, 1, none) : MethodName × (ByteArray × (Nat × Option FieldType))), ((yX6_copyFrom, cX6_copyFrom, 2, none) : MethodName × (ByteArray × (Nat × Option FieldType))), ((yX6_addStep, cX6_addStep, 2, none) : MethodName × (ByteArray × (Nat × Option FieldType))), ((yX6_addClause, cX6_addClause, 3, none) : MethodName × (ByteArray × (Nat × Option FieldType))), ((yX6_last, cX6_last, 5, some .int) : MethodName × (ByteArray × (Nat × Option FieldType))), ((yX6_setTest, cX6_setTest, 6, none) : MethodName × (ByteArray × (Nat × Option FieldType))), ((yX6_sum, cX6_sum, 5, some .int) : MethodName × (ByteArray × (Nat × Option FieldType))), ((yX6_holds, cX6_holds, 7, some .boolean) : MethodName × (ByteArray × (Nat × Option FieldType))), ((yX6_passes, cX6_passes, 5, some .boolean) : MethodName × (ByteArray × (Nat × Option FieldType))), ((yX7_init, cX7_init, 1, none) : MethodName × (ByteArray × (Nat × Option FieldType))), ((yX7_add, cX7_add, 4, some .boolean) : MethodName × (ByteArray × (Nat × Option FieldType))), ((yX7_copyFrom, cX7_copyFrom, 2, none) : MethodName × (ByteArray × (Nat × Option FieldType))), ((yX8_init, cX8_init, 1, none) : MethodName × (ByteArray × (Nat × Option FieldType))), ((yX8_put, cX8_put, 2, some .boolean) : MethodName × (ByteArray × (Nat × Option FieldType))), ((yX8_copyFrom, cX8_copyFrom, 2, none) : MethodName × (ByteArray × (Nat × Option FieldType))), ((yX9_init, cX9_init, 2, none) : MethodName × (ByteArray × (Nat × Option FieldType)))], zmkW q ∈ lw_tbl := List.forall_mem_cons.mpr ⟨zmk_48, List.forall_mem_cons.mpr ⟨zmk_49, List.forall_mem_cons.mpr ⟨zmk_50, List.forall_mem_cons.mpr ⟨zmk_51, List.forall_mem_cons.mpr ⟨zmk_52, List.forall_mem_cons.mpr ⟨zmk_53, List.forall_mem_cons.mpr ⟨zmk_54, List.forall_mem_cons.mpr ⟨zmk_55, List.forall_mem_cons.mpr ⟨zmk_56, List.forall_mem_cons.mpr ⟨zmk_57, List.forall_mem_cons.mpr ⟨zmk_58, List.forall_mem_cons.mpr ⟨zmk_59, List.forall_mem_cons.mpr ⟨zmk_60, List.forall_mem_cons.mpr ⟨zmk_61, List.forall_mem_cons.mpr ⟨zmk_62, List.forall_mem_cons.mpr ⟨zmk_63, fun _ h => absurd h List.not_mem_nil⟩⟩⟩⟩⟩⟩⟩⟩⟩⟩⟩⟩⟩⟩⟩⟩
theorem zmk_r4 : ∀ q ∈ [((yX9_feed, cX9_feed, 2, some .int) : MethodName × (ByteArray × (Nat × Option FieldType))), ((yX9_school, cX9_school, 3, some .int) : MethodName × (ByteArray × (Nat × Option FieldType))), ((yX9_layer, cX9_layer, 6, some .int) : MethodName × (ByteArray × (Nat × Option FieldType))), ((yX9_of, cX9_of, 4, some .int) : MethodName × (ByteArray × (Nat × Option FieldType))), ((yX9_side, cX9_side, 4, some .int) : MethodName × (ByteArray × (Nat × Option FieldType))), ((yX9_broken, cX9_broken, 4, some .int) : MethodName × (ByteArray × (Nat × Option FieldType))), ((yX9_row, cX9_row, 7, some .int) : MethodName × (ByteArray × (Nat × Option FieldType))), ((yX9_egg, cX9_egg, 2, some .int) : MethodName × (ByteArray × (Nat × Option FieldType))), ((yX9_told, cX9_told, 2, some .int) : MethodName × (ByteArray × (Nat × Option FieldType))), ((yX9_drop, cX9_drop, 3, some .int) : MethodName × (ByteArray × (Nat × Option FieldType))), ((yX9_fall, cX9_fall, 4, some .int) : MethodName × (ByteArray × (Nat × Option FieldType))), ((yX9_highest, cX9_highest, 3, some .int) : MethodName × (ByteArray × (Nat × Option FieldType))), ((yX9_best, cX9_best, 7, some .int) : MethodName × (ByteArray × (Nat × Option FieldType))), ((yX9_lighter, cX9_lighter, 9, some .int) : MethodName × (ByteArray × (Nat × Option FieldType))), ((yX9_shift, cX9_shift, 7, some .int) : MethodName × (ByteArray × (Nat × Option FieldType))), ((yX9_tries, cX9_tries, 4, some .int) : MethodName × (ByteArray × (Nat × Option FieldType)))], zmkW q ∈ lw_tbl := List.forall_mem_cons.mpr ⟨zmk_64, List.forall_mem_cons.mpr ⟨zmk_65, List.forall_mem_cons.mpr ⟨zmk_66, List.forall_mem_cons.mpr ⟨zmk_67, List.forall_mem_cons.mpr ⟨zmk_68, List.forall_mem_cons.mpr ⟨zmk_69, List.forall_mem_cons.mpr ⟨zmk_70, List.forall_mem_cons.mpr ⟨zmk_71, List.forall_mem_cons.mpr ⟨zmk_72, List.forall_mem_cons.mpr ⟨zmk_73, List.forall_mem_cons.mpr ⟨zmk_74, List.forall_mem_cons.mpr ⟨zmk_75, List.forall_mem_cons.mpr ⟨zmk_76, List.forall_mem_cons.mpr ⟨zmk_77, List.forall_mem_cons.mpr ⟨zmk_78, List.forall_mem_cons.mpr ⟨zmk_79, fun _ h => absurd h List.not_mem_nil⟩⟩⟩⟩⟩⟩⟩⟩⟩⟩⟩⟩⟩⟩⟩⟩
theorem zmk_r5 : ∀ q ∈ [((yX9_failed, cX9_failed, 5, some .int) : MethodName × (ByteArray × (Nat × Option FieldType))), ((yX9_see, cX9_see, 4, some .int) : MethodName × (ByteArray × (Nat × Option FieldType))), ((yX9_strong, cX9_strong, 4, some .int) : MethodName × (ByteArray × (Nat × Option FieldType))), ((yX9_odds, cX9_odds, 5, some .long) : MethodName × (ByteArray × (Nat × Option FieldType))), ((yX9_mean, cX9_mean, 5, some .long) : MethodName × (ByteArray × (Nat × Option FieldType))), ((yX9_book, cX9_book, 5, some .int) : MethodName × (ByteArray × (Nat × Option FieldType))), ((yX9_looked, cX9_looked, 3, some .int) : MethodName × (ByteArray × (Nat × Option FieldType))), ((yX9_act, cX9_act, 4, some .int) : MethodName × (ByteArray × (Nat × Option FieldType))), ((yX9_trace, cX9_trace, 2, some .int) : MethodName × (ByteArray × (Nat × Option FieldType))), ((yX9_as, cX9_as, 3, some .int) : MethodName × (ByteArray × (Nat × Option FieldType))), ((yX9_image, cX9_image, 1, some .int) : MethodName × (ByteArray × (Nat × Option FieldType))), ((yX9_undo, cX9_undo, 1, some .int) : MethodName × (ByteArray × (Nat × Option FieldType))), ((yX9_count, cX9_count, 2, some .int) : MethodName × (ByteArray × (Nat × Option FieldType))), ((yX9_isFloor, cX9_isFloor, 1, some .boolean) : MethodName × (ByteArray × (Nat × Option FieldType))), ((yX9_isSide, cX9_isSide, 1, some .boolean) : MethodName × (ByteArray × (Nat × Option FieldType))), ((yX9_isKind, cX9_isKind, 1, some .boolean) : MethodName × (ByteArray × (Nat × Option FieldType)))], zmkW q ∈ lw_tbl := List.forall_mem_cons.mpr ⟨zmk_80, List.forall_mem_cons.mpr ⟨zmk_81, List.forall_mem_cons.mpr ⟨zmk_82, List.forall_mem_cons.mpr ⟨zmk_83, List.forall_mem_cons.mpr ⟨zmk_84, List.forall_mem_cons.mpr ⟨zmk_85, List.forall_mem_cons.mpr ⟨zmk_86, List.forall_mem_cons.mpr ⟨zmk_87, List.forall_mem_cons.mpr ⟨zmk_88, List.forall_mem_cons.mpr ⟨zmk_89, List.forall_mem_cons.mpr ⟨zmk_90, List.forall_mem_cons.mpr ⟨zmk_91, List.forall_mem_cons.mpr ⟨zmk_92, List.forall_mem_cons.mpr ⟨zmk_93, List.forall_mem_cons.mpr ⟨zmk_94, List.forall_mem_cons.mpr ⟨zmk_95, fun _ h => absurd h List.not_mem_nil⟩⟩⟩⟩⟩⟩⟩⟩⟩⟩⟩⟩⟩⟩⟩⟩
theorem zmk_r6 : ∀ q ∈ [((yX9_holding, cX9_holding, 2, some (.object "EggDrop$School")) : MethodName × (ByteArray × (Nat × Option FieldType))), ((yX9_bear, cX9_bear, 1, some .int) : MethodName × (ByteArray × (Nat × Option FieldType))), ((yX9_price, cX9_price, 4, some .int) : MethodName × (ByteArray × (Nat × Option FieldType))), ((yX9_prices, cX9_prices, 3, some .int) : MethodName × (ByteArray × (Nat × Option FieldType))), ((yX9_letFall, cX9_letFall, 5, none) : MethodName × (ByteArray × (Nat × Option FieldType))), ((yX9_staysWhole, cX9_staysWhole, 5, some .boolean) : MethodName × (ByteArray × (Nat × Option FieldType))), ((yX9_forceOf, cX9_forceOf, 3, some .int) : MethodName × (ByteArray × (Nat × Option FieldType))), ((yX9_forceWithShifted, cX9_forceWithShifted, 7, some .int) : MethodName × (ByteArray × (Nat × Option FieldType))), ((yX9_floorsTold, cX9_floorsTold, 5, some .int) : MethodName × (ByteArray × (Nat × Option FieldType))), ((yX9_findFits, cX9_findFits, 4, none) : MethodName × (ByteArray × (Nat × Option FieldType))), ((yX9_write, cX9_write, 4, some .int) : MethodName × (ByteArray × (Nat × Option FieldType))), ((yX9_inLowestTerms, cX9_inLowestTerms, 4, some .long) : MethodName × (ByteArray × (Nat × Option FieldType))), ((yX10_init, cX10_init, 1, none) : MethodName × (ByteArray × (Nat × Option FieldType))), ((yX10_in, cX10_in, 3, some .boolean) : MethodName × (ByteArray × (Nat × Option FieldType))), ((yX10_isLayer, cX10_isLayer, 2, some .boolean) : MethodName × (ByteArray × (Nat × Option FieldType))), ((yX10_isSide, cX10_isSide, 1, some .boolean) : MethodName × (ByteArray × (Nat × Option FieldType)))], zmkW q ∈ lw_tbl := List.forall_mem_cons.mpr ⟨zmk_96, List.forall_mem_cons.mpr ⟨zmk_97, List.forall_mem_cons.mpr ⟨zmk_98, List.forall_mem_cons.mpr ⟨zmk_99, List.forall_mem_cons.mpr ⟨zmk_100, List.forall_mem_cons.mpr ⟨zmk_101, List.forall_mem_cons.mpr ⟨zmk_102, List.forall_mem_cons.mpr ⟨zmk_103, List.forall_mem_cons.mpr ⟨zmk_104, List.forall_mem_cons.mpr ⟨zmk_105, List.forall_mem_cons.mpr ⟨zmk_106, List.forall_mem_cons.mpr ⟨zmk_107, List.forall_mem_cons.mpr ⟨zmk_108, List.forall_mem_cons.mpr ⟨zmk_109, List.forall_mem_cons.mpr ⟨zmk_110, List.forall_mem_cons.mpr ⟨zmk_111, fun _ h => absurd h List.not_mem_nil⟩⟩⟩⟩⟩⟩⟩⟩⟩⟩⟩⟩⟩⟩⟩⟩
theorem zmk_r7 : ∀ q ∈ [((yX10_isFloor, cX10_isFloor, 1, some .boolean) : MethodName × (ByteArray × (Nat × Option FieldType))), ((yX10_feed, cX10_feed, 2, some .int) : MethodName × (ByteArray × (Nat × Option FieldType))), ((yX10_here, cX10_here, 1, some .int) : MethodName × (ByteArray × (Nat × Option FieldType))), ((yX10_must, cX10_must, 2, none) : MethodName × (ByteArray × (Nat × Option FieldType))), ((yX10_spells, cX10_spells, 3, none) : MethodName × (ByteArray × (Nat × Option FieldType))), ((yX10_figures, cX10_figures, 3, some .int) : MethodName × (ByteArray × (Nat × Option FieldType))), ((yX10_among, cX10_among, 3, some .int) : MethodName × (ByteArray × (Nat × Option FieldType))), ((yX10_emits, cX10_emits, 2, none) : MethodName × (ByteArray × (Nat × Option FieldType))), ((yX10_factor, cX10_factor, 5, none) : MethodName × (ByteArray × (Nat × Option FieldType))), ((yX10_every, cX10_every, 1, none) : MethodName × (ByteArray × (Nat × Option FieldType))), ((yX10_some, cX10_some, 1, none) : MethodName × (ByteArray × (Nat × Option FieldType))), ((yX10_much, cX10_much, 4, none) : MethodName × (ByteArray × (Nat × Option FieldType))), ((yX10_tellsHere, cX10_tellsHere, 4, none) : MethodName × (ByteArray × (Nat × Option FieldType))), ((yX10_clauseHere, cX10_clauseHere, 1, none) : MethodName × (ByteArray × (Nat × Option FieldType))), ((yX10_school, cX10_school, 2, some .int) : MethodName × (ByteArray × (Nat × Option FieldType))), ((yX10_tellsOf, cX10_tellsOf, 3, some .int) : MethodName × (ByteArray × (Nat × Option FieldType)))], zmkW q ∈ lw_tbl := List.forall_mem_cons.mpr ⟨zmk_112, List.forall_mem_cons.mpr ⟨zmk_113, List.forall_mem_cons.mpr ⟨zmk_114, List.forall_mem_cons.mpr ⟨zmk_115, List.forall_mem_cons.mpr ⟨zmk_116, List.forall_mem_cons.mpr ⟨zmk_117, List.forall_mem_cons.mpr ⟨zmk_118, List.forall_mem_cons.mpr ⟨zmk_119, List.forall_mem_cons.mpr ⟨zmk_120, List.forall_mem_cons.mpr ⟨zmk_121, List.forall_mem_cons.mpr ⟨zmk_122, List.forall_mem_cons.mpr ⟨zmk_123, List.forall_mem_cons.mpr ⟨zmk_124, List.forall_mem_cons.mpr ⟨zmk_125, List.forall_mem_cons.mpr ⟨zmk_126, List.forall_mem_cons.mpr ⟨zmk_127, fun _ h => absurd h List.not_mem_nil⟩⟩⟩⟩⟩⟩⟩⟩⟩⟩⟩⟩⟩⟩⟩⟩
theorem zmk_r8 : ∀ q ∈ [((yX10_looks, cX10_looks, 13, none) : MethodName × (ByteArray × (Nat × Option FieldType))), ((yX10_priceOf, cX10_priceOf, 2, some .int) : MethodName × (ByteArray × (Nat × Option FieldType))), ((yX10_layer, cX10_layer, 8, some .int) : MethodName × (ByteArray × (Nat × Option FieldType))), ((yX10_of, cX10_of, 3, some .int) : MethodName × (ByteArray × (Nat × Option FieldType))), ((yX10_side, cX10_side, 4, some .int) : MethodName × (ByteArray × (Nat × Option FieldType))), ((yX10_broken, cX10_broken, 4, some .int) : MethodName × (ByteArray × (Nat × Option FieldType))), ((yX10_row, cX10_row, 5, some .int) : MethodName × (ByteArray × (Nat × Option FieldType))), ((yX10_egg, cX10_egg, 2, some .int) : MethodName × (ByteArray × (Nat × Option FieldType))), ((yX10_weightBut, cX10_weightBut, 4, some .int) : MethodName × (ByteArray × (Nat × Option FieldType))), ((yX10_prices, cX10_prices, 3, some .int) : MethodName × (ByteArray × (Nat × Option FieldType))), ((yX10_told, cX10_told, 2, some .int) : MethodName × (ByteArray × (Nat × Option FieldType))), ((yX10_takesOf, cX10_takesOf, 7, some .int) : MethodName × (ByteArray × (Nat × Option FieldType))), ((yX10_lands, cX10_lands, 8, some .int) : MethodName × (ByteArray × (Nat × Option FieldType))), ((yX10_strikes, cX10_strikes, 3, none) : MethodName × (ByteArray × (Nat × Option FieldType))), ((yX10_falls, cX10_falls, 7, some .int) : MethodName × (ByteArray × (Nat × Option FieldType))), ((yX10_fallsNow, cX10_fallsNow, 3, some .int) : MethodName × (ByteArray × (Nat × Option FieldType)))], zmkW q ∈ lw_tbl := List.forall_mem_cons.mpr ⟨zmk_128, List.forall_mem_cons.mpr ⟨zmk_129, List.forall_mem_cons.mpr ⟨zmk_130, List.forall_mem_cons.mpr ⟨zmk_131, List.forall_mem_cons.mpr ⟨zmk_132, List.forall_mem_cons.mpr ⟨zmk_133, List.forall_mem_cons.mpr ⟨zmk_134, List.forall_mem_cons.mpr ⟨zmk_135, List.forall_mem_cons.mpr ⟨zmk_136, List.forall_mem_cons.mpr ⟨zmk_137, List.forall_mem_cons.mpr ⟨zmk_138, List.forall_mem_cons.mpr ⟨zmk_139, List.forall_mem_cons.mpr ⟨zmk_140, List.forall_mem_cons.mpr ⟨zmk_141, List.forall_mem_cons.mpr ⟨zmk_142, List.forall_mem_cons.mpr ⟨zmk_143, fun _ h => absurd h List.not_mem_nil⟩⟩⟩⟩⟩⟩⟩⟩⟩⟩⟩⟩⟩⟩⟩⟩
theorem zmk_r9 : ∀ q ∈ [((yX10_drop, cX10_drop, 4, some .int) : MethodName × (ByteArray × (Nat × Option FieldType))), ((yX10_fall, cX10_fall, 5, some .int) : MethodName × (ByteArray × (Nat × Option FieldType))), ((yX10_highest, cX10_highest, 5, some .int) : MethodName × (ByteArray × (Nat × Option FieldType))), ((yX10_best, cX10_best, 7, some .int) : MethodName × (ByteArray × (Nat × Option FieldType))), ((yX10_lighter, cX10_lighter, 8, some .int) : MethodName × (ByteArray × (Nat × Option FieldType))), ((yX10_shift, cX10_shift, 9, some .int) : MethodName × (ByteArray × (Nat × Option FieldType))), ((yX10_tries, cX10_tries, 5, some .int) : MethodName × (ByteArray × (Nat × Option FieldType))), ((yX10_isSet, cX10_isSet, 2, some .boolean) : MethodName × (ByteArray × (Nat × Option FieldType))), ((yX10_failed, cX10_failed, 5, some .int) : MethodName × (ByteArray × (Nat × Option FieldType))), ((yX10_see, cX10_see, 4, some .int) : MethodName × (ByteArray × (Nat × Option FieldType))), ((yX10_isAsSeen, cX10_isAsSeen, 3, some .boolean) : MethodName × (ByteArray × (Nat × Option FieldType))), ((yX10_strong, cX10_strong, 5, some .int) : MethodName × (ByteArray × (Nat × Option FieldType))), ((yX10_lowest, cX10_lowest, 11, some .long) : MethodName × (ByteArray × (Nat × Option FieldType))), ((yX10_odds, cX10_odds, 6, some .long) : MethodName × (ByteArray × (Nat × Option FieldType))), ((yX10_mean, cX10_mean, 6, some .long) : MethodName × (ByteArray × (Nat × Option FieldType))), ((yX10_book, cX10_book, 4, some .int) : MethodName × (ByteArray × (Nat × Option FieldType)))], zmkW q ∈ lw_tbl := List.forall_mem_cons.mpr ⟨zmk_144, List.forall_mem_cons.mpr ⟨zmk_145, List.forall_mem_cons.mpr ⟨zmk_146, List.forall_mem_cons.mpr ⟨zmk_147, List.forall_mem_cons.mpr ⟨zmk_148, List.forall_mem_cons.mpr ⟨zmk_149, List.forall_mem_cons.mpr ⟨zmk_150, List.forall_mem_cons.mpr ⟨zmk_151, List.forall_mem_cons.mpr ⟨zmk_152, List.forall_mem_cons.mpr ⟨zmk_153, List.forall_mem_cons.mpr ⟨zmk_154, List.forall_mem_cons.mpr ⟨zmk_155, List.forall_mem_cons.mpr ⟨zmk_156, List.forall_mem_cons.mpr ⟨zmk_157, List.forall_mem_cons.mpr ⟨zmk_158, List.forall_mem_cons.mpr ⟨zmk_159, fun _ h => absurd h List.not_mem_nil⟩⟩⟩⟩⟩⟩⟩⟩⟩⟩⟩⟩⟩⟩⟩⟩
theorem zmk_r10 : ∀ q ∈ [((yX10_looked, cX10_looked, 2, some .int) : MethodName × (ByteArray × (Nat × Option FieldType))), ((yX10_ranBody, cX10_ranBody, 2, none) : MethodName × (ByteArray × (Nat × Option FieldType))), ((yX10_isUnder, cX10_isUnder, 2, some .boolean) : MethodName × (ByteArray × (Nat × Option FieldType))), ((yX10_plainGives, cX10_plainGives, 2, some .int) : MethodName × (ByteArray × (Nat × Option FieldType))), ((yX10_givesActs, cX10_givesActs, 2, some .int) : MethodName × (ByteArray × (Nat × Option FieldType))), ((yX10_plainTakes, cX10_plainTakes, 2, some .int) : MethodName × (ByteArray × (Nat × Option FieldType))), ((yX10_takesActs, cX10_takesActs, 2, some .int) : MethodName × (ByteArray × (Nat × Option FieldType))), ((yX10_plainTells, cX10_plainTells, 2, some .int) : MethodName × (ByteArray × (Nat × Option FieldType))), ((yX10_tellsActs, cX10_tellsActs, 3, some .int) : MethodName × (ByteArray × (Nat × Option FieldType))), ((yX10_act, cX10_act, 4, some .int) : MethodName × (ByteArray × (Nat × Option FieldType))), ((yX10_trace, cX10_trace, 2, some .int) : MethodName × (ByteArray × (Nat × Option FieldType))), ((yX10_as, cX10_as, 3, some .int) : MethodName × (ByteArray × (Nat × Option FieldType))), ((yX10_image, cX10_image, 2, some .int) : MethodName × (ByteArray × (Nat × Option FieldType))), ((yX10_undo, cX10_undo, 2, some .int) : MethodName × (ByteArray × (Nat × Option FieldType))), ((yX10_count, cX10_count, 2, some .int) : MethodName × (ByteArray × (Nat × Option FieldType)))], zmkW q ∈ lw_tbl := List.forall_mem_cons.mpr ⟨zmk_160, List.forall_mem_cons.mpr ⟨zmk_161, List.forall_mem_cons.mpr ⟨zmk_162, List.forall_mem_cons.mpr ⟨zmk_163, List.forall_mem_cons.mpr ⟨zmk_164, List.forall_mem_cons.mpr ⟨zmk_165, List.forall_mem_cons.mpr ⟨zmk_166, List.forall_mem_cons.mpr ⟨zmk_167, List.forall_mem_cons.mpr ⟨zmk_168, List.forall_mem_cons.mpr ⟨zmk_169, List.forall_mem_cons.mpr ⟨zmk_170, List.forall_mem_cons.mpr ⟨zmk_171, List.forall_mem_cons.mpr ⟨zmk_172, List.forall_mem_cons.mpr ⟨zmk_173, List.forall_mem_cons.mpr ⟨zmk_174, fun _ h => absurd h List.not_mem_nil⟩⟩⟩⟩⟩⟩⟩⟩⟩⟩⟩⟩⟩⟩⟩
set_option maxRecDepth 100000 in
theorem zmk_ok : ∀ q ∈ zmT, zmkW q ∈ lw_tbl := List.forall_mem_append.mpr ⟨zmk_r0, List.forall_mem_append.mpr ⟨zmk_r1, List.forall_mem_append.mpr ⟨zmk_r2, List.forall_mem_append.mpr ⟨zmk_r3, List.forall_mem_append.mpr ⟨zmk_r4, List.forall_mem_append.mpr ⟨zmk_r5, List.forall_mem_append.mpr ⟨zmk_r6, List.forall_mem_append.mpr ⟨zmk_r7, List.forall_mem_append.mpr ⟨zmk_r8, List.forall_mem_append.mpr ⟨zmk_r9, zmk_r10⟩⟩⟩⟩⟩⟩⟩⟩⟩⟩
def zcwP : List (List Nat) := [[333, 335, 337, 339, 341], [211, 213, 215, 217, 219, 221, 223], [167, 169], [299, 301, 303, 305, 307, 309, 311, 313, 315, 317], [140, 142, 144, 146, 148, 150, 152, 154], [267, 269, 271, 273], [247, 249, 251, 253, 255, 257, 259], [186, 188, 190, 192], [103, 105], [353, 355, 357, 359, 361, 363, 365, 367], [865, 867, 869, 871, 873, 875, 877, 879, 881, 883, 885, 887, 889, 891, 893, 895, 897, 899, 901, 903, 905, 907, 909, 911, 913, 915]]
def zotP : List Nat := [502, 501, 77, 636, 388, 72, 800, 1079, 735, 1116, 1117, 1125, 412, 413, 73, 422, 423]
def zotW : List Cond := [.native arraycopyName, .static arraycopyName, .initialized "java/lang/System", .static Lib.Math.max.name, .static Lib.Math.min.name, .initialized "java/lang/Math", .fieldLink RX4 37 "EggDrop$Layers" "ABOVE" "[I", .constant RX10 188 100000, .constantLong RX9 220 (-9223372036854775808), .constantLong RX10 195 (-9223372036854775808), .constantLong RX10 197 40, .constantLong RX10 203 4,
  .instanceMethod yJ0_length_8abf5, .selects RJ0 yJ0_length_8abf5 yJ0_length_8abf5, .initialized RJ0, .instanceMethod yJ0_charAt_5068e, .selects RJ0 yJ0_charAt_5068e yJ0_charAt_5068e]
set_option maxRecDepth 100000 in
theorem zfl_ok : zpkL (zflP.map (fun i => [i])) (zFL.map (fun e => [zflW e])) = true := by decide +kernel
set_option maxRecDepth 100000 in
theorem zml_ok : zpkL zmlP (zML.map zmlW) = true := by decide +kernel
set_option maxRecDepth 100000 in
theorem zmc_ok : zpkL zmcP (zmT.map zmcW) = true := by decide +kernel
set_option maxRecDepth 100000 in
theorem zcw_ok : zpkL zcwP [wsX00, wsX10, wsX20, wsX30, wsX40, wsX50, wsX60, wsX70, wsX80, wsX90, wsX100] = true := by decide +kernel
set_option maxRecDepth 100000 in
theorem zot_ok : zpk zotP zotW = true := by decide +kernel
/-- the words that every method of ours takes along -/
def zgw : List Cond := lw_tbl.filter goodWord
theorem zgw_of {w : Cond} (h : w ∈ lw_tbl ∧ goodWord w = true) : w ∈ zgw := List.mem_filter.mpr h
theorem zgw_in {w : Cond} (h : w ∈ zgw) : w ∈ lw_tbl ∧ goodWord w = true := List.mem_filter.mp h
theorem zfl_in {e : Nat × (Nat × (Nat × Nat))} (h : e ∈ zFL) : zflW e ∈ zgw := zgw_of (zpkL_in zfl_ok _ (List.mem_map.mpr ⟨e, h, rfl⟩) _ List.mem_cons_self)
theorem zml_in {e : Nat × (Nat × (Nat × Nat))} (h : e ∈ zML) : ∀ w ∈ zmlW e, w ∈ zgw := fun w hw => zgw_of (zpkL_in zml_ok _ (List.mem_map.mpr ⟨e, h, rfl⟩) _ hw)
theorem zmc_in {q : MethodName × (ByteArray × (Nat × Option FieldType))} (h : q ∈ zmT) : ∀ w ∈ zmcW q, w ∈ zgw := fun w hw => zgw_of (zpkL_in zmc_ok _ (List.mem_map.mpr ⟨q, h, rfl⟩) _ hw)
theorem zmk_in {q : MethodName × (ByteArray × (Nat × Option FieldType))} (h : q ∈ zmT) : zmkW q ∈ zgw := zgw_of ⟨zmk_ok q h, rfl⟩
set_option maxRecDepth 100000 in
theorem zmax_in : (.code Lib.Math.max.name Lib.Math.max.code 2 (some .int) : Cond) ∈ zgw := zgw_of ⟨zt_3 _ (List.mem_of_getElem? (i := 97) rfl), rfl⟩
set_option maxRecDepth 100000 in
theorem zmin_in : (.code Lib.Math.min.name Lib.Math.min.code 2 (some .int) : Cond) ∈ zgw := zgw_of ⟨zt_2 _ (List.mem_of_getElem? (i := 89) rfl), rfl⟩
set_option maxRecDepth 100000 in
theorem zc_J9_max_7cf53_in : (.code yJ9_max_7cf53 cJ9_max_7cf53 2 (some .int) : Cond) ∈ zgw := zgw_of ⟨zt_3 _ (List.mem_of_getElem? (i := 97) rfl), rfl⟩
set_option maxRecDepth 100000 in
theorem zc_J9_min_7cf53_in : (.code yJ9_min_7cf53 cJ9_min_7cf53 2 (some .int) : Cond) ∈ zgw := zgw_of ⟨zt_2 _ (List.mem_of_getElem? (i := 89) rfl), rfl⟩
set_option maxRecDepth 100000 in
theorem zc_J0_length_8abf5_in : (.code yJ0_length_8abf5 cJ0_length_8abf5 1 (some .int) : Cond) ∈ zgw := zgw_of ⟨zt_2 _ (List.mem_of_getElem? (i := 114) rfl), rfl⟩
set_option maxRecDepth 100000 in
theorem zc_J0_charAt_5068e_in : (.code yJ0_charAt_5068e cJ0_charAt_5068e 2 (some .char) : Cond) ∈ zgw := zgw_of ⟨zt_2 _ (List.mem_of_getElem? (i := 124) rfl), rfl⟩
set_option maxRecDepth 100000 in
theorem zc_J0_coder_7d493_in : (.code yJ0_coder_7d493 cJ0_coder_7d493 1 (some .byte) : Cond) ∈ zgw := zgw_of ⟨zt_2 _ (List.mem_of_getElem? (i := 118) rfl), rfl⟩
set_option maxRecDepth 100000 in
theorem zc_J0_isLatin1_aae02_in : (.code yJ0_isLatin1_aae02 cJ0_isLatin1_aae02 1 (some .boolean) : Cond) ∈ zgw := zgw_of ⟨zt_2 _ (List.mem_of_getElem? (i := 128) rfl), rfl⟩
set_option maxRecDepth 100000 in
theorem zc_J0_checkIndex_df160_in : (.code yJ0_checkIndex_df160 cJ0_checkIndex_df160 2 none : Cond) ∈ zgw := zgw_of ⟨zt_2 _ (List.mem_of_getElem? (i := 134) rfl), rfl⟩
set_option maxRecDepth 100000 in
theorem zc_J1_charAt_3b067_in : (.code yJ1_charAt_3b067 cJ1_charAt_3b067 2 (some .char) : Cond) ∈ zgw := zgw_of ⟨zt_2 _ (List.mem_of_getElem? (i := 131) rfl), rfl⟩
set_option maxRecDepth 100000 in
theorem zc_J2_getChar_3b067_in : (.code yJ2_getChar_3b067 cJ2_getChar_3b067 2 (some .char) : Cond) ∈ zgw := zgw_of ⟨zt_2 _ (List.mem_of_getElem? (i := 152) rfl), rfl⟩
set_option maxRecDepth 100000 in
theorem zc_J2_length_9d52b_in : (.code yJ2_length_9d52b cJ2_length_9d52b 1 (some .int) : Cond) ∈ zgw := zgw_of ⟨zt_2 _ (List.mem_of_getElem? (i := 148) rfl), rfl⟩
set_option maxRecDepth 100000 in
theorem zc_J2_charAt_3b067_in : (.code yJ2_charAt_3b067 cJ2_charAt_3b067 2 (some .char) : Cond) ∈ zgw := zgw_of ⟨zt_2 _ (List.mem_of_getElem? (i := 142) rfl), rfl⟩
set_option maxRecDepth 100000 in
theorem zc_J2_checkIndex_2214a_in : (.code yJ2_checkIndex_2214a cJ2_checkIndex_2214a 2 none : Cond) ∈ zgw := zgw_of ⟨zt_2 _ (List.mem_of_getElem? (i := 145) rfl), rfl⟩
set_option maxRecDepth 100000 in
theorem zc_J3_checkIndex_8e157_in : (.code yJ3_checkIndex_8e157 cJ3_checkIndex_8e157 3 (some .int) : Cond) ∈ zgw := zgw_of ⟨zt_2 _ (List.mem_of_getElem? (i := 139) rfl), rfl⟩
theorem zot_in : ∀ w ∈ zotW, w ∈ zgw := fun w hw => zgw_of (zpk_in zot_ok w hw)
theorem zcw_in {l : List Cond} (h : l ∈ [wsX00, wsX10, wsX20, wsX30, wsX40, wsX50, wsX60, wsX70, wsX80, wsX90, wsX100]) : ∀ w ∈ l, w ∈ zgw := fun w hw => zgw_of (zpkL_in zcw_ok _ h _ hw)
