/-! THE LAW: its calls, one by one (by gen9.py) -/
section
variable {l : Launch} {p : Program} {e : Env} {s : State} {m : MethodId} {below : List Frame} {meth : Method} {c : Code} {b L : Nat} {xs : Nat → Int32} {dC : Nat → ClassId} {dI : Nat → Nat → Nat} {cI cZ cS : ClassId} {ad : zAD} {adV : Nat → Nat} {Q : State → Prop} {cells slots : Nat}
set_option maxHeartbeats 4000000 in
set_option maxRecDepth 100000 in
theorem law_c0 (h : lw_H l p s m meth c b L xs dC dI cI cZ cS ad adV) {i : Nat} (hi : i + 6 ≤ L) {I : zMI} {rl rs : Option (Nat × Nat)} {H : Heap} {locs : List Loc} {ls : Array Slot} (hl : lv_has ls 4 [(0, .ref b), (1, .ref (ad 9 0)), (2, .ref (ad 10 0)), (3, .int (nI i))]) (hR : zRel I) (hP : va_P (dC, dI) vwCl (zws cI cZ cS ad I (zRR rl rs)) H) (hG : zVG (zRR rl rs)) (hS : va_S (fun q : Nat => s.heap.size ≤ q) s.heap H locs) (hf : cells ≤ room_1.cells ∧ slots ≤ room_1.slots) (back : lw_B l p e s m below meth c b dC dI cI cZ cS ad Q cells slots ls) : W p l e room_1 s m #[Value.ref b] below meth c H locs cells slots Q (F0 m 164 ls []) := by
  obtain ⟨⟨hx, hb, hr, hml, hown, hts, hX, hbl, hlocks, hgv⟩, hL, -⟩ := id h
  refine lv_aload_n hx hb (show decode code 164 = .ok (.aload_n 1, 1) by decide +kernel) rfl (lv_at hl 1 rfl) ?_
  refine law_arg (j := 1) h (by decide) (by decide +kernel) hl (by omega) hS ?_
  refine law_call (k := 64) (c0 := 9) (x := 13) (nA := 1) (a := [zi (xs (i + 1))]) (rest := []) h (by decide +kernel) (zWm_i (by decide +kernel) ((zPr_2 (p_feed _)) 0 I rl rs hR)) ⟨trivial, trivial⟩ (Or.inl rfl) (show decode code 170 = .ok (.invokevirtual 13, 3) by decide +kernel) (by decide +kernel) (by decide +kernel) rfl (by decide) hP hS hl.1 hG hf (fun v1 I1 G1 H1 locs1 q1 hP1 hG1 hS1 => ?_)
  obtain ⟨⟨y, rfl⟩, rl1, rs1, rfl, hz2⟩ := q1
  refine lv_aload_n hx hb (show decode code 173 = .ok (.aload_n 2, 1) by decide +kernel) rfl (lv_at hl 2 rfl) ?_
  refine law_arg (j := 1) h (by decide) (by decide +kernel) hl (by omega) hS1 ?_
  refine law_call (k := 113) (c0 := 10) (x := 17) (nA := 1) (a := [zi (xs (i + 1))]) (rest := [.int y]) h (by decide +kernel) (zWm_i (by decide +kernel) hz2) ⟨trivial, trivial⟩ (Or.inr rfl) (show decode code 179 = .ok (.invokevirtual 17, 3) by decide +kernel) (by decide +kernel) (by decide +kernel) rfl (Nat.le_of_ble_eq_true rfl) hP1 hS1 hl.1 hG1 hf (fun v2 I2 G2 H2 locs2 q2 hP2 hG2 hS2 => ?_)
  obtain ⟨⟨y2, rfl⟩, e2, hR2, rl2, rs2, rfl⟩ := q2
  have e3 : y = y2 := by cases e2; rfl
  refine lv_icmp_eq (tgt := 1085) hx hb (show decode code 182 = .ok (.if_icmp .eq 903, 3) by decide +kernel) (by decide) (fun _ => ?_) (fun q => absurd e3 q)
  exact back I2 rl2 rs2 H2 locs2 hR2 hP2 hG2 hS2
set_option maxHeartbeats 4000000 in
set_option maxRecDepth 100000 in
theorem law_c1 (h : lw_H l p s m meth c b L xs dC dI cI cZ cS ad adV) {i : Nat} (hi : i + 6 ≤ L) {I : zMI} {rl rs : Option (Nat × Nat)} {H : Heap} {locs : List Loc} {ls : Array Slot} (hl : lv_has ls 4 [(0, .ref b), (1, .ref (ad 9 0)), (2, .ref (ad 10 0)), (3, .int (nI i))]) (hR : zRel I) (hP : va_P (dC, dI) vwCl (zws cI cZ cS ad I (zRR rl rs)) H) (hG : zVG (zRR rl rs)) (hS : va_S (fun q : Nat => s.heap.size ≤ q) s.heap H locs) (hf : cells ≤ room_1.cells ∧ slots ≤ room_1.slots) (back : lw_B l p e s m below meth c b dC dI cI cZ cS ad Q cells slots ls) : W p l e room_1 s m #[Value.ref b] below meth c H locs cells slots Q (F0 m 187 ls []) := by
  obtain ⟨⟨hx, hb, hr, hml, hown, hts, hX, hbl, hlocks, hgv⟩, hL, -⟩ := id h
  refine lv_aload_n hx hb (show decode code 187 = .ok (.aload_n 1, 1) by decide +kernel) rfl (lv_at hl 1 rfl) ?_
  refine law_call (k := 65) (c0 := 9) (x := 18) (nA := 0) (a := []) (rest := []) h (by decide +kernel) (zWm_i (by decide +kernel) ((p_school) 0 I rl rs hR)) trivial (Or.inl rfl) (show decode code 188 = .ok (.invokevirtual 18, 3) by decide +kernel) (by decide +kernel) (by decide +kernel) rfl (by decide) hP hS hl.1 hG hf (fun v1 I1 G1 H1 locs1 q1 hP1 hG1 hS1 => ?_)
  obtain ⟨⟨y, rfl⟩, rl1, rs1, rfl, hz2⟩ := q1
  refine lv_aload_n hx hb (show decode code 191 = .ok (.aload_n 2, 1) by decide +kernel) rfl (lv_at hl 2 rfl) ?_
  refine law_call (k := 126) (c0 := 10) (x := 22) (nA := 0) (a := []) (rest := [.int y]) h (by decide +kernel) (zWm_i (by decide +kernel) hz2) trivial (Or.inr rfl) (show decode code 192 = .ok (.invokevirtual 22, 3) by decide +kernel) (by decide +kernel) (by decide +kernel) rfl (Nat.le_of_ble_eq_true rfl) hP1 hS1 hl.1 hG1 hf (fun v2 I2 G2 H2 locs2 q2 hP2 hG2 hS2 => ?_)
  obtain ⟨⟨y2, rfl⟩, e2, hR2, rl2, rs2, rfl⟩ := q2
  have e3 : y = y2 := by cases e2; rfl
  refine lv_icmp_eq (tgt := 1085) hx hb (show decode code 195 = .ok (.if_icmp .eq 890, 3) by decide +kernel) (by decide) (fun _ => ?_) (fun q => absurd e3 q)
  exact back I2 rl2 rs2 H2 locs2 hR2 hP2 hG2 hS2
set_option maxHeartbeats 4000000 in
set_option maxRecDepth 100000 in
theorem law_c2 (h : lw_H l p s m meth c b L xs dC dI cI cZ cS ad adV) {i : Nat} (hi : i + 6 ≤ L) {I : zMI} {rl rs : Option (Nat × Nat)} {H : Heap} {locs : List Loc} {ls : Array Slot} (hl : lv_has ls 4 [(0, .ref b), (1, .ref (ad 9 0)), (2, .ref (ad 10 0)), (3, .int (nI i))]) (hR : zRel I) (hP : va_P (dC, dI) vwCl (zws cI cZ cS ad I (zRR rl rs)) H) (hG : zVG (zRR rl rs)) (hS : va_S (fun q : Nat => s.heap.size ≤ q) s.heap H locs) (hf : cells ≤ room_1.cells ∧ slots ≤ room_1.slots) (back : lw_B l p e s m below meth c b dC dI cI cZ cS ad Q cells slots ls) : W p l e room_1 s m #[Value.ref b] below meth c H locs cells slots Q (F0 m 200 ls []) := by
  obtain ⟨⟨hx, hb, hr, hml, hown, hts, hX, hbl, hlocks, hgv⟩, hL, -⟩ := id h
  refine lv_aload_n hx hb (show decode code 200 = .ok (.aload_n 1, 1) by decide +kernel) rfl (lv_at hl 1 rfl) ?_
  refine law_arg (j := 1) h (by decide) (by decide +kernel) hl (by omega) hS ?_
  refine law_arg (j := 2) h (by decide) (by decide +kernel) hl (by omega) hS ?_
  refine law_arg (j := 3) h (by decide) (by decide +kernel) hl (by omega) hS ?_
  refine law_arg (j := 4) h (by decide) (by decide +kernel) hl (by omega) hS ?_
  refine law_arg (j := 5) h (by decide) (by decide +kernel) hl (by omega) hS ?_
  refine law_call (k := 66) (c0 := 9) (x := 23) (nA := 5) (a := [zi (xs (i + 1)), zi (xs (i + 2)), zi (xs (i + 3)), zi (xs (i + 4)), zi (xs (i + 5))]) (rest := []) h (by decide +kernel) (zWm_i (by decide +kernel) ((zPr_2 (p_layer _ _ _ _ _)) 0 I rl rs hR)) ⟨trivial, trivial, trivial, trivial, trivial, trivial⟩ (Or.inl rfl) (show decode code 226 = .ok (.invokevirtual 23, 3) by decide +kernel) (by decide +kernel) (by decide +kernel) rfl (by decide) hP hS hl.1 hG hf (fun v1 I1 G1 H1 locs1 q1 hP1 hG1 hS1 => ?_)
  obtain ⟨⟨y, rfl⟩, rl1, rs1, rfl, hz2⟩ := q1
  refine lv_aload_n hx hb (show decode code 229 = .ok (.aload_n 2, 1) by decide +kernel) rfl (lv_at hl 2 rfl) ?_
  refine law_arg (j := 1) h (by decide) (by decide +kernel) hl (by omega) hS1 ?_
  refine law_arg (j := 2) h (by decide) (by decide +kernel) hl (by omega) hS1 ?_
  refine law_arg (j := 3) h (by decide) (by decide +kernel) hl (by omega) hS1 ?_
  refine law_arg (j := 4) h (by decide) (by decide +kernel) hl (by omega) hS1 ?_
  refine law_arg (j := 5) h (by decide) (by decide +kernel) hl (by omega) hS1 ?_
  refine law_call (k := 130) (c0 := 10) (x := 27) (nA := 5) (a := [zi (xs (i + 1)), zi (xs (i + 2)), zi (xs (i + 3)), zi (xs (i + 4)), zi (xs (i + 5))]) (rest := [.int y]) h (by decide +kernel) (zWm_i (by decide +kernel) hz2) ⟨trivial, trivial, trivial, trivial, trivial, trivial⟩ (Or.inr rfl) (show decode code 255 = .ok (.invokevirtual 27, 3) by decide +kernel) (by decide +kernel) (by decide +kernel) rfl (Nat.le_of_ble_eq_true rfl) hP1 hS1 hl.1 hG1 hf (fun v2 I2 G2 H2 locs2 q2 hP2 hG2 hS2 => ?_)
  obtain ⟨⟨y2, rfl⟩, e2, hR2, rl2, rs2, rfl⟩ := q2
  have e3 : y = y2 := by cases e2; rfl
  refine lv_icmp_eq (tgt := 1085) hx hb (show decode code 258 = .ok (.if_icmp .eq 827, 3) by decide +kernel) (by decide) (fun _ => ?_) (fun q => absurd e3 q)
  exact back I2 rl2 rs2 H2 locs2 hR2 hP2 hG2 hS2
set_option maxHeartbeats 4000000 in
set_option maxRecDepth 100000 in
theorem law_c3 (h : lw_H l p s m meth c b L xs dC dI cI cZ cS ad adV) {i : Nat} (hi : i + 6 ≤ L) {I : zMI} {rl rs : Option (Nat × Nat)} {H : Heap} {locs : List Loc} {ls : Array Slot} (hl : lv_has ls 4 [(0, .ref b), (1, .ref (ad 9 0)), (2, .ref (ad 10 0)), (3, .int (nI i))]) (hR : zRel I) (hP : va_P (dC, dI) vwCl (zws cI cZ cS ad I (zRR rl rs)) H) (hG : zVG (zRR rl rs)) (hS : va_S (fun q : Nat => s.heap.size ≤ q) s.heap H locs) (hf : cells ≤ room_1.cells ∧ slots ≤ room_1.slots) (back : lw_B l p e s m below meth c b dC dI cI cZ cS ad Q cells slots ls) : W p l e room_1 s m #[Value.ref b] below meth c H locs cells slots Q (F0 m 263 ls []) := by
  obtain ⟨⟨hx, hb, hr, hml, hown, hts, hX, hbl, hlocks, hgv⟩, hL, -⟩ := id h
  refine lv_aload_n hx hb (show decode code 263 = .ok (.aload_n 1, 1) by decide +kernel) rfl (lv_at hl 1 rfl) ?_
  refine law_arg (j := 1) h (by decide) (by decide +kernel) hl (by omega) hS ?_
  refine law_arg (j := 2) h (by decide) (by decide +kernel) hl (by omega) hS ?_
  refine law_call (k := 67) (c0 := 9) (x := 28) (nA := 2) (a := [zi (xs (i + 1)), zi (xs (i + 2))]) (rest := []) h (by decide +kernel) (zWm_i (by decide +kernel) ((zPr_2 (p_of _ _)) 0 I rl rs hR)) ⟨trivial, trivial, trivial⟩ (Or.inl rfl) (show decode code 274 = .ok (.invokevirtual 28, 3) by decide +kernel) (by decide +kernel) (by decide +kernel) rfl (by decide) hP hS hl.1 hG hf (fun v1 I1 G1 H1 locs1 q1 hP1 hG1 hS1 => ?_)
  obtain ⟨⟨y, rfl⟩, rl1, rs1, rfl, hz2⟩ := q1
  refine lv_aload_n hx hb (show decode code 277 = .ok (.aload_n 2, 1) by decide +kernel) rfl (lv_at hl 2 rfl) ?_
  refine law_arg (j := 1) h (by decide) (by decide +kernel) hl (by omega) hS1 ?_
  refine law_arg (j := 2) h (by decide) (by decide +kernel) hl (by omega) hS1 ?_
  refine law_call (k := 131) (c0 := 10) (x := 32) (nA := 2) (a := [zi (xs (i + 1)), zi (xs (i + 2))]) (rest := [.int y]) h (by decide +kernel) (zWm_i (by decide +kernel) hz2) ⟨trivial, trivial, trivial⟩ (Or.inr rfl) (show decode code 288 = .ok (.invokevirtual 32, 3) by decide +kernel) (by decide +kernel) (by decide +kernel) rfl (Nat.le_of_ble_eq_true rfl) hP1 hS1 hl.1 hG1 hf (fun v2 I2 G2 H2 locs2 q2 hP2 hG2 hS2 => ?_)
  obtain ⟨⟨y2, rfl⟩, e2, hR2, rl2, rs2, rfl⟩ := q2
  have e3 : y = y2 := by cases e2; rfl
  refine lv_icmp_eq (tgt := 1085) hx hb (show decode code 291 = .ok (.if_icmp .eq 794, 3) by decide +kernel) (by decide) (fun _ => ?_) (fun q => absurd e3 q)
  exact back I2 rl2 rs2 H2 locs2 hR2 hP2 hG2 hS2
set_option maxHeartbeats 4000000 in
set_option maxRecDepth 100000 in
theorem law_c4 (h : lw_H l p s m meth c b L xs dC dI cI cZ cS ad adV) {i : Nat} (hi : i + 6 ≤ L) {I : zMI} {rl rs : Option (Nat × Nat)} {H : Heap} {locs : List Loc} {ls : Array Slot} (hl : lv_has ls 4 [(0, .ref b), (1, .ref (ad 9 0)), (2, .ref (ad 10 0)), (3, .int (nI i))]) (hR : zRel I) (hP : va_P (dC, dI) vwCl (zws cI cZ cS ad I (zRR rl rs)) H) (hG : zVG (zRR rl rs)) (hS : va_S (fun q : Nat => s.heap.size ≤ q) s.heap H locs) (hf : cells ≤ room_1.cells ∧ slots ≤ room_1.slots) (back : lw_B l p e s m below meth c b dC dI cI cZ cS ad Q cells slots ls) : W p l e room_1 s m #[Value.ref b] below meth c H locs cells slots Q (F0 m 296 ls []) := by
  obtain ⟨⟨hx, hb, hr, hml, hown, hts, hX, hbl, hlocks, hgv⟩, hL, -⟩ := id h
  refine lv_aload_n hx hb (show decode code 296 = .ok (.aload_n 1, 1) by decide +kernel) rfl (lv_at hl 1 rfl) ?_
  refine law_arg (j := 1) h (by decide) (by decide +kernel) hl (by omega) hS ?_
  refine law_arg (j := 2) h (by decide) (by decide +kernel) hl (by omega) hS ?_
  refine law_call (k := 68) (c0 := 9) (x := 33) (nA := 2) (a := [zi (xs (i + 1)), zi (xs (i + 2))]) (rest := []) h (by decide +kernel) (zWm_i (by decide +kernel) ((zPr_2 (p_side _ _)) 0 I rl rs hR)) ⟨trivial, trivial, trivial⟩ (Or.inl rfl) (show decode code 307 = .ok (.invokevirtual 33, 3) by decide +kernel) (by decide +kernel) (by decide +kernel) rfl (by decide) hP hS hl.1 hG hf (fun v1 I1 G1 H1 locs1 q1 hP1 hG1 hS1 => ?_)
  obtain ⟨⟨y, rfl⟩, rl1, rs1, rfl, hz2⟩ := q1
  refine lv_aload_n hx hb (show decode code 310 = .ok (.aload_n 2, 1) by decide +kernel) rfl (lv_at hl 2 rfl) ?_
  refine law_arg (j := 1) h (by decide) (by decide +kernel) hl (by omega) hS1 ?_
  refine law_arg (j := 2) h (by decide) (by decide +kernel) hl (by omega) hS1 ?_
  refine law_call (k := 132) (c0 := 10) (x := 36) (nA := 2) (a := [zi (xs (i + 1)), zi (xs (i + 2))]) (rest := [.int y]) h (by decide +kernel) (zWm_i (by decide +kernel) hz2) ⟨trivial, trivial, trivial⟩ (Or.inr rfl) (show decode code 321 = .ok (.invokevirtual 36, 3) by decide +kernel) (by decide +kernel) (by decide +kernel) rfl (Nat.le_of_ble_eq_true rfl) hP1 hS1 hl.1 hG1 hf (fun v2 I2 G2 H2 locs2 q2 hP2 hG2 hS2 => ?_)
  obtain ⟨⟨y2, rfl⟩, e2, hR2, rl2, rs2, rfl⟩ := q2
  have e3 : y = y2 := by cases e2; rfl
  refine lv_icmp_eq (tgt := 1085) hx hb (show decode code 324 = .ok (.if_icmp .eq 761, 3) by decide +kernel) (by decide) (fun _ => ?_) (fun q => absurd e3 q)
  exact back I2 rl2 rs2 H2 locs2 hR2 hP2 hG2 hS2
set_option maxHeartbeats 4000000 in
set_option maxRecDepth 100000 in
theorem law_c5 (h : lw_H l p s m meth c b L xs dC dI cI cZ cS ad adV) {i : Nat} (hi : i + 6 ≤ L) {I : zMI} {rl rs : Option (Nat × Nat)} {H : Heap} {locs : List Loc} {ls : Array Slot} (hl : lv_has ls 4 [(0, .ref b), (1, .ref (ad 9 0)), (2, .ref (ad 10 0)), (3, .int (nI i))]) (hR : zRel I) (hP : va_P (dC, dI) vwCl (zws cI cZ cS ad I (zRR rl rs)) H) (hG : zVG (zRR rl rs)) (hS : va_S (fun q : Nat => s.heap.size ≤ q) s.heap H locs) (hf : cells ≤ room_1.cells ∧ slots ≤ room_1.slots) (back : lw_B l p e s m below meth c b dC dI cI cZ cS ad Q cells slots ls) : W p l e room_1 s m #[Value.ref b] below meth c H locs cells slots Q (F0 m 329 ls []) := by
  obtain ⟨⟨hx, hb, hr, hml, hown, hts, hX, hbl, hlocks, hgv⟩, hL, -⟩ := id h
  by_cases hb0 : xs (i + 2) = 0
  · refine lv_aload_n hx hb (show decode code 329 = .ok (.aload_n 1, 1) by decide +kernel) rfl (lv_at hl 1 rfl) ?_
    refine law_arg (j := 1) h (by decide) (by decide +kernel) hl (by omega) hS ?_
    refine law_arg (j := 2) h (by decide) (by decide +kernel) hl (by omega) hS ?_
    refine lv_if_eq (tgt := 347) hx hb (show decode code 340 = .ok (.ifCond .eq 7, 3) by decide +kernel) (by decide) (fun _ => ?_) (fun q => absurd hb0 q)
    refine lv_iconst (v := 0) hx hb (show decode code 347 = .ok (.iconst 0, 1) by decide +kernel) (by decide) ?_
    refine law_call (k := 69) (c0 := 9) (x := 37) (nA := 2) (a := [zi (xs (i + 1)), zi 0]) (rest := []) h (by decide +kernel) (zWm_i (by decide +kernel) ((zPr_2 (p_broken _ (b := 0) (Or.inl rfl))) 0 I rl rs hR)) ⟨trivial, trivial, trivial⟩ (Or.inl rfl) (show decode code 348 = .ok (.invokevirtual 37, 3) by decide +kernel) (by decide +kernel) (by decide +kernel) rfl (by decide) hP hS hl.1 hG hf (fun v1 I1 G1 H1 locs1 q1 hP1 hG1 hS1 => ?_)
    obtain ⟨⟨y, rfl⟩, rl1, rs1, rfl, hz2⟩ := q1
    refine lv_aload_n hx hb (show decode code 351 = .ok (.aload_n 2, 1) by decide +kernel) rfl (lv_at hl 2 rfl) ?_
    refine law_arg (j := 1) h (by decide) (by decide +kernel) hl (by omega) hS1 ?_
    refine law_arg (j := 2) h (by decide) (by decide +kernel) hl (by omega) hS1 ?_
    refine lv_if_eq (tgt := 369) hx hb (show decode code 362 = .ok (.ifCond .eq 7, 3) by decide +kernel) (by decide) (fun _ => ?_) (fun q => absurd hb0 q)
    refine lv_iconst (v := 0) hx hb (show decode code 369 = .ok (.iconst 0, 1) by decide +kernel) (by decide) ?_
    refine law_call (k := 133) (c0 := 10) (x := 41) (nA := 2) (a := [zi (xs (i + 1)), zi 0]) (rest := [.int y]) h (by decide +kernel) (zWm_i (by decide +kernel) hz2) ⟨trivial, trivial, trivial⟩ (Or.inr rfl) (show decode code 370 = .ok (.invokevirtual 41, 3) by decide +kernel) (by decide +kernel) (by decide +kernel) rfl (Nat.le_of_ble_eq_true rfl) hP1 hS1 hl.1 hG1 hf (fun v2 I2 G2 H2 locs2 q2 hP2 hG2 hS2 => ?_)
    obtain ⟨⟨y2, rfl⟩, e2, hR2, rl2, rs2, rfl⟩ := q2
    have e3 : y = y2 := by cases e2; rfl
    refine lv_icmp_eq (tgt := 1085) hx hb (show decode code 373 = .ok (.if_icmp .eq 712, 3) by decide +kernel) (by decide) (fun _ => ?_) (fun q => absurd e3 q)
    exact back I2 rl2 rs2 H2 locs2 hR2 hP2 hG2 hS2
  · refine lv_aload_n hx hb (show decode code 329 = .ok (.aload_n 1, 1) by decide +kernel) rfl (lv_at hl 1 rfl) ?_
    refine law_arg (j := 1) h (by decide) (by decide +kernel) hl (by omega) hS ?_
    refine law_arg (j := 2) h (by decide) (by decide +kernel) hl (by omega) hS ?_
    refine lv_if_eq (tgt := 347) hx hb (show decode code 340 = .ok (.ifCond .eq 7, 3) by decide +kernel) (by decide) (fun q => absurd q hb0) (fun _ => ?_)
    refine lv_iconst (v := 1) hx hb (show decode code 343 = .ok (.iconst 1, 1) by decide +kernel) (by decide) ?_
    refine lv_goto (tgt := 348) hx hb (show decode code 344 = .ok (.goto 4, 3) by decide +kernel) (by decide) ?_
    refine law_call (k := 69) (c0 := 9) (x := 37) (nA := 2) (a := [zi (xs (i + 1)), zi 1]) (rest := []) h (by decide +kernel) (zWm_i (by decide +kernel) ((zPr_2 (p_broken _ (b := 1) (Or.inr rfl))) 0 I rl rs hR)) ⟨trivial, trivial, trivial⟩ (Or.inl rfl) (show decode code 348 = .ok (.invokevirtual 37, 3) by decide +kernel) (by decide +kernel) (by decide +kernel) rfl (by decide) hP hS hl.1 hG hf (fun v1 I1 G1 H1 locs1 q1 hP1 hG1 hS1 => ?_)
    obtain ⟨⟨y, rfl⟩, rl1, rs1, rfl, hz2⟩ := q1
    refine lv_aload_n hx hb (show decode code 351 = .ok (.aload_n 2, 1) by decide +kernel) rfl (lv_at hl 2 rfl) ?_
    refine law_arg (j := 1) h (by decide) (by decide +kernel) hl (by omega) hS1 ?_
    refine law_arg (j := 2) h (by decide) (by decide +kernel) hl (by omega) hS1 ?_
    refine lv_if_eq (tgt := 369) hx hb (show decode code 362 = .ok (.ifCond .eq 7, 3) by decide +kernel) (by decide) (fun q => absurd q hb0) (fun _ => ?_)
    refine lv_iconst (v := 1) hx hb (show decode code 365 = .ok (.iconst 1, 1) by decide +kernel) (by decide) ?_
    refine lv_goto (tgt := 370) hx hb (show decode code 366 = .ok (.goto 4, 3) by decide +kernel) (by decide) ?_
    refine law_call (k := 133) (c0 := 10) (x := 41) (nA := 2) (a := [zi (xs (i + 1)), zi 1]) (rest := [.int y]) h (by decide +kernel) (zWm_i (by decide +kernel) hz2) ⟨trivial, trivial, trivial⟩ (Or.inr rfl) (show decode code 370 = .ok (.invokevirtual 41, 3) by decide +kernel) (by decide +kernel) (by decide +kernel) rfl (Nat.le_of_ble_eq_true rfl) hP1 hS1 hl.1 hG1 hf (fun v2 I2 G2 H2 locs2 q2 hP2 hG2 hS2 => ?_)
    obtain ⟨⟨y2, rfl⟩, e2, hR2, rl2, rs2, rfl⟩ := q2
    have e3 : y = y2 := by cases e2; rfl
    refine lv_icmp_eq (tgt := 1085) hx hb (show decode code 373 = .ok (.if_icmp .eq 712, 3) by decide +kernel) (by decide) (fun _ => ?_) (fun q => absurd e3 q)
    exact back I2 rl2 rs2 H2 locs2 hR2 hP2 hG2 hS2
set_option maxHeartbeats 4000000 in
set_option maxRecDepth 100000 in
theorem law_c6 (h : lw_H l p s m meth c b L xs dC dI cI cZ cS ad adV) {i : Nat} (hi : i + 6 ≤ L) {I : zMI} {rl rs : Option (Nat × Nat)} {H : Heap} {locs : List Loc} {ls : Array Slot} (hl : lv_has ls 4 [(0, .ref b), (1, .ref (ad 9 0)), (2, .ref (ad 10 0)), (3, .int (nI i))]) (hR : zRel I) (hP : va_P (dC, dI) vwCl (zws cI cZ cS ad I (zRR rl rs)) H) (hG : zVG (zRR rl rs)) (hS : va_S (fun q : Nat => s.heap.size ≤ q) s.heap H locs) (hf : cells ≤ room_1.cells ∧ slots ≤ room_1.slots) (back : lw_B l p e s m below meth c b dC dI cI cZ cS ad Q cells slots ls) : W p l e room_1 s m #[Value.ref b] below meth c H locs cells slots Q (F0 m 378 ls []) := by
  obtain ⟨⟨hx, hb, hr, hml, hown, hts, hX, hbl, hlocks, hgv⟩, hL, -⟩ := id h
  refine lv_aload_n hx hb (show decode code 378 = .ok (.aload_n 1, 1) by decide +kernel) rfl (lv_at hl 1 rfl) ?_
  refine law_arg (j := 1) h (by decide) (by decide +kernel) hl (by omega) hS ?_
  refine law_arg (j := 2) h (by decide) (by decide +kernel) hl (by omega) hS ?_
  refine law_arg (j := 3) h (by decide) (by decide +kernel) hl (by omega) hS ?_
  refine law_call (k := 70) (c0 := 9) (x := 42) (nA := 3) (a := [zi (xs (i + 1)), zi (xs (i + 2)), zi (xs (i + 3))]) (rest := []) h (by decide +kernel) (zWm_i (by decide +kernel) ((zPr_2 (p_row _ _ _)) 0 I rl rs hR)) ⟨trivial, trivial, trivial, trivial⟩ (Or.inl rfl) (show decode code 394 = .ok (.invokevirtual 42, 3) by decide +kernel) (by decide +kernel) (by decide +kernel) rfl (by decide) hP hS hl.1 hG hf (fun v1 I1 G1 H1 locs1 q1 hP1 hG1 hS1 => ?_)
  obtain ⟨⟨y, rfl⟩, rl1, rs1, rfl, hz2⟩ := q1
  refine lv_aload_n hx hb (show decode code 397 = .ok (.aload_n 2, 1) by decide +kernel) rfl (lv_at hl 2 rfl) ?_
  refine law_arg (j := 1) h (by decide) (by decide +kernel) hl (by omega) hS1 ?_
  refine law_arg (j := 2) h (by decide) (by decide +kernel) hl (by omega) hS1 ?_
  refine law_arg (j := 3) h (by decide) (by decide +kernel) hl (by omega) hS1 ?_
  refine law_call (k := 134) (c0 := 10) (x := 46) (nA := 3) (a := [zi (xs (i + 1)), zi (xs (i + 2)), zi (xs (i + 3))]) (rest := [.int y]) h (by decide +kernel) (zWm_i (by decide +kernel) hz2) ⟨trivial, trivial, trivial, trivial⟩ (Or.inr rfl) (show decode code 413 = .ok (.invokevirtual 46, 3) by decide +kernel) (by decide +kernel) (by decide +kernel) rfl (Nat.le_of_ble_eq_true rfl) hP1 hS1 hl.1 hG1 hf (fun v2 I2 G2 H2 locs2 q2 hP2 hG2 hS2 => ?_)
  obtain ⟨⟨y2, rfl⟩, e2, hR2, rl2, rs2, rfl⟩ := q2
  have e3 : y = y2 := by cases e2; rfl
  refine lv_icmp_eq (tgt := 1085) hx hb (show decode code 416 = .ok (.if_icmp .eq 669, 3) by decide +kernel) (by decide) (fun _ => ?_) (fun q => absurd e3 q)
  exact back I2 rl2 rs2 H2 locs2 hR2 hP2 hG2 hS2
set_option maxHeartbeats 4000000 in
set_option maxRecDepth 100000 in
theorem law_c7 (h : lw_H l p s m meth c b L xs dC dI cI cZ cS ad adV) {i : Nat} (hi : i + 6 ≤ L) {I : zMI} {rl rs : Option (Nat × Nat)} {H : Heap} {locs : List Loc} {ls : Array Slot} (hl : lv_has ls 4 [(0, .ref b), (1, .ref (ad 9 0)), (2, .ref (ad 10 0)), (3, .int (nI i))]) (hR : zRel I) (hP : va_P (dC, dI) vwCl (zws cI cZ cS ad I (zRR rl rs)) H) (hG : zVG (zRR rl rs)) (hS : va_S (fun q : Nat => s.heap.size ≤ q) s.heap H locs) (hf : cells ≤ room_1.cells ∧ slots ≤ room_1.slots) (back : lw_B l p e s m below meth c b dC dI cI cZ cS ad Q cells slots ls) : W p l e room_1 s m #[Value.ref b] below meth c H locs cells slots Q (F0 m 421 ls []) := by
  obtain ⟨⟨hx, hb, hr, hml, hown, hts, hX, hbl, hlocks, hgv⟩, hL, -⟩ := id h
  refine lv_aload_n hx hb (show decode code 421 = .ok (.aload_n 1, 1) by decide +kernel) rfl (lv_at hl 1 rfl) ?_
  refine law_call (k := 71) (c0 := 9) (x := 47) (nA := 0) (a := []) (rest := []) h (by decide +kernel) (zWm_i (by decide +kernel) ((zPr_2 (p_egg)) 0 I rl rs hR)) trivial (Or.inl rfl) (show decode code 422 = .ok (.invokevirtual 47, 3) by decide +kernel) (by decide +kernel) (by decide +kernel) rfl (by decide) hP hS hl.1 hG hf (fun v1 I1 G1 H1 locs1 q1 hP1 hG1 hS1 => ?_)
  obtain ⟨⟨y, rfl⟩, rl1, rs1, rfl, hz2⟩ := q1
  refine lv_aload_n hx hb (show decode code 425 = .ok (.aload_n 2, 1) by decide +kernel) rfl (lv_at hl 2 rfl) ?_
  refine law_call (k := 135) (c0 := 10) (x := 50) (nA := 0) (a := []) (rest := [.int y]) h (by decide +kernel) (zWm_i (by decide +kernel) hz2) trivial (Or.inr rfl) (show decode code 426 = .ok (.invokevirtual 50, 3) by decide +kernel) (by decide +kernel) (by decide +kernel) rfl (Nat.le_of_ble_eq_true rfl) hP1 hS1 hl.1 hG1 hf (fun v2 I2 G2 H2 locs2 q2 hP2 hG2 hS2 => ?_)
  obtain ⟨⟨y2, rfl⟩, e2, hR2, rl2, rs2, rfl⟩ := q2
  have e3 : y = y2 := by cases e2; rfl
  refine lv_icmp_eq (tgt := 1085) hx hb (show decode code 429 = .ok (.if_icmp .eq 656, 3) by decide +kernel) (by decide) (fun _ => ?_) (fun q => absurd e3 q)
  exact back I2 rl2 rs2 H2 locs2 hR2 hP2 hG2 hS2
set_option maxHeartbeats 4000000 in
set_option maxRecDepth 100000 in
theorem law_c8 (h : lw_H l p s m meth c b L xs dC dI cI cZ cS ad adV) {i : Nat} (hi : i + 6 ≤ L) {I : zMI} {rl rs : Option (Nat × Nat)} {H : Heap} {locs : List Loc} {ls : Array Slot} (hl : lv_has ls 4 [(0, .ref b), (1, .ref (ad 9 0)), (2, .ref (ad 10 0)), (3, .int (nI i))]) (hR : zRel I) (hP : va_P (dC, dI) vwCl (zws cI cZ cS ad I (zRR rl rs)) H) (hG : zVG (zRR rl rs)) (hS : va_S (fun q : Nat => s.heap.size ≤ q) s.heap H locs) (hf : cells ≤ room_1.cells ∧ slots ≤ room_1.slots) (back : lw_B l p e s m below meth c b dC dI cI cZ cS ad Q cells slots ls) : W p l e room_1 s m #[Value.ref b] below meth c H locs cells slots Q (F0 m 434 ls []) := by
  obtain ⟨⟨hx, hb, hr, hml, hown, hts, hX, hbl, hlocks, hgv⟩, hL, -⟩ := id h
  refine lv_aload_n hx hb (show decode code 434 = .ok (.aload_n 1, 1) by decide +kernel) rfl (lv_at hl 1 rfl) ?_
  refine law_arg (j := 1) h (by decide) (by decide +kernel) hl (by omega) hS ?_
  refine law_call (k := 72) (c0 := 9) (x := 51) (nA := 1) (a := [zi (xs (i + 1))]) (rest := []) h (by decide +kernel) (zWm_i (by decide +kernel) ((zPr_2 (p_told _)) 0 I rl rs hR)) ⟨trivial, trivial⟩ (Or.inl rfl) (show decode code 440 = .ok (.invokevirtual 51, 3) by decide +kernel) (by decide +kernel) (by decide +kernel) rfl (by decide) hP hS hl.1 hG hf (fun v1 I1 G1 H1 locs1 q1 hP1 hG1 hS1 => ?_)
  obtain ⟨⟨y, rfl⟩, rl1, rs1, rfl, hz2⟩ := q1
  refine lv_aload_n hx hb (show decode code 443 = .ok (.aload_n 2, 1) by decide +kernel) rfl (lv_at hl 2 rfl) ?_
  refine law_arg (j := 1) h (by decide) (by decide +kernel) hl (by omega) hS1 ?_
  refine law_call (k := 138) (c0 := 10) (x := 54) (nA := 1) (a := [zi (xs (i + 1))]) (rest := [.int y]) h (by decide +kernel) (zWm_i (by decide +kernel) hz2) ⟨trivial, trivial⟩ (Or.inr rfl) (show decode code 449 = .ok (.invokevirtual 54, 3) by decide +kernel) (by decide +kernel) (by decide +kernel) rfl (Nat.le_of_ble_eq_true rfl) hP1 hS1 hl.1 hG1 hf (fun v2 I2 G2 H2 locs2 q2 hP2 hG2 hS2 => ?_)
  obtain ⟨⟨y2, rfl⟩, e2, hR2, rl2, rs2, rfl⟩ := q2
  have e3 : y = y2 := by cases e2; rfl
  refine lv_icmp_eq (tgt := 1085) hx hb (show decode code 452 = .ok (.if_icmp .eq 633, 3) by decide +kernel) (by decide) (fun _ => ?_) (fun q => absurd e3 q)
  exact back I2 rl2 rs2 H2 locs2 hR2 hP2 hG2 hS2
set_option maxHeartbeats 4000000 in
set_option maxRecDepth 100000 in
theorem law_c9 (h : lw_H l p s m meth c b L xs dC dI cI cZ cS ad adV) {i : Nat} (hi : i + 6 ≤ L) {I : zMI} {rl rs : Option (Nat × Nat)} {H : Heap} {locs : List Loc} {ls : Array Slot} (hl : lv_has ls 4 [(0, .ref b), (1, .ref (ad 9 0)), (2, .ref (ad 10 0)), (3, .int (nI i))]) (hR : zRel I) (hP : va_P (dC, dI) vwCl (zws cI cZ cS ad I (zRR rl rs)) H) (hG : zVG (zRR rl rs)) (hS : va_S (fun q : Nat => s.heap.size ≤ q) s.heap H locs) (hf : cells ≤ room_1.cells ∧ slots ≤ room_1.slots) (back : lw_B l p e s m below meth c b dC dI cI cZ cS ad Q cells slots ls) : W p l e room_1 s m #[Value.ref b] below meth c H locs cells slots Q (F0 m 457 ls []) := by
  obtain ⟨⟨hx, hb, hr, hml, hown, hts, hX, hbl, hlocks, hgv⟩, hL, -⟩ := id h
  refine lv_aload_n hx hb (show decode code 457 = .ok (.aload_n 1, 1) by decide +kernel) rfl (lv_at hl 1 rfl) ?_
  refine law_arg (j := 1) h (by decide) (by decide +kernel) hl (by omega) hS ?_
  refine law_arg (j := 2) h (by decide) (by decide +kernel) hl (by omega) hS ?_
  refine law_call (k := 73) (c0 := 9) (x := 55) (nA := 2) (a := [zi (xs (i + 1)), zi (xs (i + 2))]) (rest := []) h (by decide +kernel) (zWm_i (by decide +kernel) ((zPr_2 (p_drop _ _)) 0 I rl rs hR)) ⟨trivial, trivial, trivial⟩ (Or.inl rfl) (show decode code 468 = .ok (.invokevirtual 55, 3) by decide +kernel) (by decide +kernel) (by decide +kernel) rfl (by decide) hP hS hl.1 hG hf (fun v1 I1 G1 H1 locs1 q1 hP1 hG1 hS1 => ?_)
  obtain ⟨⟨y, rfl⟩, rl1, rs1, rfl, hz2⟩ := q1
  refine lv_aload_n hx hb (show decode code 471 = .ok (.aload_n 2, 1) by decide +kernel) rfl (lv_at hl 2 rfl) ?_
  refine law_arg (j := 1) h (by decide) (by decide +kernel) hl (by omega) hS1 ?_
  refine law_arg (j := 2) h (by decide) (by decide +kernel) hl (by omega) hS1 ?_
  refine law_call (k := 144) (c0 := 10) (x := 58) (nA := 2) (a := [zi (xs (i + 1)), zi (xs (i + 2))]) (rest := [.int y]) h (by decide +kernel) (zWm_i (by decide +kernel) hz2) ⟨trivial, trivial, trivial⟩ (Or.inr rfl) (show decode code 482 = .ok (.invokevirtual 58, 3) by decide +kernel) (by decide +kernel) (by decide +kernel) rfl (Nat.le_of_ble_eq_true rfl) hP1 hS1 hl.1 hG1 hf (fun v2 I2 G2 H2 locs2 q2 hP2 hG2 hS2 => ?_)
  obtain ⟨⟨y2, rfl⟩, e2, hR2, rl2, rs2, rfl⟩ := q2
  have e3 : y = y2 := by cases e2; rfl
  refine lv_icmp_eq (tgt := 1085) hx hb (show decode code 485 = .ok (.if_icmp .eq 600, 3) by decide +kernel) (by decide) (fun _ => ?_) (fun q => absurd e3 q)
  exact back I2 rl2 rs2 H2 locs2 hR2 hP2 hG2 hS2
set_option maxHeartbeats 4000000 in
set_option maxRecDepth 100000 in
theorem law_c10 (h : lw_H l p s m meth c b L xs dC dI cI cZ cS ad adV) {i : Nat} (hi : i + 6 ≤ L) {I : zMI} {rl rs : Option (Nat × Nat)} {H : Heap} {locs : List Loc} {ls : Array Slot} (hl : lv_has ls 4 [(0, .ref b), (1, .ref (ad 9 0)), (2, .ref (ad 10 0)), (3, .int (nI i))]) (hR : zRel I) (hP : va_P (dC, dI) vwCl (zws cI cZ cS ad I (zRR rl rs)) H) (hG : zVG (zRR rl rs)) (hS : va_S (fun q : Nat => s.heap.size ≤ q) s.heap H locs) (hf : cells ≤ room_1.cells ∧ slots ≤ room_1.slots) (back : lw_B l p e s m below meth c b dC dI cI cZ cS ad Q cells slots ls) : W p l e room_1 s m #[Value.ref b] below meth c H locs cells slots Q (F0 m 490 ls []) := by
  obtain ⟨⟨hx, hb, hr, hml, hown, hts, hX, hbl, hlocks, hgv⟩, hL, -⟩ := id h
  refine lv_aload_n hx hb (show decode code 490 = .ok (.aload_n 1, 1) by decide +kernel) rfl (lv_at hl 1 rfl) ?_
  refine law_arg (j := 1) h (by decide) (by decide +kernel) hl (by omega) hS ?_
  refine law_arg (j := 2) h (by decide) (by decide +kernel) hl (by omega) hS ?_
  refine law_arg (j := 3) h (by decide) (by decide +kernel) hl (by omega) hS ?_
  refine law_call (k := 74) (c0 := 9) (x := 59) (nA := 3) (a := [zi (xs (i + 1)), zi (xs (i + 2)), zi (xs (i + 3))]) (rest := []) h (by decide +kernel) (zWm_i (by decide +kernel) ((zPr_2 (p_fall _ _ _)) 0 I rl rs hR)) ⟨trivial, trivial, trivial, trivial⟩ (Or.inl rfl) (show decode code 506 = .ok (.invokevirtual 59, 3) by decide +kernel) (by decide +kernel) (by decide +kernel) rfl (by decide) hP hS hl.1 hG hf (fun v1 I1 G1 H1 locs1 q1 hP1 hG1 hS1 => ?_)
  obtain ⟨⟨y, rfl⟩, rl1, rs1, rfl, hz2⟩ := q1
  refine lv_aload_n hx hb (show decode code 509 = .ok (.aload_n 2, 1) by decide +kernel) rfl (lv_at hl 2 rfl) ?_
  refine law_arg (j := 1) h (by decide) (by decide +kernel) hl (by omega) hS1 ?_
  refine law_arg (j := 2) h (by decide) (by decide +kernel) hl (by omega) hS1 ?_
  refine law_arg (j := 3) h (by decide) (by decide +kernel) hl (by omega) hS1 ?_
  refine law_call (k := 145) (c0 := 10) (x := 62) (nA := 3) (a := [zi (xs (i + 1)), zi (xs (i + 2)), zi (xs (i + 3))]) (rest := [.int y]) h (by decide +kernel) (zWm_i (by decide +kernel) hz2) ⟨trivial, trivial, trivial, trivial⟩ (Or.inr rfl) (show decode code 525 = .ok (.invokevirtual 62, 3) by decide +kernel) (by decide +kernel) (by decide +kernel) rfl (Nat.le_of_ble_eq_true rfl) hP1 hS1 hl.1 hG1 hf (fun v2 I2 G2 H2 locs2 q2 hP2 hG2 hS2 => ?_)
  obtain ⟨⟨y2, rfl⟩, e2, hR2, rl2, rs2, rfl⟩ := q2
  have e3 : y = y2 := by cases e2; rfl
  refine lv_icmp_eq (tgt := 1085) hx hb (show decode code 528 = .ok (.if_icmp .eq 557, 3) by decide +kernel) (by decide) (fun _ => ?_) (fun q => absurd e3 q)
  exact back I2 rl2 rs2 H2 locs2 hR2 hP2 hG2 hS2
set_option maxHeartbeats 4000000 in
set_option maxRecDepth 100000 in
theorem law_c11 (h : lw_H l p s m meth c b L xs dC dI cI cZ cS ad adV) {i : Nat} (hi : i + 6 ≤ L) {I : zMI} {rl rs : Option (Nat × Nat)} {H : Heap} {locs : List Loc} {ls : Array Slot} (hl : lv_has ls 4 [(0, .ref b), (1, .ref (ad 9 0)), (2, .ref (ad 10 0)), (3, .int (nI i))]) (hR : zRel I) (hP : va_P (dC, dI) vwCl (zws cI cZ cS ad I (zRR rl rs)) H) (hG : zVG (zRR rl rs)) (hS : va_S (fun q : Nat => s.heap.size ≤ q) s.heap H locs) (hf : cells ≤ room_1.cells ∧ slots ≤ room_1.slots) (back : lw_B l p e s m below meth c b dC dI cI cZ cS ad Q cells slots ls) : W p l e room_1 s m #[Value.ref b] below meth c H locs cells slots Q (F0 m 533 ls []) := by
  obtain ⟨⟨hx, hb, hr, hml, hown, hts, hX, hbl, hlocks, hgv⟩, hL, -⟩ := id h
  refine lv_aload_n hx hb (show decode code 533 = .ok (.aload_n 1, 1) by decide +kernel) rfl (lv_at hl 1 rfl) ?_
  refine law_arg (j := 1) h (by decide) (by decide +kernel) hl (by omega) hS ?_
  refine law_call (k := 75) (c0 := 9) (x := 63) (nA := 1) (a := [zi (xs (i + 1))]) (rest := []) h (by decide +kernel) (zWm_i (by decide +kernel) ((zPr_2 (p_highest _)) 0 I rl rs hR)) ⟨trivial, trivial⟩ (Or.inl rfl) (show decode code 539 = .ok (.invokevirtual 63, 3) by decide +kernel) (by decide +kernel) (by decide +kernel) rfl (by decide) hP hS hl.1 hG hf (fun v1 I1 G1 H1 locs1 q1 hP1 hG1 hS1 => ?_)
  obtain ⟨⟨y, rfl⟩, rl1, rs1, rfl, hz2⟩ := q1
  refine lv_aload_n hx hb (show decode code 542 = .ok (.aload_n 2, 1) by decide +kernel) rfl (lv_at hl 2 rfl) ?_
  refine law_arg (j := 1) h (by decide) (by decide +kernel) hl (by omega) hS1 ?_
  refine law_call (k := 146) (c0 := 10) (x := 66) (nA := 1) (a := [zi (xs (i + 1))]) (rest := [.int y]) h (by decide +kernel) (zWm_i (by decide +kernel) hz2) ⟨trivial, trivial⟩ (Or.inr rfl) (show decode code 548 = .ok (.invokevirtual 66, 3) by decide +kernel) (by decide +kernel) (by decide +kernel) rfl (Nat.le_of_ble_eq_true rfl) hP1 hS1 hl.1 hG1 hf (fun v2 I2 G2 H2 locs2 q2 hP2 hG2 hS2 => ?_)
  obtain ⟨⟨y2, rfl⟩, e2, hR2, rl2, rs2, rfl⟩ := q2
  have e3 : y = y2 := by cases e2; rfl
  refine lv_icmp_eq (tgt := 1085) hx hb (show decode code 551 = .ok (.if_icmp .eq 534, 3) by decide +kernel) (by decide) (fun _ => ?_) (fun q => absurd e3 q)
  exact back I2 rl2 rs2 H2 locs2 hR2 hP2 hG2 hS2
set_option maxHeartbeats 4000000 in
set_option maxRecDepth 100000 in
theorem law_c12 (h : lw_H l p s m meth c b L xs dC dI cI cZ cS ad adV) {i : Nat} (hi : i + 6 ≤ L) {I : zMI} {rl rs : Option (Nat × Nat)} {H : Heap} {locs : List Loc} {ls : Array Slot} (hl : lv_has ls 4 [(0, .ref b), (1, .ref (ad 9 0)), (2, .ref (ad 10 0)), (3, .int (nI i))]) (hR : zRel I) (hP : va_P (dC, dI) vwCl (zws cI cZ cS ad I (zRR rl rs)) H) (hG : zVG (zRR rl rs)) (hS : va_S (fun q : Nat => s.heap.size ≤ q) s.heap H locs) (hf : cells ≤ room_1.cells ∧ slots ≤ room_1.slots) (back : lw_B l p e s m below meth c b dC dI cI cZ cS ad Q cells slots ls) : W p l e room_1 s m #[Value.ref b] below meth c H locs cells slots Q (F0 m 556 ls []) := by
  obtain ⟨⟨hx, hb, hr, hml, hown, hts, hX, hbl, hlocks, hgv⟩, hL, -⟩ := id h
  refine lv_aload_n hx hb (show decode code 556 = .ok (.aload_n 1, 1) by decide +kernel) rfl (lv_at hl 1 rfl) ?_
  refine law_arg (j := 1) h (by decide) (by decide +kernel) hl (by omega) hS ?_
  refine law_arg (j := 2) h (by decide) (by decide +kernel) hl (by omega) hS ?_
  refine law_call (k := 76) (c0 := 9) (x := 67) (nA := 2) (a := [zi (xs (i + 1)), zi (xs (i + 2))]) (rest := []) h (by decide +kernel) (zWm_i (by decide +kernel) ((zPr_2 (p_best _ _)) 0 I rl rs hR)) ⟨trivial, trivial, trivial⟩ (Or.inl rfl) (show decode code 567 = .ok (.invokevirtual 67, 3) by decide +kernel) (by decide +kernel) (by decide +kernel) rfl (by decide) hP hS hl.1 hG hf (fun v1 I1 G1 H1 locs1 q1 hP1 hG1 hS1 => ?_)
  obtain ⟨⟨y, rfl⟩, rl1, rs1, rfl, hz2⟩ := q1
  refine lv_aload_n hx hb (show decode code 570 = .ok (.aload_n 2, 1) by decide +kernel) rfl (lv_at hl 2 rfl) ?_
  refine law_arg (j := 1) h (by decide) (by decide +kernel) hl (by omega) hS1 ?_
  refine law_arg (j := 2) h (by decide) (by decide +kernel) hl (by omega) hS1 ?_
  refine law_call (k := 147) (c0 := 10) (x := 70) (nA := 2) (a := [zi (xs (i + 1)), zi (xs (i + 2))]) (rest := [.int y]) h (by decide +kernel) (zWm_i (by decide +kernel) hz2) ⟨trivial, trivial, trivial⟩ (Or.inr rfl) (show decode code 581 = .ok (.invokevirtual 70, 3) by decide +kernel) (by decide +kernel) (by decide +kernel) rfl (Nat.le_of_ble_eq_true rfl) hP1 hS1 hl.1 hG1 hf (fun v2 I2 G2 H2 locs2 q2 hP2 hG2 hS2 => ?_)
  obtain ⟨⟨y2, rfl⟩, e2, hR2, rl2, rs2, rfl⟩ := q2
  have e3 : y = y2 := by cases e2; rfl
  refine lv_icmp_eq (tgt := 1085) hx hb (show decode code 584 = .ok (.if_icmp .eq 501, 3) by decide +kernel) (by decide) (fun _ => ?_) (fun q => absurd e3 q)
  exact back I2 rl2 rs2 H2 locs2 hR2 hP2 hG2 hS2
set_option maxHeartbeats 4000000 in
set_option maxRecDepth 100000 in
theorem law_c13 (h : lw_H l p s m meth c b L xs dC dI cI cZ cS ad adV) {i : Nat} (hi : i + 6 ≤ L) {I : zMI} {rl rs : Option (Nat × Nat)} {H : Heap} {locs : List Loc} {ls : Array Slot} (hl : lv_has ls 4 [(0, .ref b), (1, .ref (ad 9 0)), (2, .ref (ad 10 0)), (3, .int (nI i))]) (hR : zRel I) (hP : va_P (dC, dI) vwCl (zws cI cZ cS ad I (zRR rl rs)) H) (hG : zVG (zRR rl rs)) (hS : va_S (fun q : Nat => s.heap.size ≤ q) s.heap H locs) (hf : cells ≤ room_1.cells ∧ slots ≤ room_1.slots) (back : lw_B l p e s m below meth c b dC dI cI cZ cS ad Q cells slots ls) : W p l e room_1 s m #[Value.ref b] below meth c H locs cells slots Q (F0 m 589 ls []) := by
  obtain ⟨⟨hx, hb, hr, hml, hown, hts, hX, hbl, hlocks, hgv⟩, hL, -⟩ := id h
  refine lv_aload_n hx hb (show decode code 589 = .ok (.aload_n 1, 1) by decide +kernel) rfl (lv_at hl 1 rfl) ?_
  refine law_arg (j := 1) h (by decide) (by decide +kernel) hl (by omega) hS ?_
  refine law_arg (j := 2) h (by decide) (by decide +kernel) hl (by omega) hS ?_
  refine law_arg (j := 3) h (by decide) (by decide +kernel) hl (by omega) hS ?_
  refine law_call (k := 77) (c0 := 9) (x := 71) (nA := 3) (a := [zi (xs (i + 1)), zi (xs (i + 2)), zi (xs (i + 3))]) (rest := []) h (by decide +kernel) (zWm_i (by decide +kernel) ((zPr_2 (p_lighter _ _ _)) 0 I rl rs hR)) ⟨trivial, trivial, trivial, trivial⟩ (Or.inl rfl) (show decode code 605 = .ok (.invokevirtual 71, 3) by decide +kernel) (by decide +kernel) (by decide +kernel) rfl (by decide) hP hS hl.1 hG hf (fun v1 I1 G1 H1 locs1 q1 hP1 hG1 hS1 => ?_)
  obtain ⟨⟨y, rfl⟩, rl1, rs1, rfl, hz2⟩ := q1
  refine lv_aload_n hx hb (show decode code 608 = .ok (.aload_n 2, 1) by decide +kernel) rfl (lv_at hl 2 rfl) ?_
  refine law_arg (j := 1) h (by decide) (by decide +kernel) hl (by omega) hS1 ?_
  refine law_arg (j := 2) h (by decide) (by decide +kernel) hl (by omega) hS1 ?_
  refine law_arg (j := 3) h (by decide) (by decide +kernel) hl (by omega) hS1 ?_
  refine law_call (k := 148) (c0 := 10) (x := 74) (nA := 3) (a := [zi (xs (i + 1)), zi (xs (i + 2)), zi (xs (i + 3))]) (rest := [.int y]) h (by decide +kernel) (zWm_i (by decide +kernel) hz2) ⟨trivial, trivial, trivial, trivial⟩ (Or.inr rfl) (show decode code 624 = .ok (.invokevirtual 74, 3) by decide +kernel) (by decide +kernel) (by decide +kernel) rfl (Nat.le_of_ble_eq_true rfl) hP1 hS1 hl.1 hG1 hf (fun v2 I2 G2 H2 locs2 q2 hP2 hG2 hS2 => ?_)
  obtain ⟨⟨y2, rfl⟩, e2, hR2, rl2, rs2, rfl⟩ := q2
  have e3 : y = y2 := by cases e2; rfl
  refine lv_icmp_eq (tgt := 1085) hx hb (show decode code 627 = .ok (.if_icmp .eq 458, 3) by decide +kernel) (by decide) (fun _ => ?_) (fun q => absurd e3 q)
  exact back I2 rl2 rs2 H2 locs2 hR2 hP2 hG2 hS2
set_option maxHeartbeats 4000000 in
set_option maxRecDepth 100000 in
theorem law_c14 (h : lw_H l p s m meth c b L xs dC dI cI cZ cS ad adV) {i : Nat} (hi : i + 6 ≤ L) {I : zMI} {rl rs : Option (Nat × Nat)} {H : Heap} {locs : List Loc} {ls : Array Slot} (hl : lv_has ls 4 [(0, .ref b), (1, .ref (ad 9 0)), (2, .ref (ad 10 0)), (3, .int (nI i))]) (hR : zRel I) (hP : va_P (dC, dI) vwCl (zws cI cZ cS ad I (zRR rl rs)) H) (hG : zVG (zRR rl rs)) (hS : va_S (fun q : Nat => s.heap.size ≤ q) s.heap H locs) (hf : cells ≤ room_1.cells ∧ slots ≤ room_1.slots) (back : lw_B l p e s m below meth c b dC dI cI cZ cS ad Q cells slots ls) : W p l e room_1 s m #[Value.ref b] below meth c H locs cells slots Q (F0 m 632 ls []) := by
  obtain ⟨⟨hx, hb, hr, hml, hown, hts, hX, hbl, hlocks, hgv⟩, hL, -⟩ := id h
  refine lv_aload_n hx hb (show decode code 632 = .ok (.aload_n 1, 1) by decide +kernel) rfl (lv_at hl 1 rfl) ?_
  refine law_arg (j := 1) h (by decide) (by decide +kernel) hl (by omega) hS ?_
  refine law_arg (j := 2) h (by decide) (by decide +kernel) hl (by omega) hS ?_
  refine law_call (k := 78) (c0 := 9) (x := 75) (nA := 2) (a := [zi (xs (i + 1)), zi (xs (i + 2))]) (rest := []) h (by decide +kernel) (zWm_i (by decide +kernel) ((zPr_2 (p_shift _ _)) 0 I rl rs hR)) ⟨trivial, trivial, trivial⟩ (Or.inl rfl) (show decode code 643 = .ok (.invokevirtual 75, 3) by decide +kernel) (by decide +kernel) (by decide +kernel) rfl (by decide) hP hS hl.1 hG hf (fun v1 I1 G1 H1 locs1 q1 hP1 hG1 hS1 => ?_)
  obtain ⟨⟨y, rfl⟩, rl1, rs1, rfl, hz2⟩ := q1
  refine lv_aload_n hx hb (show decode code 646 = .ok (.aload_n 2, 1) by decide +kernel) rfl (lv_at hl 2 rfl) ?_
  refine law_arg (j := 1) h (by decide) (by decide +kernel) hl (by omega) hS1 ?_
  refine law_arg (j := 2) h (by decide) (by decide +kernel) hl (by omega) hS1 ?_
  refine law_call (k := 149) (c0 := 10) (x := 78) (nA := 2) (a := [zi (xs (i + 1)), zi (xs (i + 2))]) (rest := [.int y]) h (by decide +kernel) (zWm_i (by decide +kernel) hz2) ⟨trivial, trivial, trivial⟩ (Or.inr rfl) (show decode code 657 = .ok (.invokevirtual 78, 3) by decide +kernel) (by decide +kernel) (by decide +kernel) rfl (Nat.le_of_ble_eq_true rfl) hP1 hS1 hl.1 hG1 hf (fun v2 I2 G2 H2 locs2 q2 hP2 hG2 hS2 => ?_)
  obtain ⟨⟨y2, rfl⟩, e2, hR2, rl2, rs2, rfl⟩ := q2
  have e3 : y = y2 := by cases e2; rfl
  refine lv_icmp_eq (tgt := 1085) hx hb (show decode code 660 = .ok (.if_icmp .eq 425, 3) by decide +kernel) (by decide) (fun _ => ?_) (fun q => absurd e3 q)
  exact back I2 rl2 rs2 H2 locs2 hR2 hP2 hG2 hS2
set_option maxHeartbeats 4000000 in
set_option maxRecDepth 100000 in
theorem law_c15 (h : lw_H l p s m meth c b L xs dC dI cI cZ cS ad adV) {i : Nat} (hi : i + 6 ≤ L) {I : zMI} {rl rs : Option (Nat × Nat)} {H : Heap} {locs : List Loc} {ls : Array Slot} (hl : lv_has ls 4 [(0, .ref b), (1, .ref (ad 9 0)), (2, .ref (ad 10 0)), (3, .int (nI i))]) (hR : zRel I) (hP : va_P (dC, dI) vwCl (zws cI cZ cS ad I (zRR rl rs)) H) (hG : zVG (zRR rl rs)) (hS : va_S (fun q : Nat => s.heap.size ≤ q) s.heap H locs) (hf : cells ≤ room_1.cells ∧ slots ≤ room_1.slots) (back : lw_B l p e s m below meth c b dC dI cI cZ cS ad Q cells slots ls) : W p l e room_1 s m #[Value.ref b] below meth c H locs cells slots Q (F0 m 665 ls []) := by
  obtain ⟨⟨hx, hb, hr, hml, hown, hts, hX, hbl, hlocks, hgv⟩, hL, -⟩ := id h
  refine lv_aload_n hx hb (show decode code 665 = .ok (.aload_n 1, 1) by decide +kernel) rfl (lv_at hl 1 rfl) ?_
  refine law_arg (j := 1) h (by decide) (by decide +kernel) hl (by omega) hS ?_
  refine law_arg (j := 2) h (by decide) (by decide +kernel) hl (by omega) hS ?_
  refine law_call (k := 79) (c0 := 9) (x := 79) (nA := 2) (a := [zi (xs (i + 1)), zi (xs (i + 2))]) (rest := []) h (by decide +kernel) (zWm_i (by decide +kernel) ((zPr_2 (p_tries _ _)) 0 I rl rs hR)) ⟨trivial, trivial, trivial⟩ (Or.inl rfl) (show decode code 676 = .ok (.invokevirtual 79, 3) by decide +kernel) (by decide +kernel) (by decide +kernel) rfl (by decide) hP hS hl.1 hG hf (fun v1 I1 G1 H1 locs1 q1 hP1 hG1 hS1 => ?_)
  obtain ⟨⟨y, rfl⟩, rl1, rs1, rfl, hz2⟩ := q1
  refine lv_aload_n hx hb (show decode code 679 = .ok (.aload_n 2, 1) by decide +kernel) rfl (lv_at hl 2 rfl) ?_
  refine law_arg (j := 1) h (by decide) (by decide +kernel) hl (by omega) hS1 ?_
  refine law_arg (j := 2) h (by decide) (by decide +kernel) hl (by omega) hS1 ?_
  refine law_call (k := 150) (c0 := 10) (x := 82) (nA := 2) (a := [zi (xs (i + 1)), zi (xs (i + 2))]) (rest := [.int y]) h (by decide +kernel) (zWm_i (by decide +kernel) hz2) ⟨trivial, trivial, trivial⟩ (Or.inr rfl) (show decode code 690 = .ok (.invokevirtual 82, 3) by decide +kernel) (by decide +kernel) (by decide +kernel) rfl (Nat.le_of_ble_eq_true rfl) hP1 hS1 hl.1 hG1 hf (fun v2 I2 G2 H2 locs2 q2 hP2 hG2 hS2 => ?_)
  obtain ⟨⟨y2, rfl⟩, e2, hR2, rl2, rs2, rfl⟩ := q2
  have e3 : y = y2 := by cases e2; rfl
  refine lv_icmp_eq (tgt := 1085) hx hb (show decode code 693 = .ok (.if_icmp .eq 392, 3) by decide +kernel) (by decide) (fun _ => ?_) (fun q => absurd e3 q)
  exact back I2 rl2 rs2 H2 locs2 hR2 hP2 hG2 hS2
set_option maxHeartbeats 4000000 in
set_option maxRecDepth 100000 in
theorem law_c16 (h : lw_H l p s m meth c b L xs dC dI cI cZ cS ad adV) {i : Nat} (hi : i + 6 ≤ L) {I : zMI} {rl rs : Option (Nat × Nat)} {H : Heap} {locs : List Loc} {ls : Array Slot} (hl : lv_has ls 4 [(0, .ref b), (1, .ref (ad 9 0)), (2, .ref (ad 10 0)), (3, .int (nI i))]) (hR : zRel I) (hP : va_P (dC, dI) vwCl (zws cI cZ cS ad I (zRR rl rs)) H) (hG : zVG (zRR rl rs)) (hS : va_S (fun q : Nat => s.heap.size ≤ q) s.heap H locs) (hf : cells ≤ room_1.cells ∧ slots ≤ room_1.slots) (back : lw_B l p e s m below meth c b dC dI cI cZ cS ad Q cells slots ls) : W p l e room_1 s m #[Value.ref b] below meth c H locs cells slots Q (F0 m 698 ls []) := by
  obtain ⟨⟨hx, hb, hr, hml, hown, hts, hX, hbl, hlocks, hgv⟩, hL, -⟩ := id h
  refine lv_aload_n hx hb (show decode code 698 = .ok (.aload_n 1, 1) by decide +kernel) rfl (lv_at hl 1 rfl) ?_
  refine law_arg (j := 1) h (by decide) (by decide +kernel) hl (by omega) hS ?_
  refine law_arg (j := 2) h (by decide) (by decide +kernel) hl (by omega) hS ?_
  refine law_call (k := 80) (c0 := 9) (x := 83) (nA := 2) (a := [zi (xs (i + 1)), zi (xs (i + 2))]) (rest := []) h (by decide +kernel) (zWm_i (by decide +kernel) ((zPr_2 (p_failed _ _)) 0 I rl rs hR)) ⟨trivial, trivial, trivial⟩ (Or.inl rfl) (show decode code 709 = .ok (.invokevirtual 83, 3) by decide +kernel) (by decide +kernel) (by decide +kernel) rfl (by decide) hP hS hl.1 hG hf (fun v1 I1 G1 H1 locs1 q1 hP1 hG1 hS1 => ?_)
  obtain ⟨⟨y, rfl⟩, rl1, rs1, rfl, hz2⟩ := q1
  refine lv_aload_n hx hb (show decode code 712 = .ok (.aload_n 2, 1) by decide +kernel) rfl (lv_at hl 2 rfl) ?_
  refine law_arg (j := 1) h (by decide) (by decide +kernel) hl (by omega) hS1 ?_
  refine law_arg (j := 2) h (by decide) (by decide +kernel) hl (by omega) hS1 ?_
  refine law_call (k := 152) (c0 := 10) (x := 86) (nA := 2) (a := [zi (xs (i + 1)), zi (xs (i + 2))]) (rest := [.int y]) h (by decide +kernel) (zWm_i (by decide +kernel) hz2) ⟨trivial, trivial, trivial⟩ (Or.inr rfl) (show decode code 723 = .ok (.invokevirtual 86, 3) by decide +kernel) (by decide +kernel) (by decide +kernel) rfl (Nat.le_of_ble_eq_true rfl) hP1 hS1 hl.1 hG1 hf (fun v2 I2 G2 H2 locs2 q2 hP2 hG2 hS2 => ?_)
  obtain ⟨⟨y2, rfl⟩, e2, hR2, rl2, rs2, rfl⟩ := q2
  have e3 : y = y2 := by cases e2; rfl
  refine lv_icmp_eq (tgt := 1085) hx hb (show decode code 726 = .ok (.if_icmp .eq 359, 3) by decide +kernel) (by decide) (fun _ => ?_) (fun q => absurd e3 q)
  exact back I2 rl2 rs2 H2 locs2 hR2 hP2 hG2 hS2
set_option maxHeartbeats 4000000 in
set_option maxRecDepth 100000 in
theorem law_c17 (h : lw_H l p s m meth c b L xs dC dI cI cZ cS ad adV) {i : Nat} (hi : i + 6 ≤ L) {I : zMI} {rl rs : Option (Nat × Nat)} {H : Heap} {locs : List Loc} {ls : Array Slot} (hl : lv_has ls 4 [(0, .ref b), (1, .ref (ad 9 0)), (2, .ref (ad 10 0)), (3, .int (nI i))]) (hR : zRel I) (hP : va_P (dC, dI) vwCl (zws cI cZ cS ad I (zRR rl rs)) H) (hG : zVG (zRR rl rs)) (hS : va_S (fun q : Nat => s.heap.size ≤ q) s.heap H locs) (hf : cells ≤ room_1.cells ∧ slots ≤ room_1.slots) (back : lw_B l p e s m below meth c b dC dI cI cZ cS ad Q cells slots ls) : W p l e room_1 s m #[Value.ref b] below meth c H locs cells slots Q (F0 m 731 ls []) := by
  obtain ⟨⟨hx, hb, hr, hml, hown, hts, hX, hbl, hlocks, hgv⟩, hL, -⟩ := id h
  by_cases hb0 : xs (i + 3) = 0
  · refine lv_aload_n hx hb (show decode code 731 = .ok (.aload_n 1, 1) by decide +kernel) rfl (lv_at hl 1 rfl) ?_
    refine law_arg (j := 1) h (by decide) (by decide +kernel) hl (by omega) hS ?_
    refine law_arg (j := 2) h (by decide) (by decide +kernel) hl (by omega) hS ?_
    refine law_arg (j := 3) h (by decide) (by decide +kernel) hl (by omega) hS ?_
    refine lv_if_eq (tgt := 754) hx hb (show decode code 747 = .ok (.ifCond .eq 7, 3) by decide +kernel) (by decide) (fun _ => ?_) (fun q => absurd hb0 q)
    refine lv_iconst (v := 0) hx hb (show decode code 754 = .ok (.iconst 0, 1) by decide +kernel) (by decide) ?_
    refine law_call (k := 81) (c0 := 9) (x := 87) (nA := 3) (a := [zi (xs (i + 1)), zi (xs (i + 2)), zi 0]) (rest := []) h (by decide +kernel) (zWm_i (by decide +kernel) ((zPr_2 (p_see _ _ (b := 0) (Or.inl rfl))) 0 I rl rs hR)) ⟨trivial, trivial, trivial, trivial⟩ (Or.inl rfl) (show decode code 755 = .ok (.invokevirtual 87, 3) by decide +kernel) (by decide +kernel) (by decide +kernel) rfl (by decide) hP hS hl.1 hG hf (fun v1 I1 G1 H1 locs1 q1 hP1 hG1 hS1 => ?_)
    obtain ⟨⟨y, rfl⟩, rl1, rs1, rfl, hz2⟩ := q1
    refine lv_aload_n hx hb (show decode code 758 = .ok (.aload_n 2, 1) by decide +kernel) rfl (lv_at hl 2 rfl) ?_
    refine law_arg (j := 1) h (by decide) (by decide +kernel) hl (by omega) hS1 ?_
    refine law_arg (j := 2) h (by decide) (by decide +kernel) hl (by omega) hS1 ?_
    refine law_arg (j := 3) h (by decide) (by decide +kernel) hl (by omega) hS1 ?_
    refine lv_if_eq (tgt := 781) hx hb (show decode code 774 = .ok (.ifCond .eq 7, 3) by decide +kernel) (by decide) (fun _ => ?_) (fun q => absurd hb0 q)
    refine lv_iconst (v := 0) hx hb (show decode code 781 = .ok (.iconst 0, 1) by decide +kernel) (by decide) ?_
    refine law_call (k := 153) (c0 := 10) (x := 91) (nA := 3) (a := [zi (xs (i + 1)), zi (xs (i + 2)), zi 0]) (rest := [.int y]) h (by decide +kernel) (zWm_i (by decide +kernel) hz2) ⟨trivial, trivial, trivial, trivial⟩ (Or.inr rfl) (show decode code 782 = .ok (.invokevirtual 91, 3) by decide +kernel) (by decide +kernel) (by decide +kernel) rfl (Nat.le_of_ble_eq_true rfl) hP1 hS1 hl.1 hG1 hf (fun v2 I2 G2 H2 locs2 q2 hP2 hG2 hS2 => ?_)
    obtain ⟨⟨y2, rfl⟩, e2, hR2, rl2, rs2, rfl⟩ := q2
    have e3 : y = y2 := by cases e2; rfl
    refine lv_icmp_eq (tgt := 1085) hx hb (show decode code 785 = .ok (.if_icmp .eq 300, 3) by decide +kernel) (by decide) (fun _ => ?_) (fun q => absurd e3 q)
    exact back I2 rl2 rs2 H2 locs2 hR2 hP2 hG2 hS2
  · refine lv_aload_n hx hb (show decode code 731 = .ok (.aload_n 1, 1) by decide +kernel) rfl (lv_at hl 1 rfl) ?_
    refine law_arg (j := 1) h (by decide) (by decide +kernel) hl (by omega) hS ?_
    refine law_arg (j := 2) h (by decide) (by decide +kernel) hl (by omega) hS ?_
    refine law_arg (j := 3) h (by decide) (by decide +kernel) hl (by omega) hS ?_
    refine lv_if_eq (tgt := 754) hx hb (show decode code 747 = .ok (.ifCond .eq 7, 3) by decide +kernel) (by decide) (fun q => absurd q hb0) (fun _ => ?_)
    refine lv_iconst (v := 1) hx hb (show decode code 750 = .ok (.iconst 1, 1) by decide +kernel) (by decide) ?_
    refine lv_goto (tgt := 755) hx hb (show decode code 751 = .ok (.goto 4, 3) by decide +kernel) (by decide) ?_
    refine law_call (k := 81) (c0 := 9) (x := 87) (nA := 3) (a := [zi (xs (i + 1)), zi (xs (i + 2)), zi 1]) (rest := []) h (by decide +kernel) (zWm_i (by decide +kernel) ((zPr_2 (p_see _ _ (b := 1) (Or.inr rfl))) 0 I rl rs hR)) ⟨trivial, trivial, trivial, trivial⟩ (Or.inl rfl) (show decode code 755 = .ok (.invokevirtual 87, 3) by decide +kernel) (by decide +kernel) (by decide +kernel) rfl (by decide) hP hS hl.1 hG hf (fun v1 I1 G1 H1 locs1 q1 hP1 hG1 hS1 => ?_)
    obtain ⟨⟨y, rfl⟩, rl1, rs1, rfl, hz2⟩ := q1
    refine lv_aload_n hx hb (show decode code 758 = .ok (.aload_n 2, 1) by decide +kernel) rfl (lv_at hl 2 rfl) ?_
    refine law_arg (j := 1) h (by decide) (by decide +kernel) hl (by omega) hS1 ?_
    refine law_arg (j := 2) h (by decide) (by decide +kernel) hl (by omega) hS1 ?_
    refine law_arg (j := 3) h (by decide) (by decide +kernel) hl (by omega) hS1 ?_
    refine lv_if_eq (tgt := 781) hx hb (show decode code 774 = .ok (.ifCond .eq 7, 3) by decide +kernel) (by decide) (fun q => absurd q hb0) (fun _ => ?_)
    refine lv_iconst (v := 1) hx hb (show decode code 777 = .ok (.iconst 1, 1) by decide +kernel) (by decide) ?_
    refine lv_goto (tgt := 782) hx hb (show decode code 778 = .ok (.goto 4, 3) by decide +kernel) (by decide) ?_
    refine law_call (k := 153) (c0 := 10) (x := 91) (nA := 3) (a := [zi (xs (i + 1)), zi (xs (i + 2)), zi 1]) (rest := [.int y]) h (by decide +kernel) (zWm_i (by decide +kernel) hz2) ⟨trivial, trivial, trivial, trivial⟩ (Or.inr rfl) (show decode code 782 = .ok (.invokevirtual 91, 3) by decide +kernel) (by decide +kernel) (by decide +kernel) rfl (Nat.le_of_ble_eq_true rfl) hP1 hS1 hl.1 hG1 hf (fun v2 I2 G2 H2 locs2 q2 hP2 hG2 hS2 => ?_)
    obtain ⟨⟨y2, rfl⟩, e2, hR2, rl2, rs2, rfl⟩ := q2
    have e3 : y = y2 := by cases e2; rfl
    refine lv_icmp_eq (tgt := 1085) hx hb (show decode code 785 = .ok (.if_icmp .eq 300, 3) by decide +kernel) (by decide) (fun _ => ?_) (fun q => absurd e3 q)
    exact back I2 rl2 rs2 H2 locs2 hR2 hP2 hG2 hS2
set_option maxHeartbeats 4000000 in
set_option maxRecDepth 100000 in
theorem law_c18 (h : lw_H l p s m meth c b L xs dC dI cI cZ cS ad adV) {i : Nat} (hi : i + 6 ≤ L) {I : zMI} {rl rs : Option (Nat × Nat)} {H : Heap} {locs : List Loc} {ls : Array Slot} (hl : lv_has ls 4 [(0, .ref b), (1, .ref (ad 9 0)), (2, .ref (ad 10 0)), (3, .int (nI i))]) (hR : zRel I) (hP : va_P (dC, dI) vwCl (zws cI cZ cS ad I (zRR rl rs)) H) (hG : zVG (zRR rl rs)) (hS : va_S (fun q : Nat => s.heap.size ≤ q) s.heap H locs) (hf : cells ≤ room_1.cells ∧ slots ≤ room_1.slots) (back : lw_B l p e s m below meth c b dC dI cI cZ cS ad Q cells slots ls) : W p l e room_1 s m #[Value.ref b] below meth c H locs cells slots Q (F0 m 790 ls []) := by
  obtain ⟨⟨hx, hb, hr, hml, hown, hts, hX, hbl, hlocks, hgv⟩, hL, -⟩ := id h
  refine lv_aload_n hx hb (show decode code 790 = .ok (.aload_n 1, 1) by decide +kernel) rfl (lv_at hl 1 rfl) ?_
  refine law_arg (j := 1) h (by decide) (by decide +kernel) hl (by omega) hS ?_
  refine law_call (k := 82) (c0 := 9) (x := 92) (nA := 1) (a := [zi (xs (i + 1))]) (rest := []) h (by decide +kernel) (zWm_i (by decide +kernel) ((zPr_2 (p_strong _)) 0 I rl rs hR)) ⟨trivial, trivial⟩ (Or.inl rfl) (show decode code 796 = .ok (.invokevirtual 92, 3) by decide +kernel) (by decide +kernel) (by decide +kernel) rfl (by decide) hP hS hl.1 hG hf (fun v1 I1 G1 H1 locs1 q1 hP1 hG1 hS1 => ?_)
  obtain ⟨⟨y, rfl⟩, rl1, rs1, rfl, hz2⟩ := q1
  refine lv_aload_n hx hb (show decode code 799 = .ok (.aload_n 2, 1) by decide +kernel) rfl (lv_at hl 2 rfl) ?_
  refine law_arg (j := 1) h (by decide) (by decide +kernel) hl (by omega) hS1 ?_
  refine law_call (k := 155) (c0 := 10) (x := 95) (nA := 1) (a := [zi (xs (i + 1))]) (rest := [.int y]) h (by decide +kernel) (zWm_i (by decide +kernel) hz2) ⟨trivial, trivial⟩ (Or.inr rfl) (show decode code 805 = .ok (.invokevirtual 95, 3) by decide +kernel) (by decide +kernel) (by decide +kernel) rfl (Nat.le_of_ble_eq_true rfl) hP1 hS1 hl.1 hG1 hf (fun v2 I2 G2 H2 locs2 q2 hP2 hG2 hS2 => ?_)
  obtain ⟨⟨y2, rfl⟩, e2, hR2, rl2, rs2, rfl⟩ := q2
  have e3 : y = y2 := by cases e2; rfl
  refine lv_icmp_eq (tgt := 1085) hx hb (show decode code 808 = .ok (.if_icmp .eq 277, 3) by decide +kernel) (by decide) (fun _ => ?_) (fun q => absurd e3 q)
  exact back I2 rl2 rs2 H2 locs2 hR2 hP2 hG2 hS2
set_option maxHeartbeats 4000000 in
set_option maxRecDepth 100000 in
theorem law_c19 (h : lw_H l p s m meth c b L xs dC dI cI cZ cS ad adV) {i : Nat} (hi : i + 6 ≤ L) {I : zMI} {rl rs : Option (Nat × Nat)} {H : Heap} {locs : List Loc} {ls : Array Slot} (hl : lv_has ls 4 [(0, .ref b), (1, .ref (ad 9 0)), (2, .ref (ad 10 0)), (3, .int (nI i))]) (hR : zRel I) (hP : va_P (dC, dI) vwCl (zws cI cZ cS ad I (zRR rl rs)) H) (hG : zVG (zRR rl rs)) (hS : va_S (fun q : Nat => s.heap.size ≤ q) s.heap H locs) (hf : cells ≤ room_1.cells ∧ slots ≤ room_1.slots) (back : lw_B l p e s m below meth c b dC dI cI cZ cS ad Q cells slots ls) : W p l e room_1 s m #[Value.ref b] below meth c H locs cells slots Q (F0 m 813 ls []) := by
  obtain ⟨⟨hx, hb, hr, hml, hown, hts, hX, hbl, hlocks, hgv⟩, hL, -⟩ := id h
  refine lv_aload_n hx hb (show decode code 813 = .ok (.aload_n 1, 1) by decide +kernel) rfl (lv_at hl 1 rfl) ?_
  refine law_arg (j := 1) h (by decide) (by decide +kernel) hl (by omega) hS ?_
  refine law_arg (j := 2) h (by decide) (by decide +kernel) hl (by omega) hS ?_
  refine law_call (k := 83) (c0 := 9) (x := 96) (nA := 2) (a := [zi (xs (i + 1)), zi (xs (i + 2))]) (rest := []) h (by decide +kernel) (zWm_l (by decide +kernel) ((zPr_2 (p_odds _ _)) 0 I rl rs hR)) ⟨trivial, trivial, trivial⟩ (Or.inl rfl) (show decode code 824 = .ok (.invokevirtual 96, 3) by decide +kernel) (by decide +kernel) (by decide +kernel) rfl (by decide) hP hS hl.1 hG hf (fun v1 I1 G1 H1 locs1 q1 hP1 hG1 hS1 => ?_)
  obtain ⟨⟨y, rfl⟩, rl1, rs1, rfl, hz2⟩ := q1
  refine lv_aload_n hx hb (show decode code 827 = .ok (.aload_n 2, 1) by decide +kernel) rfl (lv_at hl 2 rfl) ?_
  refine law_arg (j := 1) h (by decide) (by decide +kernel) hl (by omega) hS1 ?_
  refine law_arg (j := 2) h (by decide) (by decide +kernel) hl (by omega) hS1 ?_
  refine law_call (k := 157) (c0 := 10) (x := 100) (nA := 2) (a := [zi (xs (i + 1)), zi (xs (i + 2))]) (rest := [.long y]) h (by decide +kernel) (zWm_l (by decide +kernel) hz2) ⟨trivial, trivial, trivial⟩ (Or.inr rfl) (show decode code 838 = .ok (.invokevirtual 100, 3) by decide +kernel) (by decide +kernel) (by decide +kernel) rfl (Nat.le_of_ble_eq_true rfl) hP1 hS1 hl.1 hG1 hf (fun v2 I2 G2 H2 locs2 q2 hP2 hG2 hS2 => ?_)
  obtain ⟨⟨y2, rfl⟩, e2, hR2, rl2, rs2, rfl⟩ := q2
  have e3 : y = y2 := by cases e2; rfl
  refine W.lcmp hx hb (show decode code 841 = .ok (.lcmp, 1) by decide +kernel) ?_
  refine lv_if_eq (tgt := 1085) hx hb (show decode code 842 = .ok (.ifCond .eq 243, 3) by decide +kernel) (by decide) (fun _ => ?_) (fun q => absurd (lg_0.mpr e3) q)
  exact back I2 rl2 rs2 H2 locs2 hR2 hP2 hG2 hS2
set_option maxHeartbeats 4000000 in
set_option maxRecDepth 100000 in
theorem law_c20 (h : lw_H l p s m meth c b L xs dC dI cI cZ cS ad adV) {i : Nat} (hi : i + 6 ≤ L) {I : zMI} {rl rs : Option (Nat × Nat)} {H : Heap} {locs : List Loc} {ls : Array Slot} (hl : lv_has ls 4 [(0, .ref b), (1, .ref (ad 9 0)), (2, .ref (ad 10 0)), (3, .int (nI i))]) (hR : zRel I) (hP : va_P (dC, dI) vwCl (zws cI cZ cS ad I (zRR rl rs)) H) (hG : zVG (zRR rl rs)) (hS : va_S (fun q : Nat => s.heap.size ≤ q) s.heap H locs) (hf : cells ≤ room_1.cells ∧ slots ≤ room_1.slots) (back : lw_B l p e s m below meth c b dC dI cI cZ cS ad Q cells slots ls) : W p l e room_1 s m #[Value.ref b] below meth c H locs cells slots Q (F0 m 847 ls []) := by
  obtain ⟨⟨hx, hb, hr, hml, hown, hts, hX, hbl, hlocks, hgv⟩, hL, -⟩ := id h
  refine lv_aload_n hx hb (show decode code 847 = .ok (.aload_n 1, 1) by decide +kernel) rfl (lv_at hl 1 rfl) ?_
  refine law_arg (j := 1) h (by decide) (by decide +kernel) hl (by omega) hS ?_
  refine law_arg (j := 2) h (by decide) (by decide +kernel) hl (by omega) hS ?_
  refine law_call (k := 84) (c0 := 9) (x := 101) (nA := 2) (a := [zi (xs (i + 1)), zi (xs (i + 2))]) (rest := []) h (by decide +kernel) (zWm_l (by decide +kernel) ((zPr_2 (p_mean _ _)) 0 I rl rs hR)) ⟨trivial, trivial, trivial⟩ (Or.inl rfl) (show decode code 858 = .ok (.invokevirtual 101, 3) by decide +kernel) (by decide +kernel) (by decide +kernel) rfl (by decide) hP hS hl.1 hG hf (fun v1 I1 G1 H1 locs1 q1 hP1 hG1 hS1 => ?_)
  obtain ⟨⟨y, rfl⟩, rl1, rs1, rfl, hz2⟩ := q1
  refine lv_aload_n hx hb (show decode code 861 = .ok (.aload_n 2, 1) by decide +kernel) rfl (lv_at hl 2 rfl) ?_
  refine law_arg (j := 1) h (by decide) (by decide +kernel) hl (by omega) hS1 ?_
  refine law_arg (j := 2) h (by decide) (by decide +kernel) hl (by omega) hS1 ?_
  refine law_call (k := 158) (c0 := 10) (x := 104) (nA := 2) (a := [zi (xs (i + 1)), zi (xs (i + 2))]) (rest := [.long y]) h (by decide +kernel) (zWm_l (by decide +kernel) hz2) ⟨trivial, trivial, trivial⟩ (Or.inr rfl) (show decode code 872 = .ok (.invokevirtual 104, 3) by decide +kernel) (by decide +kernel) (by decide +kernel) rfl (Nat.le_of_ble_eq_true rfl) hP1 hS1 hl.1 hG1 hf (fun v2 I2 G2 H2 locs2 q2 hP2 hG2 hS2 => ?_)
  obtain ⟨⟨y2, rfl⟩, e2, hR2, rl2, rs2, rfl⟩ := q2
  have e3 : y = y2 := by cases e2; rfl
  refine W.lcmp hx hb (show decode code 875 = .ok (.lcmp, 1) by decide +kernel) ?_
  refine lv_if_eq (tgt := 1085) hx hb (show decode code 876 = .ok (.ifCond .eq 209, 3) by decide +kernel) (by decide) (fun _ => ?_) (fun q => absurd (lg_0.mpr e3) q)
  exact back I2 rl2 rs2 H2 locs2 hR2 hP2 hG2 hS2
set_option maxHeartbeats 4000000 in
set_option maxRecDepth 100000 in
theorem law_c21 (h : lw_H l p s m meth c b L xs dC dI cI cZ cS ad adV) {i : Nat} (hi : i + 6 ≤ L) {I : zMI} {rl rs : Option (Nat × Nat)} {H : Heap} {locs : List Loc} {ls : Array Slot} (hl : lv_has ls 4 [(0, .ref b), (1, .ref (ad 9 0)), (2, .ref (ad 10 0)), (3, .int (nI i))]) (hR : zRel I) (hP : va_P (dC, dI) vwCl (zws cI cZ cS ad I (zRR rl rs)) H) (hG : zVG (zRR rl rs)) (hS : va_S (fun q : Nat => s.heap.size ≤ q) s.heap H locs) (hf : cells ≤ room_1.cells ∧ slots ≤ room_1.slots) (back : lw_B l p e s m below meth c b dC dI cI cZ cS ad Q cells slots ls) : W p l e room_1 s m #[Value.ref b] below meth c H locs cells slots Q (F0 m 881 ls []) := by
  obtain ⟨⟨hx, hb, hr, hml, hown, hts, hX, hbl, hlocks, hgv⟩, hL, -⟩ := id h
  refine lv_aload_n hx hb (show decode code 881 = .ok (.aload_n 1, 1) by decide +kernel) rfl (lv_at hl 1 rfl) ?_
  refine law_arg (j := 1) h (by decide) (by decide +kernel) hl (by omega) hS ?_
  refine law_arg (j := 2) h (by decide) (by decide +kernel) hl (by omega) hS ?_
  refine law_arg (j := 3) h (by decide) (by decide +kernel) hl (by omega) hS ?_
  refine law_call (k := 85) (c0 := 9) (x := 105) (nA := 3) (a := [zi (xs (i + 1)), zi (xs (i + 2)), zi (xs (i + 3))]) (rest := []) h (by decide +kernel) (zWm_i (by decide +kernel) ((zPr_2 (p_book _ _ _)) 0 I rl rs hR)) ⟨trivial, trivial, trivial, trivial⟩ (Or.inl rfl) (show decode code 897 = .ok (.invokevirtual 105, 3) by decide +kernel) (by decide +kernel) (by decide +kernel) rfl (by decide) hP hS hl.1 hG hf (fun v1 I1 G1 H1 locs1 q1 hP1 hG1 hS1 => ?_)
  obtain ⟨⟨y, rfl⟩, rl1, rs1, rfl, hz2⟩ := q1
  refine lv_aload_n hx hb (show decode code 900 = .ok (.aload_n 2, 1) by decide +kernel) rfl (lv_at hl 2 rfl) ?_
  refine law_arg (j := 1) h (by decide) (by decide +kernel) hl (by omega) hS1 ?_
  refine law_arg (j := 2) h (by decide) (by decide +kernel) hl (by omega) hS1 ?_
  refine law_arg (j := 3) h (by decide) (by decide +kernel) hl (by omega) hS1 ?_
  refine law_call (k := 159) (c0 := 10) (x := 108) (nA := 3) (a := [zi (xs (i + 1)), zi (xs (i + 2)), zi (xs (i + 3))]) (rest := [.int y]) h (by decide +kernel) (zWm_i (by decide +kernel) hz2) ⟨trivial, trivial, trivial, trivial⟩ (Or.inr rfl) (show decode code 916 = .ok (.invokevirtual 108, 3) by decide +kernel) (by decide +kernel) (by decide +kernel) rfl (Nat.le_of_ble_eq_true rfl) hP1 hS1 hl.1 hG1 hf (fun v2 I2 G2 H2 locs2 q2 hP2 hG2 hS2 => ?_)
  obtain ⟨⟨y2, rfl⟩, e2, hR2, rl2, rs2, rfl⟩ := q2
  have e3 : y = y2 := by cases e2; rfl
  refine lv_icmp_eq (tgt := 1085) hx hb (show decode code 919 = .ok (.if_icmp .eq 166, 3) by decide +kernel) (by decide) (fun _ => ?_) (fun q => absurd e3 q)
  exact back I2 rl2 rs2 H2 locs2 hR2 hP2 hG2 hS2
set_option maxHeartbeats 4000000 in
set_option maxRecDepth 100000 in
theorem law_c22 (h : lw_H l p s m meth c b L xs dC dI cI cZ cS ad adV) {i : Nat} (hi : i + 6 ≤ L) {I : zMI} {rl rs : Option (Nat × Nat)} {H : Heap} {locs : List Loc} {ls : Array Slot} (hl : lv_has ls 4 [(0, .ref b), (1, .ref (ad 9 0)), (2, .ref (ad 10 0)), (3, .int (nI i))]) (hR : zRel I) (hP : va_P (dC, dI) vwCl (zws cI cZ cS ad I (zRR rl rs)) H) (hG : zVG (zRR rl rs)) (hS : va_S (fun q : Nat => s.heap.size ≤ q) s.heap H locs) (hf : cells ≤ room_1.cells ∧ slots ≤ room_1.slots) (back : lw_B l p e s m below meth c b dC dI cI cZ cS ad Q cells slots ls) : W p l e room_1 s m #[Value.ref b] below meth c H locs cells slots Q (F0 m 924 ls []) := by
  obtain ⟨⟨hx, hb, hr, hml, hown, hts, hX, hbl, hlocks, hgv⟩, hL, -⟩ := id h
  refine lv_aload_n hx hb (show decode code 924 = .ok (.aload_n 1, 1) by decide +kernel) rfl (lv_at hl 1 rfl) ?_
  refine law_call (k := 86) (c0 := 9) (x := 109) (nA := 0) (a := []) (rest := []) h (by decide +kernel) (zWm_i (by decide +kernel) ((zPr_2 (p_looked)) 0 I rl rs hR)) trivial (Or.inl rfl) (show decode code 925 = .ok (.invokevirtual 109, 3) by decide +kernel) (by decide +kernel) (by decide +kernel) rfl (by decide) hP hS hl.1 hG hf (fun v1 I1 G1 H1 locs1 q1 hP1 hG1 hS1 => ?_)
  obtain ⟨⟨y, rfl⟩, rl1, rs1, rfl, hz2⟩ := q1
  refine lv_aload_n hx hb (show decode code 928 = .ok (.aload_n 2, 1) by decide +kernel) rfl (lv_at hl 2 rfl) ?_
  refine law_call (k := 160) (c0 := 10) (x := 112) (nA := 0) (a := []) (rest := [.int y]) h (by decide +kernel) (zWm_i (by decide +kernel) hz2) trivial (Or.inr rfl) (show decode code 929 = .ok (.invokevirtual 112, 3) by decide +kernel) (by decide +kernel) (by decide +kernel) rfl (Nat.le_of_ble_eq_true rfl) hP1 hS1 hl.1 hG1 hf (fun v2 I2 G2 H2 locs2 q2 hP2 hG2 hS2 => ?_)
  obtain ⟨⟨y2, rfl⟩, e2, hR2, rl2, rs2, rfl⟩ := q2
  have e3 : y = y2 := by cases e2; rfl
  refine lv_icmp_eq (tgt := 1085) hx hb (show decode code 932 = .ok (.if_icmp .eq 153, 3) by decide +kernel) (by decide) (fun _ => ?_) (fun q => absurd e3 q)
  exact back I2 rl2 rs2 H2 locs2 hR2 hP2 hG2 hS2
set_option maxHeartbeats 4000000 in
set_option maxRecDepth 100000 in
theorem law_c23 (h : lw_H l p s m meth c b L xs dC dI cI cZ cS ad adV) {i : Nat} (hi : i + 6 ≤ L) {I : zMI} {rl rs : Option (Nat × Nat)} {H : Heap} {locs : List Loc} {ls : Array Slot} (hl : lv_has ls 4 [(0, .ref b), (1, .ref (ad 9 0)), (2, .ref (ad 10 0)), (3, .int (nI i))]) (hR : zRel I) (hP : va_P (dC, dI) vwCl (zws cI cZ cS ad I (zRR rl rs)) H) (hG : zVG (zRR rl rs)) (hS : va_S (fun q : Nat => s.heap.size ≤ q) s.heap H locs) (hf : cells ≤ room_1.cells ∧ slots ≤ room_1.slots) (back : lw_B l p e s m below meth c b dC dI cI cZ cS ad Q cells slots ls) : W p l e room_1 s m #[Value.ref b] below meth c H locs cells slots Q (F0 m 937 ls []) := by
  obtain ⟨⟨hx, hb, hr, hml, hown, hts, hX, hbl, hlocks, hgv⟩, hL, -⟩ := id h
  refine lv_aload_n hx hb (show decode code 937 = .ok (.aload_n 1, 1) by decide +kernel) rfl (lv_at hl 1 rfl) ?_
  refine law_arg (j := 1) h (by decide) (by decide +kernel) hl (by omega) hS ?_
  refine law_arg (j := 2) h (by decide) (by decide +kernel) hl (by omega) hS ?_
  refine law_arg (j := 3) h (by decide) (by decide +kernel) hl (by omega) hS ?_
  refine law_call (k := 87) (c0 := 9) (x := 113) (nA := 3) (a := [zi (xs (i + 1)), zi (xs (i + 2)), zi (xs (i + 3))]) (rest := []) h (by decide +kernel) (zWm_i (by decide +kernel) ((zPr_2 (p_act _ _ _)) 0 I rl rs hR)) ⟨trivial, trivial, trivial, trivial⟩ (Or.inl rfl) (show decode code 953 = .ok (.invokevirtual 113, 3) by decide +kernel) (by decide +kernel) (by decide +kernel) rfl (by decide) hP hS hl.1 hG hf (fun v1 I1 G1 H1 locs1 q1 hP1 hG1 hS1 => ?_)
  obtain ⟨⟨y, rfl⟩, rl1, rs1, rfl, hz2⟩ := q1
  refine lv_aload_n hx hb (show decode code 956 = .ok (.aload_n 2, 1) by decide +kernel) rfl (lv_at hl 2 rfl) ?_
  refine law_arg (j := 1) h (by decide) (by decide +kernel) hl (by omega) hS1 ?_
  refine law_arg (j := 2) h (by decide) (by decide +kernel) hl (by omega) hS1 ?_
  refine law_arg (j := 3) h (by decide) (by decide +kernel) hl (by omega) hS1 ?_
  refine law_call (k := 169) (c0 := 10) (x := 116) (nA := 3) (a := [zi (xs (i + 1)), zi (xs (i + 2)), zi (xs (i + 3))]) (rest := [.int y]) h (by decide +kernel) (zWm_i (by decide +kernel) hz2) ⟨trivial, trivial, trivial, trivial⟩ (Or.inr rfl) (show decode code 972 = .ok (.invokevirtual 116, 3) by decide +kernel) (by decide +kernel) (by decide +kernel) rfl (Nat.le_of_ble_eq_true rfl) hP1 hS1 hl.1 hG1 hf (fun v2 I2 G2 H2 locs2 q2 hP2 hG2 hS2 => ?_)
  obtain ⟨⟨y2, rfl⟩, e2, hR2, rl2, rs2, rfl⟩ := q2
  have e3 : y = y2 := by cases e2; rfl
  refine lv_icmp_eq (tgt := 1085) hx hb (show decode code 975 = .ok (.if_icmp .eq 110, 3) by decide +kernel) (by decide) (fun _ => ?_) (fun q => absurd e3 q)
  exact back I2 rl2 rs2 H2 locs2 hR2 hP2 hG2 hS2
set_option maxHeartbeats 4000000 in
set_option maxRecDepth 100000 in
theorem law_c24 (h : lw_H l p s m meth c b L xs dC dI cI cZ cS ad adV) {i : Nat} (hi : i + 6 ≤ L) {I : zMI} {rl rs : Option (Nat × Nat)} {H : Heap} {locs : List Loc} {ls : Array Slot} (hl : lv_has ls 4 [(0, .ref b), (1, .ref (ad 9 0)), (2, .ref (ad 10 0)), (3, .int (nI i))]) (hR : zRel I) (hP : va_P (dC, dI) vwCl (zws cI cZ cS ad I (zRR rl rs)) H) (hG : zVG (zRR rl rs)) (hS : va_S (fun q : Nat => s.heap.size ≤ q) s.heap H locs) (hf : cells ≤ room_1.cells ∧ slots ≤ room_1.slots) (back : lw_B l p e s m below meth c b dC dI cI cZ cS ad Q cells slots ls) : W p l e room_1 s m #[Value.ref b] below meth c H locs cells slots Q (F0 m 980 ls []) := by
  obtain ⟨⟨hx, hb, hr, hml, hown, hts, hX, hbl, hlocks, hgv⟩, hL, -⟩ := id h
  refine lv_aload_n hx hb (show decode code 980 = .ok (.aload_n 1, 1) by decide +kernel) rfl (lv_at hl 1 rfl) ?_
  refine law_arg (j := 1) h (by decide) (by decide +kernel) hl (by omega) hS ?_
  refine law_call (k := 88) (c0 := 9) (x := 117) (nA := 1) (a := [zi (xs (i + 1))]) (rest := []) h (by decide +kernel) (zWm_i (by decide +kernel) ((zPr_2 (p_trace _)) 0 I rl rs hR)) ⟨trivial, trivial⟩ (Or.inl rfl) (show decode code 986 = .ok (.invokevirtual 117, 3) by decide +kernel) (by decide +kernel) (by decide +kernel) rfl (by decide) hP hS hl.1 hG hf (fun v1 I1 G1 H1 locs1 q1 hP1 hG1 hS1 => ?_)
  obtain ⟨⟨y, rfl⟩, rl1, rs1, rfl, hz2⟩ := q1
  refine lv_aload_n hx hb (show decode code 989 = .ok (.aload_n 2, 1) by decide +kernel) rfl (lv_at hl 2 rfl) ?_
  refine law_arg (j := 1) h (by decide) (by decide +kernel) hl (by omega) hS1 ?_
  refine law_call (k := 170) (c0 := 10) (x := 120) (nA := 1) (a := [zi (xs (i + 1))]) (rest := [.int y]) h (by decide +kernel) (zWm_i (by decide +kernel) hz2) ⟨trivial, trivial⟩ (Or.inr rfl) (show decode code 995 = .ok (.invokevirtual 120, 3) by decide +kernel) (by decide +kernel) (by decide +kernel) rfl (Nat.le_of_ble_eq_true rfl) hP1 hS1 hl.1 hG1 hf (fun v2 I2 G2 H2 locs2 q2 hP2 hG2 hS2 => ?_)
  obtain ⟨⟨y2, rfl⟩, e2, hR2, rl2, rs2, rfl⟩ := q2
  have e3 : y = y2 := by cases e2; rfl
  refine lv_icmp_eq (tgt := 1085) hx hb (show decode code 998 = .ok (.if_icmp .eq 87, 3) by decide +kernel) (by decide) (fun _ => ?_) (fun q => absurd e3 q)
  exact back I2 rl2 rs2 H2 locs2 hR2 hP2 hG2 hS2
set_option maxHeartbeats 4000000 in
set_option maxRecDepth 100000 in
theorem law_c25 (h : lw_H l p s m meth c b L xs dC dI cI cZ cS ad adV) {i : Nat} (hi : i + 6 ≤ L) {I : zMI} {rl rs : Option (Nat × Nat)} {H : Heap} {locs : List Loc} {ls : Array Slot} (hl : lv_has ls 4 [(0, .ref b), (1, .ref (ad 9 0)), (2, .ref (ad 10 0)), (3, .int (nI i))]) (hR : zRel I) (hP : va_P (dC, dI) vwCl (zws cI cZ cS ad I (zRR rl rs)) H) (hG : zVG (zRR rl rs)) (hS : va_S (fun q : Nat => s.heap.size ≤ q) s.heap H locs) (hf : cells ≤ room_1.cells ∧ slots ≤ room_1.slots) (back : lw_B l p e s m below meth c b dC dI cI cZ cS ad Q cells slots ls) : W p l e room_1 s m #[Value.ref b] below meth c H locs cells slots Q (F0 m 1003 ls []) := by
  obtain ⟨⟨hx, hb, hr, hml, hown, hts, hX, hbl, hlocks, hgv⟩, hL, -⟩ := id h
  refine lv_aload_n hx hb (show decode code 1003 = .ok (.aload_n 1, 1) by decide +kernel) rfl (lv_at hl 1 rfl) ?_
  refine law_arg (j := 1) h (by decide) (by decide +kernel) hl (by omega) hS ?_
  refine law_arg (j := 2) h (by decide) (by decide +kernel) hl (by omega) hS ?_
  refine law_call (k := 89) (c0 := 9) (x := 121) (nA := 2) (a := [zi (xs (i + 1)), zi (xs (i + 2))]) (rest := []) h (by decide +kernel) (zWm_i (by decide +kernel) ((zPr_2 (p_as _ _)) 0 I rl rs hR)) ⟨trivial, trivial, trivial⟩ (Or.inl rfl) (show decode code 1014 = .ok (.invokevirtual 121, 3) by decide +kernel) (by decide +kernel) (by decide +kernel) rfl (by decide) hP hS hl.1 hG hf (fun v1 I1 G1 H1 locs1 q1 hP1 hG1 hS1 => ?_)
  obtain ⟨⟨y, rfl⟩, rl1, rs1, rfl, hz2⟩ := q1
  refine lv_aload_n hx hb (show decode code 1017 = .ok (.aload_n 2, 1) by decide +kernel) rfl (lv_at hl 2 rfl) ?_
  refine law_arg (j := 1) h (by decide) (by decide +kernel) hl (by omega) hS1 ?_
  refine law_arg (j := 2) h (by decide) (by decide +kernel) hl (by omega) hS1 ?_
  refine law_call (k := 171) (c0 := 10) (x := 124) (nA := 2) (a := [zi (xs (i + 1)), zi (xs (i + 2))]) (rest := [.int y]) h (by decide +kernel) (zWm_i (by decide +kernel) hz2) ⟨trivial, trivial, trivial⟩ (Or.inr rfl) (show decode code 1028 = .ok (.invokevirtual 124, 3) by decide +kernel) (by decide +kernel) (by decide +kernel) rfl (Nat.le_of_ble_eq_true rfl) hP1 hS1 hl.1 hG1 hf (fun v2 I2 G2 H2 locs2 q2 hP2 hG2 hS2 => ?_)
  obtain ⟨⟨y2, rfl⟩, e2, hR2, rl2, rs2, rfl⟩ := q2
  have e3 : y = y2 := by cases e2; rfl
  refine lv_icmp_eq (tgt := 1085) hx hb (show decode code 1031 = .ok (.if_icmp .eq 54, 3) by decide +kernel) (by decide) (fun _ => ?_) (fun q => absurd e3 q)
  exact back I2 rl2 rs2 H2 locs2 hR2 hP2 hG2 hS2
set_option maxHeartbeats 4000000 in
set_option maxRecDepth 100000 in
theorem law_c26 (h : lw_H l p s m meth c b L xs dC dI cI cZ cS ad adV) {i : Nat} (hi : i + 6 ≤ L) {I : zMI} {rl rs : Option (Nat × Nat)} {H : Heap} {locs : List Loc} {ls : Array Slot} (hl : lv_has ls 4 [(0, .ref b), (1, .ref (ad 9 0)), (2, .ref (ad 10 0)), (3, .int (nI i))]) (hR : zRel I) (hP : va_P (dC, dI) vwCl (zws cI cZ cS ad I (zRR rl rs)) H) (hG : zVG (zRR rl rs)) (hS : va_S (fun q : Nat => s.heap.size ≤ q) s.heap H locs) (hf : cells ≤ room_1.cells ∧ slots ≤ room_1.slots) (back : lw_B l p e s m below meth c b dC dI cI cZ cS ad Q cells slots ls) : W p l e room_1 s m #[Value.ref b] below meth c H locs cells slots Q (F0 m 1036 ls []) := by
  obtain ⟨⟨hx, hb, hr, hml, hown, hts, hX, hbl, hlocks, hgv⟩, hL, -⟩ := id h
  refine lv_aload_n hx hb (show decode code 1036 = .ok (.aload_n 1, 1) by decide +kernel) rfl (lv_at hl 1 rfl) ?_
  refine law_call (k := 90) (c0 := 9) (x := 125) (nA := 0) (a := []) (rest := []) h (by decide +kernel) (zWm_i (by decide +kernel) ((zPr_2 (p_image)) 0 I rl rs hR)) trivial (Or.inl rfl) (show decode code 1037 = .ok (.invokevirtual 125, 3) by decide +kernel) (by decide +kernel) (by decide +kernel) rfl (by decide) hP hS hl.1 hG hf (fun v1 I1 G1 H1 locs1 q1 hP1 hG1 hS1 => ?_)
  obtain ⟨⟨y, rfl⟩, rl1, rs1, rfl, hz2⟩ := q1
  refine lv_aload_n hx hb (show decode code 1040 = .ok (.aload_n 2, 1) by decide +kernel) rfl (lv_at hl 2 rfl) ?_
  refine law_call (k := 172) (c0 := 10) (x := 128) (nA := 0) (a := []) (rest := [.int y]) h (by decide +kernel) (zWm_i (by decide +kernel) hz2) trivial (Or.inr rfl) (show decode code 1041 = .ok (.invokevirtual 128, 3) by decide +kernel) (by decide +kernel) (by decide +kernel) rfl (Nat.le_of_ble_eq_true rfl) hP1 hS1 hl.1 hG1 hf (fun v2 I2 G2 H2 locs2 q2 hP2 hG2 hS2 => ?_)
  obtain ⟨⟨y2, rfl⟩, e2, hR2, rl2, rs2, rfl⟩ := q2
  have e3 : y = y2 := by cases e2; rfl
  refine lv_icmp_eq (tgt := 1085) hx hb (show decode code 1044 = .ok (.if_icmp .eq 41, 3) by decide +kernel) (by decide) (fun _ => ?_) (fun q => absurd e3 q)
  exact back I2 rl2 rs2 H2 locs2 hR2 hP2 hG2 hS2
set_option maxHeartbeats 4000000 in
set_option maxRecDepth 100000 in
theorem law_c27 (h : lw_H l p s m meth c b L xs dC dI cI cZ cS ad adV) {i : Nat} (hi : i + 6 ≤ L) {I : zMI} {rl rs : Option (Nat × Nat)} {H : Heap} {locs : List Loc} {ls : Array Slot} (hl : lv_has ls 4 [(0, .ref b), (1, .ref (ad 9 0)), (2, .ref (ad 10 0)), (3, .int (nI i))]) (hR : zRel I) (hP : va_P (dC, dI) vwCl (zws cI cZ cS ad I (zRR rl rs)) H) (hG : zVG (zRR rl rs)) (hS : va_S (fun q : Nat => s.heap.size ≤ q) s.heap H locs) (hf : cells ≤ room_1.cells ∧ slots ≤ room_1.slots) (back : lw_B l p e s m below meth c b dC dI cI cZ cS ad Q cells slots ls) : W p l e room_1 s m #[Value.ref b] below meth c H locs cells slots Q (F0 m 1049 ls []) := by
  obtain ⟨⟨hx, hb, hr, hml, hown, hts, hX, hbl, hlocks, hgv⟩, hL, -⟩ := id h
  refine lv_aload_n hx hb (show decode code 1049 = .ok (.aload_n 1, 1) by decide +kernel) rfl (lv_at hl 1 rfl) ?_
  refine law_call (k := 91) (c0 := 9) (x := 129) (nA := 0) (a := []) (rest := []) h (by decide +kernel) (zWm_i (by decide +kernel) ((zPr_2 (p_undo)) 0 I rl rs hR)) trivial (Or.inl rfl) (show decode code 1050 = .ok (.invokevirtual 129, 3) by decide +kernel) (by decide +kernel) (by decide +kernel) rfl (by decide) hP hS hl.1 hG hf (fun v1 I1 G1 H1 locs1 q1 hP1 hG1 hS1 => ?_)
  obtain ⟨⟨y, rfl⟩, rl1, rs1, rfl, hz2⟩ := q1
  refine lv_aload_n hx hb (show decode code 1053 = .ok (.aload_n 2, 1) by decide +kernel) rfl (lv_at hl 2 rfl) ?_
  refine law_call (k := 173) (c0 := 10) (x := 132) (nA := 0) (a := []) (rest := [.int y]) h (by decide +kernel) (zWm_i (by decide +kernel) hz2) trivial (Or.inr rfl) (show decode code 1054 = .ok (.invokevirtual 132, 3) by decide +kernel) (by decide +kernel) (by decide +kernel) rfl (Nat.le_of_ble_eq_true rfl) hP1 hS1 hl.1 hG1 hf (fun v2 I2 G2 H2 locs2 q2 hP2 hG2 hS2 => ?_)
  obtain ⟨⟨y2, rfl⟩, e2, hR2, rl2, rs2, rfl⟩ := q2
  have e3 : y = y2 := by cases e2; rfl
  refine lv_icmp_eq (tgt := 1085) hx hb (show decode code 1057 = .ok (.if_icmp .eq 28, 3) by decide +kernel) (by decide) (fun _ => ?_) (fun q => absurd e3 q)
  exact back I2 rl2 rs2 H2 locs2 hR2 hP2 hG2 hS2
set_option maxHeartbeats 4000000 in
set_option maxRecDepth 100000 in
theorem law_c28 (h : lw_H l p s m meth c b L xs dC dI cI cZ cS ad adV) {i : Nat} (hi : i + 6 ≤ L) {I : zMI} {rl rs : Option (Nat × Nat)} {H : Heap} {locs : List Loc} {ls : Array Slot} (hl : lv_has ls 4 [(0, .ref b), (1, .ref (ad 9 0)), (2, .ref (ad 10 0)), (3, .int (nI i))]) (hR : zRel I) (hP : va_P (dC, dI) vwCl (zws cI cZ cS ad I (zRR rl rs)) H) (hG : zVG (zRR rl rs)) (hS : va_S (fun q : Nat => s.heap.size ≤ q) s.heap H locs) (hf : cells ≤ room_1.cells ∧ slots ≤ room_1.slots) (back : lw_B l p e s m below meth c b dC dI cI cZ cS ad Q cells slots ls) : W p l e room_1 s m #[Value.ref b] below meth c H locs cells slots Q (F0 m 1062 ls []) := by
  obtain ⟨⟨hx, hb, hr, hml, hown, hts, hX, hbl, hlocks, hgv⟩, hL, -⟩ := id h
  refine lv_aload_n hx hb (show decode code 1062 = .ok (.aload_n 1, 1) by decide +kernel) rfl (lv_at hl 1 rfl) ?_
  refine law_arg (j := 1) h (by decide) (by decide +kernel) hl (by omega) hS ?_
  refine law_call (k := 92) (c0 := 9) (x := 133) (nA := 1) (a := [zi (xs (i + 1))]) (rest := []) h (by decide +kernel) (zWm_i (by decide +kernel) ((zPr_2 (p_count _)) 0 I rl rs hR)) ⟨trivial, trivial⟩ (Or.inl rfl) (show decode code 1068 = .ok (.invokevirtual 133, 3) by decide +kernel) (by decide +kernel) (by decide +kernel) rfl (by decide) hP hS hl.1 hG hf (fun v1 I1 G1 H1 locs1 q1 hP1 hG1 hS1 => ?_)
  obtain ⟨⟨y, rfl⟩, rl1, rs1, rfl, hz2⟩ := q1
  refine lv_aload_n hx hb (show decode code 1071 = .ok (.aload_n 2, 1) by decide +kernel) rfl (lv_at hl 2 rfl) ?_
  refine law_arg (j := 1) h (by decide) (by decide +kernel) hl (by omega) hS1 ?_
  refine law_call (k := 174) (c0 := 10) (x := 136) (nA := 1) (a := [zi (xs (i + 1))]) (rest := [.int y]) h (by decide +kernel) (zWm_i (by decide +kernel) hz2) ⟨trivial, trivial⟩ (Or.inr rfl) (show decode code 1077 = .ok (.invokevirtual 136, 3) by decide +kernel) (by decide +kernel) (by decide +kernel) rfl (Nat.le_of_ble_eq_true rfl) hP1 hS1 hl.1 hG1 hf (fun v2 I2 G2 H2 locs2 q2 hP2 hG2 hS2 => ?_)
  obtain ⟨⟨y2, rfl⟩, e2, hR2, rl2, rs2, rfl⟩ := q2
  have e3 : y = y2 := by cases e2; rfl
  refine lv_icmp_eq (tgt := 1085) hx hb (show decode code 1080 = .ok (.if_icmp .eq 5, 3) by decide +kernel) (by decide) (fun _ => ?_) (fun q => absurd e3 q)
  exact back I2 rl2 rs2 H2 locs2 hR2 hP2 hG2 hS2
end
