/-! THE LAW: what a call stands on (by gen9.py) -/
def zLM : List (Nat × (Nat × Nat)) := [(64, 9, 13), (113, 10, 17), (65, 9, 18), (126, 10, 22), (66, 9, 23), (130, 10, 27), (67, 9, 28), (131, 10, 32), (68, 9, 33), (132, 10, 36), (69, 9, 37), (133, 10, 41), (70, 9, 42), (134, 10, 46), (71, 9, 47), (135, 10, 50), (72, 9, 51), (138, 10, 54), (73, 9, 55), (144, 10, 58), (74, 9, 59), (145, 10, 62), (75, 9, 63), (146, 10, 66), (76, 9, 67), (147, 10, 70), (77, 9, 71), (148, 10, 74), (78, 9, 75), (149, 10, 78), (79, 9, 79), (150, 10, 82), (80, 9, 83), (152, 10, 86), (81, 9, 87), (153, 10, 91), (82, 9, 92), (155, 10, 95), (83, 9, 96), (157, 10, 100), (84, 9, 101), (158, 10, 104), (85, 9, 105), (159, 10, 108), (86, 9, 109), (160, 10, 112), (87, 9, 113), (169, 10, 116), (88, 9, 117), (170, 10, 120), (89, 9, 121), (171, 10, 124), (90, 9, 125), (172, 10, 128), (91, 9, 129), (173, 10, 132), (92, 9, 133), (174, 10, 136)]
def zlmW (e : Nat × (Nat × Nat)) : List Cond := [.methodLink R_law e.2.2 (zmt e.1).1, .instanceMethod (zmt e.1).1, .selects (zcn e.2.1) (zmt e.1).1 (zmt e.1).1, .initialized (zcn e.2.1)]
def zlmP : List (List Nat) := [[371, 372, 373, 61], [918, 919, 920, 71], [379, 380, 381, 61], [925, 926, 927, 71], [504, 505, 506, 61], [985, 986, 987, 71], [518, 519, 520, 61], [992, 993, 994, 71], [554, 555, 556, 61], [1012, 1013, 1014, 71], [558, 559, 560, 61], [1016, 1017, 1018, 71], [566, 567, 568, 61], [1020, 1021, 1022, 71], [570, 571, 572, 61], [1024, 1025, 1026, 71], [578, 579, 580, 61], [1028, 1029, 1030, 71], [598, 599, 600, 61], [1040, 1041, 1042, 71], [660, 661, 662, 61], [1067, 1068, 1069, 71], [664, 665, 666, 61], [1071, 1072, 1073, 71], [672, 673, 674, 61], [1075, 1076, 1077, 71], [680, 681, 682, 61], [1080, 1081, 1082, 71], [688, 689, 690, 61], [1084, 1085, 1086, 71], [696, 697, 698, 61], [1088, 1089, 1090, 71], [703, 704, 705, 61], [1092, 1093, 1094, 71], [707, 708, 709, 61], [1100, 1101, 1102, 71], [718, 719, 720, 61], [1104, 1105, 1106, 71], [731, 732, 733, 61], [1112, 1113, 1114, 71], [739, 740, 741, 61], [1121, 1122, 1123, 71], [743, 744, 745, 61], [1126, 1127, 1128, 71], [747, 748, 749, 61], [1130, 1131, 1132, 71], [751, 752, 753, 61], [1134, 1135, 1136, 71], [789, 790, 791, 61], [1169, 1170, 1171, 71], [793, 794, 795, 61], [1173, 1174, 1175, 71], [802, 803, 804, 61], [1177, 1178, 1179, 71], [826, 827, 828, 61], [1181, 1182, 1183, 71], [830, 831, 832, 61], [1185, 1186, 1187, 71]]
set_option maxRecDepth 100000 in
theorem zlm_ok : zpkL zlmP (zLM.map zlmW) = true := by decide +kernel
theorem zlm_in {e : Nat × (Nat × Nat)} (h : e ∈ zLM) : ∀ w ∈ zlmW e, w ∈ zgw := fun w hw => zgw_of (zpkL_in zlm_ok _ (List.mem_map.mpr ⟨e, h, rfl⟩) _ hw)
theorem zRel_0 : zRel zI0 := by
  refine ⟨0, 0, 0, ⟨⟨rfl, rfl, by decide, fun i hi => absurd hi (Nat.not_lt_zero i), fun i l hi => absurd hi (Nat.not_lt_zero i), fun x _ _ => rfl, rfl, fun i _ => b_0 i⟩, ⟨rfl, rfl, by decide, rfl, fun j hj => absurd hj (Nat.not_lt_zero j)⟩, ⟨0, rfl, rfl, by decide, fun i hi => absurd hi (Nat.not_lt_zero i)⟩, ⟨0, rfl, rfl, by decide, fun i hi => absurd hi (Nat.not_lt_zero i)⟩, ⟨0, rfl, rfl, by decide, fun i hi => absurd hi (Nat.not_lt_zero i)⟩, ⟨rfl, rfl, by decide, rfl, Or.inl ⟨rfl, rfl⟩⟩⟩, ⟨rfl, by decide, by decide, fun c hc => (by cases hc), fun i c hc => ?_, fun k t hk => ?_⟩, Or.inl ⟨rfl, rfl⟩, ⟨0, by decide, rfl, rfl, fun i hi _ => absurd hi (Nat.not_lt_zero i)⟩, rfl, rfl⟩
  · rw [List.getElem?_nil] at hc
    cases hc
  · rw [show zflat [] = [] from rfl, List.getElem?_nil] at hk
    cases hk
set_option maxRecDepth 100000 in
theorem zVG_b : ∀ q ∈ zo, ∀ k, k < 22 → zVp (zG0 q.1 q.2 k) := by
  have h : ∀ q ∈ zo, ∀ k, k < 22 → (match zG0 q.1 q.2 k with | none => true | some r => zo.contains r) = true := by decide +kernel
  intro q hq k hk
  have := h q hq k hk
  unfold zVp
  split
  · trivial
  · rename_i r e
    rw [e] at this
    exact Or.inl (List.contains_iff_mem.mp this)
theorem zG0_big {c i k : Nat} (h8 : c ≠ 8) (h0 : c ≠ 0) (hk : 22 ≤ k) : zG0 c i k = none := by
  unfold zG0 zRR
  split <;> first | rfl | (exact absurd rfl h0) | (exact absurd rfl h8) | (split <;> first | rfl | omega)
theorem zVG_0 : zVG zG0 := by
  intro q hq k
  by_cases hk : k < 22
  · exact zVG_b q hq k hk
  · by_cases h8 : q.1 = 8
    · have e : zG0 q.1 q.2 k = zG0 q.1 q.2 0 := by rw [h8]; rfl
      rw [e]
      exact zVG_b q hq 0 (by decide)
    · by_cases h0 : q.1 = 0
      · have e : zG0 q.1 q.2 k = zG0 q.1 q.2 0 := by rw [h0]; rfl
        rw [e]
        exact zVG_b q hq 0 (by decide)
      · rw [zG0_big h8 h0 (by omega)]
        exact trivial
theorem n_of : ∀ j, j < 7 → Int32.ofInt (j : Nat) = nI j := by decide
/-- all that stands still while the law runs -/
def lw_H (l : Launch) (p : Program) (s : State) (m : MethodId) (meth : Method) (c : Code) (b L : Nat) (xs : Nat → Int32) (dC : Nat → ClassId) (dI : Nat → Nat → Nat) (cI cZ cS : ClassId) (ad : zAD) (adV : Nat → Nat) : Prop := lw_At p s m meth c b L xs ∧ L ≤ 3072 ∧ zAp ad (fun q : Nat => s.heap.size ≤ q) ∧ va_K (dC, dI) vwCl (ztys cI cZ cS) s ∧ zSt ad adV (fun q : Nat => s.heap.size ≤ q) s s.heap
section
variable {l : Launch} {p : Program} {e : Env} {s : State} {m : MethodId} {below : List Frame} {meth : Method} {c : Code} {b L : Nat} {xs : Nat → Int32} {dC : Nat → ClassId} {dI : Nat → Nat → Nat} {cI cZ cS : ClassId} {ad : zAD} {adV : Nat → Nat} {Q : State → Prop} {cells slots : Nat}
theorem law_arg (h : lw_H l p s m meth c b L xs dC dI cI cZ cS ad adV) {pc j i : Nat} (hj : j < 7) (hd : decode code pc = .ok (.aload_n 0, 1) ∧ decode code (pc + 1) = .ok (.iload_n 3, 1) ∧ decode code (pc + 2) = .ok (.iconst j, 1) ∧ decode code (pc + 3) = .ok (.iadd, 1) ∧ decode code (pc + 4) = .ok (.iaload, 1)) {x1 x2 : Nat} {H : Heap} {locs : List Loc} {ls : Array Slot} (hl : lv_has ls 4 [(0, .ref b), (1, .ref x1), (2, .ref x2), (3, .int (nI i))]) (hi : i + j < L) (hS : va_S (fun q : Nat => s.heap.size ≤ q) s.heap H locs) {rest : List Value}
    (kk : W p l e room_1 s m #[Value.ref b] below meth c H locs cells slots Q (F0 m (pc + 5) ls (.int (xs (i + j)) :: rest))) : W p l e room_1 s m #[Value.ref b] below meth c H locs cells slots Q (F0 m pc ls rest) := by
  obtain ⟨⟨hx, hb, hr, hml, hown, hts, hX, hbl, hlocks, hgv⟩, hL, -⟩ := h
  have hbA : ¬ (fun q : Nat => s.heap.size ≤ q) b := Nat.not_le.mpr hbl
  obtain ⟨d0, d1, d2, d3, d4⟩ := hd
  refine lv_aload_n hx hb d0 rfl (lv_at hl 0 rfl) ?_
  refine lv_iload_n hx hb d1 rfl (lv_at hl 3 rfl) ?_
  refine lv_iconst (v := nI j) hx hb d2 (n_of j hj) ?_
  refine lv_iadd hx hb d3 ?_
  rw [nI_add]
  refine va_sld hx hb hX hbl hbA hS (vp_in_nI hi (by omega)) d4 ?_
  rw [nI_clamp (by omega)]
  exact kk
theorem law_call (h : lw_H l p s m meth c b L xs dC dI cI cZ cS ad adV) {k c0 x pc nA : Nat} {a : List zAV} {I : zMI} {G : zMR} {Qz : zPQ} (hk : k < zmT.length) (hz : zWm 40 k (zr c0 0 :: a) I G Qz) (ha : zVs a) (hc0 : c0 = 9 ∨ c0 = 10) (hdg : decode code pc = .ok (.invokevirtual x, 3)) (hw : (k, c0, x) ∈ zLM) (hcl : (zmt k).1.cls = zcn c0 ∧ (zmt k).2.2.1 ≤ 40 ∧ ((zmt k).1.cls ≠ "java/lang/invoke/MethodHandle" ∧ (zmt k).1.cls ≠ "java/lang/invoke/VarHandle") ∧ (parseMethodDescriptor (zmt k).1.desc).map (fun d => d.parameters.length) = some nA) (hn : a.length = nA) {rest : List Value} (hsh : (rest.map fun v => v.category).sum ≤ 8) {H : Heap} {locs : List Loc} {ls : Array Slot} (hP : va_P (dC, dI) vwCl (zws cI cZ cS ad I G) H) (hS : va_S (fun q : Nat => s.heap.size ≤ q) s.heap H locs) (hl : ls.size = 4) (hG : zVG G) (hf : cells ≤ room_1.cells ∧ slots ≤ room_1.slots)
    (kk : ∀ v I1 G1 H1 locs1, Qz v I1 G1 → va_P (dC, dI) vwCl (zws cI cZ cS ad I1 G1) H1 → zVG G1 → va_S (fun q : Nat => s.heap.size ≤ q) s.heap H1 locs1 → W p l e room_1 s m #[Value.ref b] below meth c H1 locs1 cells slots Q (F0 m (pc + 3) ls ((v.map (zcv ad)).toList ++ rest))) : W p l e room_1 s m #[Value.ref b] below meth c H locs cells slots Q (F0 m pc ls ((a.map (zcv ad)).reverse ++ .ref (ad c0 0) :: rest)) := by
  obtain ⟨⟨hx, hb, hr, hml, hown, hts, hX, hbl, hlocks, hgv⟩, hL, hAp, hK, hSt⟩ := h
  have hzo : (c0, 0) ∈ zo := by
    rcases hc0 with rfl | rfl <;> decide +kernel
  have hc10 : c0 ≤ 10 := by omega
  obtain ⟨r, hQ, hM⟩ := zmet (l := l) (zTx_ok l) hAp hk (a := zr c0 0 :: a) ⟨Or.inl hzo, ha⟩ hz
  obtain ⟨q0, hq, he⟩ := zws_at (cI := cI) (cZ := cZ) (cS := cS) (ad := ad) (I := I) (G := G) hzo
  rw [zce_obj hc10] at he
  obtain ⟨c1, c2, c3, c4⟩ := hcl
  have hww := zlm_in hw
  exact zjV (y := (zmt k).1) (bytes := (zmt k).2.1) (mL := (zmt k).2.2.1) (rt := (zmt k).2.2.2) (C := zcn c0) (r := r) (As := a.map (zcv ad)) hx hb hml hown (lw_zgw hts) hK hSt hM (zjgV hww (zmk_in (zmt_in k hk))) ⟨rfl, rfl, by show 40 + 8 + 1 ≤ 2048; omega, by show 8 + (_ + 11) + (64 * 40 + 512) ≤ 84000; omega⟩ ⟨c1, c3.1, c3.2, by rw [List.length_map, hn]; exact c4⟩ hsh hP hS hl hG (va_recv hK hP (zvw c0 hc10) he) hdg hf (fun H1 locs1 hP1 hG1 _ hS1 => kk r.1 r.2.1 r.2.2 H1 locs1 hQ hP1 hG1 hS1)
/-- behind a call's comparison -/
def lw_B (l : Launch) (p : Program) (e : Env) (s : State) (m : MethodId) (below : List Frame) (meth : Method) (c : Code) (b : Nat) (dC : Nat → ClassId) (dI : Nat → Nat → Nat) (cI cZ cS : ClassId) (ad : zAD) (Q : State → Prop) (cells slots : Nat) (ls : Array Slot) : Prop := ∀ I rl rs H locs, zRel I → va_P (dC, dI) vwCl (zws cI cZ cS ad I (zRR rl rs)) H → zVG (zRR rl rs) → va_S (fun q : Nat => s.heap.size ≤ q) s.heap H locs → W p l e room_1 s m #[Value.ref b] below meth c H locs cells slots Q (F0 m 1085 ls [])
end
