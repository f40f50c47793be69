/-! THE LAW: its loop (by gen10.py) -/
section
variable {l : Launch} {p : Program} {e : Env} {s : State} {m : MethodId} {below : List Frame} {meth : Method} {c : Code} {b L : Nat} {xs : Nat → Int32} {dC : Nat → ClassId} {dI : Nat → Nat → Nat} {cI cZ cS : ClassId} {ad : zAD} {adV : Nat → Nat}
theorem law_six {L i : Nat} (hL : L ≤ 3072) (hi : i ≤ L) (h : ¬ nI L - 6 < nI i) : i + 6 ≤ L := by
  apply Classical.byContradiction
  intro q
  refine h ?_
  rw [Int32.lt_iff_toInt_lt, Int32.toInt_sub, nI_int (by omega), nI_int (by omega), show (6 : Int32).toInt = 6 from rfl, Int.bmod_def]
  split <;> omega
set_option maxHeartbeats 4000000 in
set_option maxRecDepth 100000 in
theorem law_go {Q : State → Prop} {cells slots : Nat} (h : lw_H l p s m meth c b L xs dC dI cI cZ cS ad adV) {k i : Nat} (hk : k < 32) (hi : i + 6 ≤ L) {I : zMI} {rl rs : Option (Nat × Nat)} {H : Heap} {locs : List Loc} {ls : Array Slot} (hl : lv_has ls 4 [(0, .ref b), (1, .ref (ad 9 0)), (2, .ref (ad 10 0)), (3, .int (nI i))]) (hR : zRel I) (hP : va_P (dC, dI) vwCl (zws cI cZ cS ad I (zRR rl rs)) H) (hG : zVG (zRR rl rs)) (hS : va_S (fun q : Nat => s.heap.size ≤ q) s.heap H locs) (hf : cells ≤ room_1.cells ∧ slots ≤ room_1.slots) (back : lw_B l p e s m below meth c b dC dI cI cZ cS ad Q cells slots ls) : W p l e room_1 s m #[Value.ref b] below meth c H locs cells slots Q (F0 m 33 ls [.int (nI k)]) := by
  obtain ⟨⟨hx, hb, hr, hml, hown, hts, hX, hbl, hlocks, hgv⟩, hL, -⟩ := id h
  have hsw : decode code 33 = .ok (.tableswitch 1052 0 28 #[131, 154, 167, 230, 263, 296, 345, 388, 401, 424, 457, 500, 523, 556, 599, 632, 665, 698, 757, 780, 814, 848, 891, 904, 947, 970, 1003, 1016, 1029], 131) := by decide +kernel
  match k, hk with
  | 0, _ => exact lv_tableIn (off := 131) (tgt := 164) hx hb hsw (by decide) (by decide) rfl (by decide) (law_c0 h hi hl hR hP hG hS hf back)
  | 1, _ => exact lv_tableIn (off := 154) (tgt := 187) hx hb hsw (by decide) (by decide) rfl (by decide) (law_c1 h hi hl hR hP hG hS hf back)
  | 2, _ => exact lv_tableIn (off := 167) (tgt := 200) hx hb hsw (by decide) (by decide) rfl (by decide) (law_c2 h hi hl hR hP hG hS hf back)
  | 3, _ => exact lv_tableIn (off := 230) (tgt := 263) hx hb hsw (by decide) (by decide) rfl (by decide) (law_c3 h hi hl hR hP hG hS hf back)
  | 4, _ => exact lv_tableIn (off := 263) (tgt := 296) hx hb hsw (by decide) (by decide) rfl (by decide) (law_c4 h hi hl hR hP hG hS hf back)
  | 5, _ => exact lv_tableIn (off := 296) (tgt := 329) hx hb hsw (by decide) (by decide) rfl (by decide) (law_c5 h hi hl hR hP hG hS hf back)
  | 6, _ => exact lv_tableIn (off := 345) (tgt := 378) hx hb hsw (by decide) (by decide) rfl (by decide) (law_c6 h hi hl hR hP hG hS hf back)
  | 7, _ => exact lv_tableIn (off := 388) (tgt := 421) hx hb hsw (by decide) (by decide) rfl (by decide) (law_c7 h hi hl hR hP hG hS hf back)
  | 8, _ => exact lv_tableIn (off := 401) (tgt := 434) hx hb hsw (by decide) (by decide) rfl (by decide) (law_c8 h hi hl hR hP hG hS hf back)
  | 9, _ => exact lv_tableIn (off := 424) (tgt := 457) hx hb hsw (by decide) (by decide) rfl (by decide) (law_c9 h hi hl hR hP hG hS hf back)
  | 10, _ => exact lv_tableIn (off := 457) (tgt := 490) hx hb hsw (by decide) (by decide) rfl (by decide) (law_c10 h hi hl hR hP hG hS hf back)
  | 11, _ => exact lv_tableIn (off := 500) (tgt := 533) hx hb hsw (by decide) (by decide) rfl (by decide) (law_c11 h hi hl hR hP hG hS hf back)
  | 12, _ => exact lv_tableIn (off := 523) (tgt := 556) hx hb hsw (by decide) (by decide) rfl (by decide) (law_c12 h hi hl hR hP hG hS hf back)
  | 13, _ => exact lv_tableIn (off := 556) (tgt := 589) hx hb hsw (by decide) (by decide) rfl (by decide) (law_c13 h hi hl hR hP hG hS hf back)
  | 14, _ => exact lv_tableIn (off := 599) (tgt := 632) hx hb hsw (by decide) (by decide) rfl (by decide) (law_c14 h hi hl hR hP hG hS hf back)
  | 15, _ => exact lv_tableIn (off := 632) (tgt := 665) hx hb hsw (by decide) (by decide) rfl (by decide) (law_c15 h hi hl hR hP hG hS hf back)
  | 16, _ => exact lv_tableIn (off := 665) (tgt := 698) hx hb hsw (by decide) (by decide) rfl (by decide) (law_c16 h hi hl hR hP hG hS hf back)
  | 17, _ => exact lv_tableIn (off := 698) (tgt := 731) hx hb hsw (by decide) (by decide) rfl (by decide) (law_c17 h hi hl hR hP hG hS hf back)
  | 18, _ => exact lv_tableIn (off := 757) (tgt := 790) hx hb hsw (by decide) (by decide) rfl (by decide) (law_c18 h hi hl hR hP hG hS hf back)
  | 19, _ => exact lv_tableIn (off := 780) (tgt := 813) hx hb hsw (by decide) (by decide) rfl (by decide) (law_c19 h hi hl hR hP hG hS hf back)
  | 20, _ => exact lv_tableIn (off := 814) (tgt := 847) hx hb hsw (by decide) (by decide) rfl (by decide) (law_c20 h hi hl hR hP hG hS hf back)
  | 21, _ => exact lv_tableIn (off := 848) (tgt := 881) hx hb hsw (by decide) (by decide) rfl (by decide) (law_c21 h hi hl hR hP hG hS hf back)
  | 22, _ => exact lv_tableIn (off := 891) (tgt := 924) hx hb hsw (by decide) (by decide) rfl (by decide) (law_c22 h hi hl hR hP hG hS hf back)
  | 23, _ => exact lv_tableIn (off := 904) (tgt := 937) hx hb hsw (by decide) (by decide) rfl (by decide) (law_c23 h hi hl hR hP hG hS hf back)
  | 24, _ => exact lv_tableIn (off := 947) (tgt := 980) hx hb hsw (by decide) (by decide) rfl (by decide) (law_c24 h hi hl hR hP hG hS hf back)
  | 25, _ => exact lv_tableIn (off := 970) (tgt := 1003) hx hb hsw (by decide) (by decide) rfl (by decide) (law_c25 h hi hl hR hP hG hS hf back)
  | 26, _ => exact lv_tableIn (off := 1003) (tgt := 1036) hx hb hsw (by decide) (by decide) rfl (by decide) (law_c26 h hi hl hR hP hG hS hf back)
  | 27, _ => exact lv_tableIn (off := 1016) (tgt := 1049) hx hb hsw (by decide) (by decide) rfl (by decide) (law_c27 h hi hl hR hP hG hS hf back)
  | 28, _ => exact lv_tableIn (off := 1029) (tgt := 1062) hx hb hsw (by decide) (by decide) rfl (by decide) (law_c28 h hi hl hR hP hG hS hf back)
  | 29, _ => exact lv_tableOut (tgt := 1085) hx hb hsw (by decide) (by decide) (back I rl rs H locs hR hP hG hS)
  | 30, _ => exact lv_tableOut (tgt := 1085) hx hb hsw (by decide) (by decide) (back I rl rs H locs hR hP hG hS)
  | 31, _ => exact lv_tableOut (tgt := 1085) hx hb hsw (by decide) (by decide) (back I rl rs H locs hR hP hG hS)
  | k + 32, hk => exact absurd hk (by omega)
set_option maxHeartbeats 4000000 in
set_option maxRecDepth 100000 in
theorem law_loop (h : lw_H l p s m meth c b L xs dC dI cI cZ cS ad adV) : ∀ (n i : Nat), i ≤ L → L + 1 ≤ i + n → ∀ (I : zMI) (rl rs : Option (Nat × Nat)) (H : Heap) (locs : List Loc), zRel I → va_P (dC, dI) vwCl (zws cI cZ cS ad I (zRR rl rs)) H → zVG (zRR rl rs) → va_S (fun q : Nat => s.heap.size ≤ q) s.heap H locs → ∀ ls : Array Slot, lv_has ls 4 [(0, .ref b), (1, .ref (ad 9 0)), (2, .ref (ad 10 0)), (3, .int (nI i))] → W p l e room_1 s m #[Value.ref b] below meth c H locs 103 3693 (lw_Z below #[Value.ref b] s) (F0 m 18 ls []) := by
  obtain ⟨⟨hx, hb, hr, hml, hown, hts, hX, hbl, hlocks, hgv⟩, hL, -⟩ := id h
  have hbA : ¬ (fun q : Nat => s.heap.size ≤ q) b := Nat.not_le.mpr hbl
  intro n
  induction n with
  | zero =>
    intro i h1 h2
    exact absurd h2 (by omega)
  | succ n ih =>
    intro i hiL hin I rl rs H locs hR hP hG hS ls hl
    refine lv_iload_n hx hb (show decode code 18 = .ok (.iload_n 3, 1) by decide +kernel) rfl (lv_at hl 3 rfl) ?_
    refine lv_aload_n hx hb (show decode code 19 = .ok (.aload_n 0, 1) by decide +kernel) rfl (lv_at hl 0 rfl) ?_
    refine va_slen hx hb hX hbl hbA hS (show decode code 20 = .ok (.arraylength, 1) by decide +kernel) ?_
    refine lv_bipush (v := 6) hx hb (show decode code 21 = .ok (.bipush 6, 2) by decide +kernel) (by decide) ?_
    refine lv_isub hx hb (show decode code 23 = .ok (.isub, 1) by decide +kernel) ?_
    refine lv_icmp_gt (tgt := 1091) hx hb (show decode code 24 = .ok (.if_icmp .gt 1067, 3) by decide +kernel) (by decide) (fun _ => ?_) (fun c1 => ?_)
    · refine lv_iconst (v := 1) hx hb (show decode code 1091 = .ok (.iconst 1, 1) by decide +kernel) (by decide) ?_
      refine va_forget (fun q hq => hS.2.2 q hq) ?_
      refine W.widen (k := 600000) (n := 7302250) (Nat.le_of_ble_eq_true rfl) (Nat.le_of_ble_eq_true rfl) ?_
      exact lw_ret hx hb hr hlocks (show decode code 1092 = .ok (.ireturn, 1) by decide +kernel)
    · have hlt : i + 6 ≤ L := law_six hL hiL c1
      refine lv_aload_n hx hb (show decode code 27 = .ok (.aload_n 0, 1) by decide +kernel) rfl (lv_at hl 0 rfl) ?_
      refine lv_iload_n hx hb (show decode code 28 = .ok (.iload_n 3, 1) by decide +kernel) rfl (lv_at hl 3 rfl) ?_
      refine va_sld hx hb hX hbl hbA hS (vp_in_nI (by omega) (by omega)) (show decode code 29 = .ok (.iaload, 1) by decide +kernel) ?_
      refine lv_bipush (v := 31) hx hb (show decode code 30 = .ok (.bipush 31, 2) by decide +kernel) (by decide) ?_
      refine lv_iand hx hb (show decode code 32 = .ok (.iand, 1) by decide +kernel) ?_
      obtain ⟨k, hk, ek⟩ := pk_andE (xs (nI i).toNatClampNeg) (m := 31) 5 (by decide)
      rw [ek]
      refine law_go h hk hlt hl hR hP hG hS ⟨(Nat.le_of_ble_eq_true rfl), (Nat.le_of_ble_eq_true rfl)⟩ (fun I rl rs H locs hR hP hG hS => ?_)
      refine lv_iinc (v := nI (i + 6)) (lv' := [(3, .int (nI (i + 6))), (0, .ref b), (1, .ref (ad 9 0)), (2, .ref (ad 10 0))]) hx hb (show decode code 1085 = .ok (.iinc 3 6, 3) by decide +kernel) hl (k := 3) rfl (nI_add i 6) (by decide) rfl (fun ls hl => ?_)
      refine lv_goto (tgt := 18) hx hb (show decode code 1088 = .ok (.goto (-1070), 3) by decide +kernel) (by decide) ?_
      exact ih (i + 6) hlt (by omega) I rl rs H locs hR hP hG hS ls (lv_sub hl [1, 2, 3, 0] rfl)
end
