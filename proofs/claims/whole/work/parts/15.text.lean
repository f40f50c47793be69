def zjtP : List Nat := [1189, 419, 1190, 435, 415, 416, 417, 425, 426, 427, 429, 430, 432, 433, 437, 438, 73, 74, 75]
def zjtW : List Cond := [.fieldLink RJ0 9 "java/lang/String" "value" "[B", .fieldLink RJ0 38 "java/lang/String" "COMPACT_STRINGS" "Z", .fieldLink RJ0 15 "java/lang/String" "coder" "B", .fieldLink RJ0 1053 "jdk/internal/util/Preconditions" "SIOOBE_FORMATTER" "Ljava/util/function/BiFunction;", .methodLink RJ0 335 yJ0_coder_7d493, .instanceMethod yJ0_coder_7d493, .selects RJ0 yJ0_coder_7d493 yJ0_coder_7d493, .methodLink RJ0 492 yJ0_isLatin1_aae02, .instanceMethod yJ0_isLatin1_aae02, .selects RJ0 yJ0_isLatin1_aae02 yJ0_isLatin1_aae02, .methodLink RJ0 495 yJ1_charAt_3b067, .static yJ1_charAt_3b067, .methodLink RJ1 9 yJ0_checkIndex_df160, .static yJ0_checkIndex_df160, .methodLink RJ0 1059 yJ3_checkIndex_8e157, .static yJ3_checkIndex_8e157, .initialized RJ0, .initialized RJ1, .initialized RJ3]
set_option maxRecDepth 100000 in
theorem zjt_ok : zpk zjtP zjtW = true := by decide +kernel
theorem zjt_in : ∀ w ∈ zjtW, w ∈ zgw := fun w hw => zgw_of (zpk_in zjt_ok w hw)

/-! THE JDK's TEXTS -/
def zrJ (n : Nat) : Room := { frames := n, cells := 0, slots := 0, locals := 50 * n }
section
variable {dC : Nat → ClassId} {dI : Nat → Nat → Nat} {cI cZ cS : ClassId} {ad : zAD} {adV : Nat → Nat} {A : Nat → Prop}
/-- behind a call -/
theorem zj_after {p : Program} {l : Launch} {e : Env} {R : Room} {s : State} {m : MethodId} {args : Array Value} {below : List Frame} {meth : Method} {c : Code} {H : Heap} {locs : List Loc} {cells slots : Nat} {Q : State → Prop} {pc : Nat} {ls : Array Slot} {st0 rest : List Value} {r : zRS} {a : Array Value}
    (hr : va_Run p l e R s m args below meth c H locs cells slots 0 0 (F0 m pc ls st0) rest (zQ dC dI cI cZ cS ad adV A r a) A) (hS : va_S A s.heap H locs)
    (kk : ∀ (H1 : Heap) (locs1 : List Loc), va_P (dC, dI) vwCl (zws cI cZ cS ad r.2.1 r.2.2) H1 → zVG r.2.2 → zVo r.1 → va_S A s.heap H1 locs1 → W p l e R s m args below meth c H1 locs1 cells slots Q (F0 m (pc + 3) ls ((r.1.map (zcv ad)).toList ++ rest))) :
    W p l e R s m args below meth c H locs cells slots Q (F0 m pc ls st0) := by
  intro T hT X
  obtain ⟨v, st₀, t, T', L, h0, X', hL, e1, e2, ⟨⟨hv, hvo, hwd⟩, hz, hk⟩, st⟩ := hr T hT X
  have hv' : v = r.1.map (zcv ad) := by cases hv; rfl
  subst hv'
  rw [h0] at hz hk
  obtain ⟨t2, a1, b1⟩ := kk T'.heap (locs ++ L) (by rw [e1]; exact hwd.1) hwd.2.2.2 hvo
    ⟨Nat.le_trans hS.1 (by rw [e1]; exact hz), fun q h1 h2 => by rw [e1, hk q (Nat.lt_of_lt_of_le h1 hS.1) h2]; exact hS.2.1 q h1 h2, fun q hq => by
      rcases List.mem_append.mp hq with h | h
      · exact hS.2.2 q h
      · exact hL q h⟩ T' rfl X'
  exact ⟨t2, st t2 a1, b1⟩
section
variable {p : Program} {l : Launch} {e : Env} {R : Room} {s : State} {m : MethodId} {args : Array Value} {below : List Frame} {meth : Method} {c : Code} {cells slots : Nat} {Q : State → Prop} {cc : ByteArray} {ow : String} {nL : Nat} {pc : Nat}
theorem zjV (hx : p.tables.exec = Jvm.exec) (hb : c.code = cc) (hml : c.maxLocals = nL) (hown : s.vm.findClass ow = some m.cls) {Ts : List Cond} (hts : ∀ w ∈ Ts, w.before args s = true) (hK : va_K (dC, dI) vwCl (ztys cI cZ cS) s) (hSt : zSt ad adV A s s.heap) {y : MethodName} {bytes : ByteArray} {mL : Nat} {rt : Option FieldType} {rm : Room} {r : zRS} {As : List Value} {b : Nat} {C : String} {x : Nat} {I : zMI} {G : zMR}
    (hM : Met l y (.code y bytes mL rt :: zgw) rm (va_Pc (.ref b :: As) (zwd dC dI cI cZ cS ad adV A I G)) (zQ dC dI cI cZ cS ad adV A r) 0 0 A)
    (hg : GoodIn Ts (wsV ow x C y (.code y bytes mL rt :: zgw)))
    (hrm : rm.cells = 0 ∧ rm.slots = 0 ∧ rm.frames + 1 ≤ R.frames ∧ 8 + (mL + 11) + rm.locals ≤ R.locals)
    (hy : y.cls = C ∧ y.cls ≠ "java/lang/invoke/MethodHandle" ∧ y.cls ≠ "java/lang/invoke/VarHandle" ∧ (parseMethodDescriptor y.desc).map (fun d => d.parameters.length) = some As.length) {rest : List Value} (hsh : (rest.map fun v => v.category).sum ≤ 8) {H : Heap} {locs : List Loc} {ls : Array Slot}
    (hP : va_P (dC, dI) vwCl (zws cI cZ cS ad I G) H) (hS : va_S A s.heap H locs) (hl : ls.size = nL) (hG : zVG G) (hrecv : ∃ cellB : Cell, H[b]? = some cellB ∧ cellB.vm.isStatics = false ∧ s.vm.findClass C = some cellB.cls) (hdg : decode cc pc = .ok (.invokevirtual x, 3)) (hf : cells ≤ R.cells ∧ slots ≤ R.slots)
    (kk : ∀ (H1 : Heap) (locs1 : List Loc), va_P (dC, dI) vwCl (zws cI cZ cS ad r.2.1 r.2.2) H1 → zVG r.2.2 → zVo r.1 → va_S A s.heap H1 locs1 → W p l e R s m args below meth c H1 locs1 cells slots Q (F0 m (pc + 3) ls ((r.1.map (zcv ad)).toList ++ rest))) :
    W p l e R s m args below meth c H locs cells slots Q (F0 m pc ls (As.reverse ++ .ref b :: rest)) :=
  zj_after (va_runV (rest := rest) (As := As) ⟨hx, hb, hml, hown, hts⟩ hM (cwV As.length hts hg rfl hrm.1 hrm.2.1 hy hrm.2.2) ⟨zblind, hrecv, zpre hP hK hSt hS hG _⟩ rfl rfl hl rfl (lv_room hsh) hdg hf) hS kk
theorem zjS (hx : p.tables.exec = Jvm.exec) (hb : c.code = cc) (hml : c.maxLocals = nL) (hown : s.vm.findClass ow = some m.cls) {Ts : List Cond} (hts : ∀ w ∈ Ts, w.before args s = true) (hK : va_K (dC, dI) vwCl (ztys cI cZ cS) s) (hSt : zSt ad adV A s s.heap) {y : MethodName} {bytes : ByteArray} {mL : Nat} {rt : Option FieldType} {rm : Room} {r : zRS} {As : List Value} {x : Nat} {I : zMI} {G : zMR}
    (hM : Met l y (.code y bytes mL rt :: zgw) rm (va_Pc As (zwd dC dI cI cZ cS ad adV A I G)) (zQ dC dI cI cZ cS ad adV A r) 0 0 A)
    (hg : GoodIn Ts (va_wsS ow x y (.code y bytes mL rt :: zgw)))
    (hrm : rm.cells = 0 ∧ rm.slots = 0 ∧ rm.frames + 1 ≤ R.frames ∧ 8 + (mL + 11) + rm.locals ≤ R.locals)
    (hy : y.cls ≠ "java/lang/invoke/MethodHandle" ∧ y.cls ≠ "java/lang/invoke/VarHandle" ∧ (parseMethodDescriptor y.desc).map (fun d => d.parameters.length) = some As.length) {rest : List Value} (hsh : (rest.map fun v => v.category).sum ≤ 8) {H : Heap} {locs : List Loc} {ls : Array Slot}
    (hP : va_P (dC, dI) vwCl (zws cI cZ cS ad I G) H) (hS : va_S A s.heap H locs) (hl : ls.size = nL) (hG : zVG G) (hdg : decode cc pc = .ok (.invokestatic x, 3)) (hf : cells ≤ R.cells ∧ slots ≤ R.slots)
    (kk : ∀ (H1 : Heap) (locs1 : List Loc), va_P (dC, dI) vwCl (zws cI cZ cS ad r.2.1 r.2.2) H1 → zVG r.2.2 → zVo r.1 → va_S A s.heap H1 locs1 → W p l e R s m args below meth c H1 locs1 cells slots Q (F0 m (pc + 3) ls ((r.1.map (zcv ad)).toList ++ rest))) :
    W p l e R s m args below meth c H locs cells slots Q (F0 m pc ls (As.reverse ++ rest)) :=
  zj_after (va_runS (rest := rest) (As := As) ⟨hx, hb, hml, hown, hts⟩ hM (va_cwS As.length hts hg rfl hrm.1 hrm.2.1 hy hrm.2.2) ⟨zblind, zpre hP hK hSt hS hG _⟩ rfl rfl hl rfl (lv_room hsh) hdg hf) hS kk
end
theorem zjgV {ow : String} {x : Nat} {C : String} {y : MethodName} {bytes : ByteArray} {mL : Nat} {rt : Option FieldType} (h : ∀ w ∈ [Cond.methodLink ow x y, Cond.instanceMethod y, Cond.selects C y y, Cond.initialized C], w ∈ zgw) (hc : (.code y bytes mL rt : Cond) ∈ zgw) : GoodIn zgw (wsV ow x C y (.code y bytes mL rt :: zgw)) :=
  zgood (fun w hw => (List.mem_append.mp hw).elim (h w) (fun h2 => (List.mem_cons.mp h2).elim (fun e => e ▸ hc) id))
theorem zjgS {ow : String} {x : Nat} {y : MethodName} {bytes : ByteArray} {mL : Nat} {rt : Option FieldType} (h : ∀ w ∈ [Cond.methodLink ow x y, Cond.static y, Cond.initialized y.cls], w ∈ zgw) (hc : (.code y bytes mL rt : Cond) ∈ zgw) : GoodIn zgw (va_wsS ow x y (.code y bytes mL rt :: zgw)) :=
  zgood (fun w hw => (List.mem_append.mp hw).elim (h w) (fun h2 => (List.mem_cons.mp h2).elim (fun e => e ▸ hc) id))

set_option maxHeartbeats 4000000 in
set_option maxRecDepth 100000 in
theorem zj_coder (l : Launch) {j : Nat} (hj : j < 6) (I : zMI) (G : zMR) : Met l yJ0_coder_7d493 (.code yJ0_coder_7d493 cJ0_coder_7d493 1 (some .byte) :: zgw) (zrJ 0) (va_Pc ([.ref (ad 60 j)]) (zwd dC dI cI cZ cS ad adV A I G)) (zQ dC dI cI cZ cS ad adV A (some (zi 0), I, G)) 0 0 A := by
  refine Met.ofW (cc := cJ0_coder_7d493) (maxL := 1) (ret := (some .byte)) (by decide) rfl ?_
  intro p e s m args below meth c s₁ B hml hv
  obtain ⟨rfl, hP, hK, hSt, hG⟩ := hv
  have hx := B.exec
  have hb := B.bytes
  have hr := B.returns
  have hts0 := atoms_spec (ws := .code yJ0_coder_7d493 cJ0_coder_7d493 1 (some .byte) :: zgw) B.pre
  have hts : ∀ w ∈ zgw, w.before _ s = true := fun w hw => hts0 w (List.mem_cons_of_mem _ hw)
  have hown : s.vm.findClass RJ0 = some m.cls := findClass_of_methodNamed B.named
  have hlocks := B.notSynchronized
  have hl := lv_entry ([.ref (ad 60 j)]) (n := 1) (Nat.le_of_ble_eq_true rfl)
  rw [lg_entry_eq]
  generalize (lg_sl ([.ref (ad 60 j)]) ++ List.replicate (1 - (lg_sl ([.ref (ad 60 j)])).length) Slot.unset).toArray = ls at hl ⊢
  have hl : lv_has ls 1 [(0, .ref (ad 60 j))] := hl
  have hS : va_S A s.heap s.heap [] := va_S.rf
  refine va_gets hx hb hSt.2.2.2.1 hS hown (hts _ (zjt_in (.fieldLink RJ0 38 "java/lang/String" "COMPACT_STRINGS" "Z") (by simp [zjtW]))) (fun _ h => h) (show decode cJ0_coder_7d493 0 = .ok (.getstatic 38, 3) by decide +kernel) ?_
  refine lv_if_eq (tgt := 13) hx hb (show decode cJ0_coder_7d493 3 = .ok (.ifCond .eq 10, 3) by decide +kernel) (by decide) (fun c1 => absurd c1 (by decide)) (fun _ => ?_)
  refine lv_aload_n hx hb (show decode cJ0_coder_7d493 6 = .ok (.aload_n 0, 1) by decide +kernel) rfl (lv_at hl 0 rfl) ?_
  refine vk_getf hx hb (hSt.1.1 j hj).2.1 hS hown (hts _ (zjt_in (.fieldLink RJ0 15 "java/lang/String" "coder" "B") (by simp [zjtW]))) (fun _ h => h) (show decode cJ0_coder_7d493 7 = .ok (.getfield 15, 3) by decide +kernel) ?_
  refine lv_goto (tgt := 14) hx hb (show decode cJ0_coder_7d493 10 = .ok (.goto 4, 3) by decide +kernel) (by decide) ?_
  exact W.zret (v := 0) hx hb hr (by decide) (fun t ht hW => ⟨⟨rfl, trivial, by rw [ht]; exact hP, va_K.moved hW.alike hK, hSt.at hS ht hW, hG⟩, hS.F ht⟩) hS.2.2 (show decode cJ0_coder_7d493 14 = .ok (.ireturn, 1) by decide +kernel) hlocks

set_option maxHeartbeats 4000000 in
set_option maxRecDepth 100000 in
theorem zj_latin (l : Launch) {j : Nat} (hj : j < 6) (I : zMI) (G : zMR) : Met l yJ0_isLatin1_aae02 (.code yJ0_isLatin1_aae02 cJ0_isLatin1_aae02 1 (some .boolean) :: zgw) (zrJ 0) (va_Pc ([.ref (ad 60 j)]) (zwd dC dI cI cZ cS ad adV A I G)) (zQ dC dI cI cZ cS ad adV A (some (zi 1), I, G)) 0 0 A := by
  refine Met.ofW (cc := cJ0_isLatin1_aae02) (maxL := 1) (ret := (some .boolean)) (by decide) rfl ?_
  intro p e s m args below meth c s₁ B hml hv
  obtain ⟨rfl, hP, hK, hSt, hG⟩ := hv
  have hx := B.exec
  have hb := B.bytes
  have hr := B.returns
  have hts0 := atoms_spec (ws := .code yJ0_isLatin1_aae02 cJ0_isLatin1_aae02 1 (some .boolean) :: zgw) B.pre
  have hts : ∀ w ∈ zgw, w.before _ s = true := fun w hw => hts0 w (List.mem_cons_of_mem _ hw)
  have hown : s.vm.findClass RJ0 = some m.cls := findClass_of_methodNamed B.named
  have hlocks := B.notSynchronized
  have hl := lv_entry ([.ref (ad 60 j)]) (n := 1) (Nat.le_of_ble_eq_true rfl)
  rw [lg_entry_eq]
  generalize (lg_sl ([.ref (ad 60 j)]) ++ List.replicate (1 - (lg_sl ([.ref (ad 60 j)])).length) Slot.unset).toArray = ls at hl ⊢
  have hl : lv_has ls 1 [(0, .ref (ad 60 j))] := hl
  have hS : va_S A s.heap s.heap [] := va_S.rf
  refine va_gets hx hb hSt.2.2.2.1 hS hown (hts _ (zjt_in (.fieldLink RJ0 38 "java/lang/String" "COMPACT_STRINGS" "Z") (by simp [zjtW]))) (fun _ h => h) (show decode cJ0_isLatin1_aae02 0 = .ok (.getstatic 38, 3) by decide +kernel) ?_
  refine lv_if_eq (tgt := 17) hx hb (show decode cJ0_isLatin1_aae02 3 = .ok (.ifCond .eq 14, 3) by decide +kernel) (by decide) (fun c1 => absurd c1 (by decide)) (fun _ => ?_)
  refine lv_aload_n hx hb (show decode cJ0_isLatin1_aae02 6 = .ok (.aload_n 0, 1) by decide +kernel) rfl (lv_at hl 0 rfl) ?_
  refine vk_getf hx hb (hSt.1.1 j hj).2.1 hS hown (hts _ (zjt_in (.fieldLink RJ0 15 "java/lang/String" "coder" "B") (by simp [zjtW]))) (fun _ h => h) (show decode cJ0_isLatin1_aae02 7 = .ok (.getfield 15, 3) by decide +kernel) ?_
  refine lv_if_ne (tgt := 17) hx hb (show decode cJ0_isLatin1_aae02 10 = .ok (.ifCond .ne 7, 3) by decide +kernel) (by decide) (fun c1 => absurd rfl c1) (fun _ => ?_)
  refine lv_iconst (v := 1) hx hb (show decode cJ0_isLatin1_aae02 13 = .ok (.iconst 1, 1) by decide +kernel) (by decide) ?_
  refine lv_goto (tgt := 18) hx hb (show decode cJ0_isLatin1_aae02 14 = .ok (.goto 4, 3) by decide +kernel) (by decide) ?_
  exact W.zret (v := 1) hx hb hr (by decide) (fun t ht hW => ⟨⟨rfl, trivial, by rw [ht]; exact hP, va_K.moved hW.alike hK, hSt.at hS ht hW, hG⟩, hS.F ht⟩) hS.2.2 (show decode cJ0_isLatin1_aae02 18 = .ok (.ireturn, 1) by decide +kernel) hlocks

theorem zst_len : ∀ j, j < 6 → (zstL.map List.length).getD j 0 = (zst j).length ∧ (zst j).length < 10 := by decide +kernel

set_option maxHeartbeats 4000000 in
set_option maxRecDepth 100000 in
theorem zj_length (l : Launch) {j : Nat} (hj : j < 6) (I : zMI) (G : zMR) : Met l yJ0_length_8abf5 (.code yJ0_length_8abf5 cJ0_length_8abf5 1 (some .int) :: zgw) zrm0 (va_Pc ([.ref (ad 60 j)]) (zwd dC dI cI cZ cS ad adV A I G)) (zQ dC dI cI cZ cS ad adV A (some (zi (nI (zst j).length)), I, G)) 0 0 A := by
  refine Met.ofW (cc := cJ0_length_8abf5) (maxL := 1) (ret := (some .int)) (by decide) rfl ?_
  intro p e s m args below meth c s₁ B hml hv
  obtain ⟨rfl, hP, hK, hSt, hG⟩ := hv
  have hx := B.exec
  have hb := B.bytes
  have hr := B.returns
  have hts0 := atoms_spec (ws := .code yJ0_length_8abf5 cJ0_length_8abf5 1 (some .int) :: zgw) B.pre
  have hts : ∀ w ∈ zgw, w.before _ s = true := fun w hw => hts0 w (List.mem_cons_of_mem _ hw)
  have hown : s.vm.findClass RJ0 = some m.cls := findClass_of_methodNamed B.named
  have hlocks := B.notSynchronized
  have hl := lv_entry ([.ref (ad 60 j)]) (n := 1) (Nat.le_of_ble_eq_true rfl)
  rw [lg_entry_eq]
  generalize (lg_sl ([.ref (ad 60 j)]) ++ List.replicate (1 - (lg_sl ([.ref (ad 60 j)])).length) Slot.unset).toArray = ls at hl ⊢
  have hl : lv_has ls 1 [(0, .ref (ad 60 j))] := hl
  have hS : va_S A s.heap s.heap [] := va_S.rf
  obtain ⟨hn1, hn2⟩ := zst_len j hj
  refine lv_aload_n hx hb (show decode cJ0_length_8abf5 0 = .ok (.aload_n 0, 1) by decide +kernel) rfl (lv_at hl 0 rfl) ?_
  refine vk_getf hx hb (hSt.1.1 j hj).2.2.1 hS hown (hts _ (zjt_in (.fieldLink RJ0 9 "java/lang/String" "value" "[B") (by simp [zjtW]))) (fun _ h => h) (show decode cJ0_length_8abf5 1 = .ok (.getfield 9, 3) by decide +kernel) ?_
  refine va_tlen hx hb (hSt.1.1 j hj).2.2.2 hS (v := nI (zst j).length) (by rw [hn1]; rfl) (show decode cJ0_length_8abf5 4 = .ok (.arraylength, 1) by decide +kernel) ?_
  refine lv_aload_n hx hb (show decode cJ0_length_8abf5 5 = .ok (.aload_n 0, 1) by decide +kernel) rfl (lv_at hl 0 rfl) ?_
  refine zjV (As := []) (C := RJ0) hx hb hml hown hts hK hSt (zj_coder l hj I G) (zjgV (fun w hw => zjt_in w (by simp only [List.mem_cons, List.not_mem_nil, or_false] at hw; rcases hw with rfl | rfl | rfl | rfl <;> simp [zjtW])) zc_J0_coder_7d493_in) ⟨rfl, rfl, by decide, by decide⟩ ⟨rfl, by decide, by decide, by decide +kernel⟩ (rest := [.int (nI (zst j).length)]) (Nat.le_of_ble_eq_true rfl) hP hS hl.1 hG (vk_recv hSt.1 hj hS) (show decode cJ0_length_8abf5 6 = .ok (.invokevirtual 335, 3) by decide +kernel) ⟨Nat.zero_le _, Nat.zero_le _⟩ (fun H1 locs1 hP hG _ hS => ?_)
  refine lv_ishr hx hb (show decode cJ0_length_8abf5 9 = .ok (.ishr, 1) by decide +kernel) ?_
  have e : nI (zst j).length >>> ((0 : Int32) &&& 31) = nI (zst j).length := sc_shr0 (by omega)
  rw [e]
  exact W.iret (v := nI (zst j).length) hx hb hr (fun t ht hW => ⟨⟨rfl, trivial, by rw [ht]; exact hP, va_K.moved hW.alike hK, hSt.at hS ht hW, hG⟩, hS.F ht⟩) hS.2.2 (show decode cJ0_length_8abf5 10 = .ok (.ireturn, 1) by decide +kernel) hlocks

set_option maxHeartbeats 4000000 in
set_option maxRecDepth 100000 in
theorem zj_pci (l : Launch) {x n : Int32} (h0 : 0 ≤ x) (h1 : x < n) {v : Value} (hv0 : v = .null ∨ ∃ t, v = .ref t) (I : zMI) (G : zMR) : Met l yJ3_checkIndex_8e157 (.code yJ3_checkIndex_8e157 cJ3_checkIndex_8e157 3 (some .int) :: zgw) (zrJ 0) (va_Pc ([.int x, .int n, v]) (zwd dC dI cI cZ cS ad adV A I G)) (zQ dC dI cI cZ cS ad adV A (some (zi x), I, G)) 0 0 A := by
  refine Met.ofW (cc := cJ3_checkIndex_8e157) (maxL := 3) (ret := (some .int)) (by decide) rfl ?_
  intro p e s m args below meth c s₁ B hml hv
  obtain ⟨rfl, hP, hK, hSt, hG⟩ := hv
  have hx := B.exec
  have hb := B.bytes
  have hr := B.returns
  have hts0 := atoms_spec (ws := .code yJ3_checkIndex_8e157 cJ3_checkIndex_8e157 3 (some .int) :: zgw) B.pre
  have hts : ∀ w ∈ zgw, w.before _ s = true := fun w hw => hts0 w (List.mem_cons_of_mem _ hw)
  have hown : s.vm.findClass RJ3 = some m.cls := findClass_of_methodNamed B.named
  have hlocks := B.notSynchronized
  have hc1 : v.category = 1 := by rcases hv0 with rfl | ⟨t, rfl⟩ <;> rfl
  have hl := lv_entry ([.int x, .int n, v]) (n := 3) (by rcases hv0 with rfl | ⟨t, rfl⟩ <;> exact Nat.le_of_ble_eq_true rfl)
  rw [lg_entry_eq]
  generalize (lg_sl ([.int x, .int n, v]) ++ List.replicate (3 - (lg_sl ([.int x, .int n, v])).length) Slot.unset).toArray = ls at hl ⊢
  have hl : lv_has ls 3 [(0, .int x), (1, .int n)] := lv_sub hl [0, 1] rfl
  have hS : va_S A s.heap s.heap [] := va_S.rf
  refine lv_iload_n hx hb (show decode cJ3_checkIndex_8e157 0 = .ok (.iload_n 0, 1) by decide +kernel) rfl (lv_at hl 0 rfl) ?_
  refine lv_if_lt (tgt := 9) hx hb (show decode cJ3_checkIndex_8e157 1 = .ok (.ifCond .lt 8, 3) by decide +kernel) (by decide) (fun c1 => absurd h0 (Int32.not_le.mpr c1)) (fun _ => ?_)
  refine lv_iload_n hx hb (show decode cJ3_checkIndex_8e157 4 = .ok (.iload_n 0, 1) by decide +kernel) rfl (lv_at hl 0 rfl) ?_
  refine lv_iload_n hx hb (show decode cJ3_checkIndex_8e157 5 = .ok (.iload_n 1, 1) by decide +kernel) rfl (lv_at hl 1 rfl) ?_
  refine lv_icmp_lt (tgt := 16) hx hb (show decode cJ3_checkIndex_8e157 6 = .ok (.if_icmp .lt 10, 3) by decide +kernel) (by decide) (fun _ => ?_) (fun c1 => absurd h1 c1)
  refine lv_iload_n hx hb (show decode cJ3_checkIndex_8e157 16 = .ok (.iload_n 0, 1) by decide +kernel) rfl (lv_at hl 0 rfl) ?_
  exact W.iret (v := x) hx hb hr (fun t ht hW => ⟨⟨rfl, trivial, by rw [ht]; exact hP, va_K.moved hW.alike hK, hSt.at hS ht hW, hG⟩, hS.F ht⟩) hS.2.2 (show decode cJ3_checkIndex_8e157 17 = .ok (.ireturn, 1) by decide +kernel) hlocks

set_option maxHeartbeats 4000000 in
set_option maxRecDepth 100000 in
theorem zj_sci (l : Launch) {x n : Int32} (h0 : 0 ≤ x) (h1 : x < n) (I : zMI) (G : zMR) : Met l yJ0_checkIndex_df160 (.code yJ0_checkIndex_df160 cJ0_checkIndex_df160 2 none :: zgw) (zrJ 1) (va_Pc ([.int x, .int n]) (zwd dC dI cI cZ cS ad adV A I G)) (zQ dC dI cI cZ cS ad adV A (none, I, G)) 0 0 A := by
  refine Met.ofW (cc := cJ0_checkIndex_df160) (maxL := 2) (ret := none) (by decide) rfl ?_
  intro p e s m args below meth c s₁ B hml hv
  obtain ⟨rfl, hP, hK, hSt, hG⟩ := hv
  have hx := B.exec
  have hb := B.bytes
  have hr := B.returns
  have hts0 := atoms_spec (ws := .code yJ0_checkIndex_df160 cJ0_checkIndex_df160 2 none :: zgw) B.pre
  have hts : ∀ w ∈ zgw, w.before _ s = true := fun w hw => hts0 w (List.mem_cons_of_mem _ hw)
  have hown : s.vm.findClass RJ0 = some m.cls := findClass_of_methodNamed B.named
  have hlocks := B.notSynchronized
  have hl := lv_entry ([.int x, .int n]) (n := 2) (Nat.le_of_ble_eq_true rfl)
  rw [lg_entry_eq]
  generalize (lg_sl ([.int x, .int n]) ++ List.replicate (2 - (lg_sl ([.int x, .int n])).length) Slot.unset).toArray = ls at hl ⊢
  have hl : lv_has ls 2 [(0, .int x), (1, .int n)] := hl
  have hS : va_S A s.heap s.heap [] := va_S.rf
  refine lv_iload_n hx hb (show decode cJ0_checkIndex_df160 0 = .ok (.iload_n 0, 1) by decide +kernel) rfl (lv_at hl 0 rfl) ?_
  refine lv_iload_n hx hb (show decode cJ0_checkIndex_df160 1 = .ok (.iload_n 1, 1) by decide +kernel) rfl (lv_at hl 1 rfl) ?_
  have key : ∀ v : Value, (v = .null ∨ ∃ t, v = .ref t) → va_Z "jdk/internal/util/Preconditions" "SIOOBE_FORMATTER" "Ljava/util/function/BiFunction;" v A s s.heap → W p l e (zrJ 1) s m ([.int x, .int n] : List Value).toArray below meth c s.heap [] 0 0 (MQ below (zQ dC dI cI cZ cS ad adV A (none, I, G)) ([.int x, .int n] : List Value).toArray s 0 0 A) (F0 m 2 ls [.int n, .int x]) := by
    intro v hv0 hZ
    refine va_gets hx hb hZ hS hown (hts _ (zjt_in (.fieldLink RJ0 1053 "jdk/internal/util/Preconditions" "SIOOBE_FORMATTER" "Ljava/util/function/BiFunction;") (by simp [zjtW]))) (fun _ h => h) (show decode cJ0_checkIndex_df160 2 = .ok (.getstatic 1053, 3) by decide +kernel) ?_
    refine zjS (As := [.int x, .int n, v]) (rest := []) hx hb hml hown hts hK hSt (zj_pci l h0 h1 hv0 I G) (zjgS (fun w hw => zjt_in w (by simp only [List.mem_cons, List.not_mem_nil, or_false] at hw; rcases hw with rfl | rfl | rfl <;> simp [zjtW, yJ3_checkIndex_8e157])) zc_J3_checkIndex_8e157_in) ⟨rfl, rfl, by decide, by decide⟩ ⟨by decide, by decide, show (parseMethodDescriptor yJ3_checkIndex_8e157.desc).map (fun d => d.parameters.length) = some 3 by decide +kernel⟩ (by decide) hP hS hl.1 hG (show decode cJ0_checkIndex_df160 5 = .ok (.invokestatic 1059, 3) by decide +kernel) ⟨Nat.zero_le _, Nat.zero_le _⟩ (fun H1 locs1 hP hG _ hS => ?_)
    refine lv_pop hx hb (show decode cJ0_checkIndex_df160 8 = .ok (.pop, 1) by decide +kernel) rfl ?_
    exact W.vret hx hb hr (fun t ht hW => ⟨⟨rfl, trivial, by rw [ht]; exact hP, va_K.moved hW.alike hK, hSt.at hS ht hW, hG⟩, hS.F ht⟩) hS.2.2 (show decode cJ0_checkIndex_df160 9 = .ok (.return_, 1) by decide +kernel) hlocks
  rcases hSt.2.2.2.2.1 with hZ | ⟨t, hZ⟩
  · exact key _ (Or.inl rfl) hZ
  · exact key _ (Or.inr ⟨t, rfl⟩) hZ

theorem zst_ch : ∀ j, j < 6 → ∀ k, k < (zst j).length → (zstL.getD j []).getD k 0 = zgi (zst j) k ∧ zgi (zst j) k &&& 255 = zgi (zst j) k ∧ ((zgi (zst j) k).toUInt32 % 65536).toInt32 = zgi (zst j) k ∧ narrow .char (.int (zgi (zst j) k)) = .int (zgi (zst j) k) := by decide +kernel

set_option maxHeartbeats 4000000 in
set_option maxRecDepth 100000 in
theorem zj_lca (l : Launch) {j : Nat} (hj : j < 6) {x : Int32} (h0 : 0 ≤ x) (h1 : x.toNatClampNeg < (zst j).length) (I : zMI) (G : zMR) : Met l yJ1_charAt_3b067 (.code yJ1_charAt_3b067 cJ1_charAt_3b067 2 (some .char) :: zgw) (zrJ 2) (va_Pc ([.ref (adV j), .int x]) (zwd dC dI cI cZ cS ad adV A I G)) (zQ dC dI cI cZ cS ad adV A (some (zi (zgi (zst j) x.toNatClampNeg)), I, G)) 0 0 A := by
  refine Met.ofW (cc := cJ1_charAt_3b067) (maxL := 2) (ret := (some .char)) (by decide) rfl ?_
  intro p e s m args below meth c s₁ B hml hv
  obtain ⟨rfl, hP, hK, hSt, hG⟩ := hv
  have hx := B.exec
  have hb := B.bytes
  have hr := B.returns
  have hts0 := atoms_spec (ws := .code yJ1_charAt_3b067 cJ1_charAt_3b067 2 (some .char) :: zgw) B.pre
  have hts : ∀ w ∈ zgw, w.before _ s = true := fun w hw => hts0 w (List.mem_cons_of_mem _ hw)
  have hown : s.vm.findClass RJ1 = some m.cls := findClass_of_methodNamed B.named
  have hlocks := B.notSynchronized
  have hl := lv_entry ([.ref (adV j), .int x]) (n := 2) (Nat.le_of_ble_eq_true rfl)
  rw [lg_entry_eq]
  generalize (lg_sl ([.ref (adV j), .int x]) ++ List.replicate (2 - (lg_sl ([.ref (adV j), .int x])).length) Slot.unset).toArray = ls at hl ⊢
  have hl : lv_has ls 2 [(0, .ref (adV j)), (1, .int x)] := hl
  have hS : va_S A s.heap s.heap [] := va_S.rf
  obtain ⟨hn1, hn2⟩ := zst_len j hj
  obtain ⟨g1, g2, g3, g4⟩ := zst_ch j hj _ h1
  have hlt : x < nI (zst j).length := by
    obtain ⟨k, hk1, hk2⟩ := nI_of (x := x) (Int32.not_lt.mpr h0)
    subst hk2
    rw [nI_clamp hk1] at h1
    exact nI_lt h1 (by omega)
  refine lv_iload_n hx hb (show decode cJ1_charAt_3b067 0 = .ok (.iload_n 1, 1) by decide +kernel) rfl (lv_at hl 1 rfl) ?_
  refine lv_aload_n hx hb (show decode cJ1_charAt_3b067 1 = .ok (.aload_n 0, 1) by decide +kernel) rfl (lv_at hl 0 rfl) ?_
  refine va_tlen hx hb (hSt.1.1 j hj).2.2.2 hS (v := nI (zst j).length) (by rw [hn1]; rfl) (show decode cJ1_charAt_3b067 2 = .ok (.arraylength, 1) by decide +kernel) ?_
  refine zjS (As := [.int x, .int (nI (zst j).length)]) (rest := []) hx hb hml hown hts hK hSt (zj_sci l h0 hlt I G) (zjgS (fun w hw => zjt_in w (by simp only [List.mem_cons, List.not_mem_nil, or_false] at hw; rcases hw with rfl | rfl | rfl <;> simp [zjtW, yJ0_checkIndex_df160])) zc_J0_checkIndex_df160_in) ⟨rfl, rfl, by decide, by decide⟩ ⟨by decide, by decide, show (parseMethodDescriptor yJ0_checkIndex_df160.desc).map (fun d => d.parameters.length) = some 2 by decide +kernel⟩ (by decide) hP hS hl.1 hG (show decode cJ1_charAt_3b067 3 = .ok (.invokestatic 9, 3) by decide +kernel) ⟨Nat.zero_le _, Nat.zero_le _⟩ (fun H1 locs1 hP hG _ hS => ?_)
  refine lv_aload_n hx hb (show decode cJ1_charAt_3b067 6 = .ok (.aload_n 0, 1) by decide +kernel) rfl (lv_at hl 0 rfl) ?_
  refine lv_iload_n hx hb (show decode cJ1_charAt_3b067 7 = .ok (.iload_n 1, 1) by decide +kernel) rfl (lv_at hl 1 rfl) ?_
  refine va_tb hx hb (hSt.1.1 j hj).2.2.2 hS (zvpin ⟨h0, by rw [hn1]; exact h1⟩) (by rw [g1]) (show decode cJ1_charAt_3b067 8 = .ok (.baload, 1) by decide +kernel) ?_
  refine lv_sipush (v := 255) hx hb (show decode cJ1_charAt_3b067 9 = .ok (.sipush 255, 3) by decide +kernel) (by decide) ?_
  refine lv_iand hx hb (show decode cJ1_charAt_3b067 12 = .ok (.iand, 1) by decide +kernel) ?_
  refine lv_i2c (v := zgi (zst j) x.toNatClampNeg) hx hb (show decode cJ1_charAt_3b067 13 = .ok (.i2c, 1) by decide +kernel) (by rw [g2, g3]) ?_
  exact W.zret (v := zgi (zst j) x.toNatClampNeg) hx hb hr g4 (fun t ht hW => ⟨⟨rfl, trivial, by rw [ht]; exact hP, va_K.moved hW.alike hK, hSt.at hS ht hW, hG⟩, hS.F ht⟩) hS.2.2 (show decode cJ1_charAt_3b067 14 = .ok (.ireturn, 1) by decide +kernel) hlocks

set_option maxHeartbeats 4000000 in
set_option maxRecDepth 100000 in
theorem zj_charat (l : Launch) {j : Nat} (hj : j < 6) {x : Int32} (h0 : 0 ≤ x) (h1 : x.toNatClampNeg < (zst j).length) (I : zMI) (G : zMR) : Met l yJ0_charAt_5068e (.code yJ0_charAt_5068e cJ0_charAt_5068e 2 (some .char) :: zgw) zrm0 (va_Pc ([.ref (ad 60 j), .int x]) (zwd dC dI cI cZ cS ad adV A I G)) (zQ dC dI cI cZ cS ad adV A (some (zi (zgi (zst j) x.toNatClampNeg)), I, G)) 0 0 A := by
  refine Met.ofW (cc := cJ0_charAt_5068e) (maxL := 2) (ret := (some .char)) (by decide) rfl ?_
  intro p e s m args below meth c s₁ B hml hv
  obtain ⟨rfl, hP, hK, hSt, hG⟩ := hv
  have hx := B.exec
  have hb := B.bytes
  have hr := B.returns
  have hts0 := atoms_spec (ws := .code yJ0_charAt_5068e cJ0_charAt_5068e 2 (some .char) :: zgw) B.pre
  have hts : ∀ w ∈ zgw, w.before _ s = true := fun w hw => hts0 w (List.mem_cons_of_mem _ hw)
  have hown : s.vm.findClass RJ0 = some m.cls := findClass_of_methodNamed B.named
  have hlocks := B.notSynchronized
  have hl := lv_entry ([.ref (ad 60 j), .int x]) (n := 2) (Nat.le_of_ble_eq_true rfl)
  rw [lg_entry_eq]
  generalize (lg_sl ([.ref (ad 60 j), .int x]) ++ List.replicate (2 - (lg_sl ([.ref (ad 60 j), .int x])).length) Slot.unset).toArray = ls at hl ⊢
  have hl : lv_has ls 2 [(0, .ref (ad 60 j)), (1, .int x)] := hl
  have hS : va_S A s.heap s.heap [] := va_S.rf
  obtain ⟨g1, g2, g3, g4⟩ := zst_ch j hj _ h1
  refine lv_aload_n hx hb (show decode cJ0_charAt_5068e 0 = .ok (.aload_n 0, 1) by decide +kernel) rfl (lv_at hl 0 rfl) ?_
  refine zjV (As := []) (C := RJ0) hx hb hml hown hts hK hSt (zj_latin l hj I G) (zjgV (fun w hw => zjt_in w (by simp only [List.mem_cons, List.not_mem_nil, or_false] at hw; rcases hw with rfl | rfl | rfl | rfl <;> simp [zjtW])) zc_J0_isLatin1_aae02_in) ⟨rfl, rfl, by decide, by decide⟩ ⟨rfl, by decide, by decide, by decide +kernel⟩ (rest := []) (by decide) hP hS hl.1 hG (vk_recv hSt.1 hj hS) (show decode cJ0_charAt_5068e 1 = .ok (.invokevirtual 492, 3) by decide +kernel) ⟨Nat.zero_le _, Nat.zero_le _⟩ (fun H1 locs1 hP hG _ hS => ?_)
  refine lv_if_eq (tgt := 16) hx hb (show decode cJ0_charAt_5068e 4 = .ok (.ifCond .eq 12, 3) by decide +kernel) (by decide) (fun c1 => absurd c1 (by decide)) (fun _ => ?_)
  refine lv_aload_n hx hb (show decode cJ0_charAt_5068e 7 = .ok (.aload_n 0, 1) by decide +kernel) rfl (lv_at hl 0 rfl) ?_
  refine vk_getf hx hb (hSt.1.1 j hj).2.2.1 hS hown (hts _ (zjt_in (.fieldLink RJ0 9 "java/lang/String" "value" "[B") (by simp [zjtW]))) (fun _ h => h) (show decode cJ0_charAt_5068e 8 = .ok (.getfield 9, 3) by decide +kernel) ?_
  refine lv_iload_n hx hb (show decode cJ0_charAt_5068e 11 = .ok (.iload_n 1, 1) by decide +kernel) rfl (lv_at hl 1 rfl) ?_
  refine zjS (As := [.ref (adV j), .int x]) (rest := []) hx hb hml hown hts hK hSt (zj_lca l hj h0 h1 I G) (zjgS (fun w hw => zjt_in w (by simp only [List.mem_cons, List.not_mem_nil, or_false] at hw; rcases hw with rfl | rfl | rfl <;> simp [zjtW, yJ1_charAt_3b067])) zc_J1_charAt_3b067_in) ⟨rfl, rfl, by decide, by decide⟩ ⟨by decide, by decide, show (parseMethodDescriptor yJ1_charAt_3b067.desc).map (fun d => d.parameters.length) = some 2 by decide +kernel⟩ (by decide) hP hS hl.1 hG (show decode cJ0_charAt_5068e 12 = .ok (.invokestatic 495, 3) by decide +kernel) ⟨Nat.zero_le _, Nat.zero_le _⟩ (fun H1 locs1 hP hG _ hS => ?_)
  exact W.zret (v := zgi (zst j) x.toNatClampNeg) hx hb hr g4 (fun t ht hW => ⟨⟨rfl, trivial, by rw [ht]; exact hP, va_K.moved hW.alike hK, hSt.at hS ht hW, hG⟩, hS.F ht⟩) hS.2.2 (show decode cJ0_charAt_5068e 15 = .ok (.ireturn, 1) by decide +kernel) hlocks

theorem zTx_ok (l : Launch) : zTx dC dI cI cZ cS ad adV A l := ⟨fun _ I G hj => zj_length l hj I G, fun _ _ I G hj h0 h1 => zj_charat l hj h0 h1 I G⟩
end
