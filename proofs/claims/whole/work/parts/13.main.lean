def zrm0 : Room := { frames := 6, cells := 0, slots := 0, locals := 400 }
theorem zgood {ws : List Cond} (h : ∀ w ∈ ws, w ∈ zgw) : GoodIn zgw ws := fun w hw => ⟨h w hw, good_of_word (zgw_in (h w hw)).2⟩
section
variable {dC : Nat → ClassId} {dI : Nat → Nat → Nat} {cI cZ cS : ClassId} {ad : zAD} {adV : Nat → Nat} {A : Nat → Prop} {p : Program} {l : Launch} {e : Env} {R : Room} {s : State} {m : MethodId} {args : Array Value} {below : List Frame} {meth : Method} {c : Code} {d own ret nL : Nat} {cc : ByteArray}
variable {pcs : List Nat} {pc npc : Nat} {L : zXL} {S : List zAV} {I : zMI} {G : zMR}
theorem zcallV {Q : State → Prop} (X : zCx dC dI cI cZ cS ad adV A p R s m args meth c d own ret nL cc) {y : MethodName} {bytes : ByteArray} {mL : Nat} {rt : Option FieldType} {rm : Room} {r : zRS} {As : List Value} {b : Nat} {C : String} {x : Nat}
    (hM : Met l y (.code y bytes mL rt :: zgw) rm (va_Pc (.ref b :: As) (zwd dC dI cI cZ cS ad adV A I G)) (zQ dC dI cI cZ cS ad adV A r) 0 0 A)
    (hw : ∀ w ∈ [Cond.methodLink (zcn own) x y, Cond.instanceMethod y, Cond.selects C y y, Cond.initialized C, Cond.code y bytes mL rt], w ∈ zgw)
    (hrm : rm.cells = 0 ∧ rm.slots = 0 ∧ rm.frames + 1 ≤ R.frames ∧ 8 + (mL + 11) + rm.locals ≤ R.locals)
    (hy : y.cls = C ∧ y.cls ≠ "java/lang/invoke/MethodHandle" ∧ y.cls ≠ "java/lang/invoke/VarHandle" ∧ (parseMethodDescriptor y.desc).map (fun d => d.parameters.length) = some As.length) {S0 : List zAV} (hsh : zshort S0 = true) {H : Heap} {locs : List Loc} {ls : Array Slot}
    (hP : va_P (dC, dI) vwCl (zws cI cZ cS ad I G) H) (hS : va_S A s.heap H locs) (hl : ls.size = nL) (hG : zVG G) (hrecv : ∃ cellB : Cell, H[b]? = some cellB ∧ cellB.vm.isStatics = false ∧ s.vm.findClass C = some cellB.cls) (hdg : decode cc pc = .ok (.invokevirtual x, 3))
    (kk : ∀ (H1 : Heap) (locs1 : List Loc), va_P (dC, dI) vwCl (zws cI cZ cS ad r.2.1 r.2.2) H1 → zVG r.2.2 → zVo r.1 → va_S A s.heap H1 locs1 → W p l e R s m args below meth c H1 locs1 0 0 Q (F0 m (pc + 3) ls ((r.1.map (zcv ad)).toList ++ S0.map (zcv ad)))) :
    W p l e R s m args below meth c H locs 0 0 Q (F0 m pc ls (As.reverse ++ .ref b :: S0.map (zcv ad))) := by
  obtain ⟨hx, hb, hml, hown, hts, hlk, hrt, hK, hSt, hAp, hR⟩ := X
  have hg : GoodIn zgw (wsV (zcn own) x C y (.code y bytes mL rt :: zgw)) := zgood (fun w hw' => by
    rcases List.mem_append.mp hw' with h | h
    · exact hw w (by
        simp only [List.mem_cons, List.not_mem_nil, or_false] at h ⊢
        rcases h with h | h | h | h
        · exact Or.inl h
        · exact Or.inr (Or.inl h)
        · exact Or.inr (Or.inr (Or.inl h))
        · exact Or.inr (Or.inr (Or.inr (Or.inl h))))
    · rcases List.mem_cons.mp h with h | h
      · exact hw w (by rw [h]; simp)
      · exact h)
  exact z_after (va_runV (rest := S0.map (zcv ad)) (As := As) ⟨hx, hb, hml, hown, hts⟩ hM (cwV As.length hts hg rfl hrm.1 hrm.2.1 hy hrm.2.2) ⟨zblind, hrecv, zpre hP hK hSt hS hG _⟩ rfl rfl hl rfl (lv_room (zshort_sum hsh)) hdg ⟨Nat.zero_le _, Nat.zero_le _⟩) hS kk
theorem zcallS {Q : State → Prop} (X : zCx dC dI cI cZ cS ad adV A p R s m args meth c d own ret nL cc) {y : MethodName} {bytes : ByteArray} {mL : Nat} {rt : Option FieldType} {rm : Room} {r : zRS} {As : List Value} {x : Nat}
    (hM : Met l y (.code y bytes mL rt :: zgw) rm (va_Pc As (zwd dC dI cI cZ cS ad adV A I G)) (zQ dC dI cI cZ cS ad adV A r) 0 0 A)
    (hw : ∀ w ∈ [Cond.methodLink (zcn own) x y, Cond.static y, Cond.initialized y.cls, Cond.code y bytes mL rt], w ∈ zgw)
    (hrm : rm.cells = 0 ∧ rm.slots = 0 ∧ rm.frames + 1 ≤ R.frames ∧ 8 + (mL + 11) + rm.locals ≤ R.locals)
    (hy : y.cls ≠ "java/lang/invoke/MethodHandle" ∧ y.cls ≠ "java/lang/invoke/VarHandle" ∧ (parseMethodDescriptor y.desc).map (fun d => d.parameters.length) = some As.length) {S0 : List zAV} (hsh : zshort S0 = true) {H : Heap} {locs : List Loc} {ls : Array Slot}
    (hP : va_P (dC, dI) vwCl (zws cI cZ cS ad I G) H) (hS : va_S A s.heap H locs) (hl : ls.size = nL) (hG : zVG G) (hdg : decode cc pc = .ok (.invokestatic x, 3))
    (kk : ∀ (H1 : Heap) (locs1 : List Loc), va_P (dC, dI) vwCl (zws cI cZ cS ad r.2.1 r.2.2) H1 → zVG r.2.2 → zVo r.1 → va_S A s.heap H1 locs1 → W p l e R s m args below meth c H1 locs1 0 0 Q (F0 m (pc + 3) ls ((r.1.map (zcv ad)).toList ++ S0.map (zcv ad)))) :
    W p l e R s m args below meth c H locs 0 0 Q (F0 m pc ls (As.reverse ++ S0.map (zcv ad))) := by
  obtain ⟨hx, hb, hml, hown, hts, hlk, hrt, hK, hSt, hAp, hR⟩ := X
  have hg : GoodIn zgw (va_wsS (zcn own) x y (.code y bytes mL rt :: zgw)) := zgood (fun w hw' => by
    rcases List.mem_append.mp hw' with h | h
    · exact hw w (by
        simp only [List.mem_cons, List.not_mem_nil, or_false] at h ⊢
        rcases h with h | h | h
        · exact Or.inl h
        · exact Or.inr (Or.inl h)
        · exact Or.inr (Or.inr (Or.inl h)))
    · rcases List.mem_cons.mp h with h | h
      · exact hw w (by rw [h]; simp)
      · exact h)
  exact z_after (va_runS (rest := S0.map (zcv ad)) (As := As) ⟨hx, hb, hml, hown, hts⟩ hM (va_cwS As.length hts hg rfl hrm.1 hrm.2.1 hy hrm.2.2) ⟨zblind, zpre hP hK hSt hS hG _⟩ rfl rfl hl rfl (lv_room (zshort_sum hsh)) hdg ⟨Nat.zero_le _, Nat.zero_le _⟩) hS kk
theorem zsh4 {a : Nat} (h : zsh a = 4) : a = 60 := by
  unfold zsh at h
  by_cases q1 : a ≤ 10
  · rw [if_pos q1] at h; cases h
  rw [if_neg q1] at h
  by_cases q2 : a = 43
  · rw [if_pos q2] at h; cases h
  rw [if_neg q2] at h
  by_cases q3 : a = 51
  · rw [if_pos q3] at h; cases h
  rw [if_neg q3] at h
  by_cases q4 : a = 50
  · rw [if_pos q4] at h; cases h
  rw [if_neg q4] at h
  by_cases q5 : a = 60
  · exact q5
  rw [if_neg q5] at h
  by_cases q6 : a = 61
  · rw [if_pos q6] at h; cases h
  · rw [if_neg q6] at h; cases h
/-- what is asked of the JDK's texts -/
def zTx (dC : Nat → ClassId) (dI : Nat → Nat → Nat) (cI cZ cS : ClassId) (ad : zAD) (adV : Nat → Nat) (A : Nat → Prop) (l : Launch) : Prop :=
  (∀ (j : Nat) (I : zMI) (G : zMR), j < 6 → Met l yJ0_length_8abf5 (.code yJ0_length_8abf5 cJ0_length_8abf5 1 (some .int) :: zgw) zrm0 (va_Pc [.ref (ad 60 j)] (zwd dC dI cI cZ cS ad adV A I G)) (zQ dC dI cI cZ cS ad adV A (some (zi (nI (zst j).length)), I, G)) 0 0 A) ∧
  ∀ (j : Nat) (x : Int32) (I : zMI) (G : zMR), j < 6 → 0 ≤ x → x.toNatClampNeg < (zst j).length → Met l yJ0_charAt_5068e (.code yJ0_charAt_5068e cJ0_charAt_5068e 2 (some .char) :: zgw) zrm0 (va_Pc [.ref (ad 60 j), .int x] (zwd dC dI cI cZ cS ad adV A I G)) (zQ dC dI cI cZ cS ad adV A (some (zi (zgi (zst j) x.toNatClampNeg)), I, G)) 0 0 A
theorem zx_strlen (X : zCx dC dI cI cZ cS ad adV A p R s m args meth c d own ret nL cc) (hT : zTx dC dI cI cZ cS ad adV A l) {x : Nat} (hml0 : (own, x, 3, 0) ∈ zML) (hdg : decode cc pc = .ok (.invokevirtual x, 3)) : zGd pcs pc (pc + 3) (zP dC dI cI cZ cS ad adV A p l e R s m args below meth c nL) L S I G (zex (39, 0, 0, 0) L S I G) := by
  have hSt := X.2.2.2.2.2.2.2.2.1
  have hR := X.2.2.2.2.2.2.2.2.2.2
  rcases S with _ | ⟨v1, S⟩
  · exact trivial
  rcases v1 with y | y | y | ⟨a, j⟩
  · exact trivial
  · exact trivial
  · exact trivial
  show zGd _ _ _ _ _ _ _ _ (if zsh a = 4 ∧ zshort S = true ∧ j < 6 then _ else _)
  by_cases q : zsh a = 4 ∧ zshort S = true ∧ j < 6
  · rw [if_pos q]
    obtain ⟨q1, q2, q3⟩ := q
    have ha := zsh4 q1
    subst ha
    intro r k H locs ls hP hS hl hG hv hL
    refine zcallV (r := (some (zi (nI (zst j).length)), I, G)) (As := []) (C := RJ0) X (hT.1 j I G q3) ?_ ⟨rfl, rfl, by show 6 + 1 ≤ _; omega, by show 8 + (1 + 11) + 400 ≤ _; omega⟩ ⟨rfl, by decide, by decide, by decide +kernel⟩ q2 hP hS hl.2.1 hG (vk_recv hSt.1 q3 hS) hdg (fun H1 locs1 hP1 hG1 _ hS1 => k H1 locs1 ls hP1 hS1 hl hG1 ⟨trivial, hv.2⟩ hL)
    intro w hw
    simp only [List.mem_cons, List.not_mem_nil, or_false] at hw
    rcases hw with rfl | rfl | rfl | rfl | rfl
    · exact zml_in hml0 _ (List.mem_singleton.mpr rfl)
    · exact zot_in _ (by simp [zotW])
    · exact zot_in _ (by simp [zotW])
    · exact zot_in _ (by simp [zotW])
    · exact zc_J0_length_8abf5_in
  · rw [if_neg q]
    exact trivial
theorem zx_charat (X : zCx dC dI cI cZ cS ad adV A p R s m args meth c d own ret nL cc) (hT : zTx dC dI cI cZ cS ad adV A l) {x : Nat} (hml0 : (own, x, 4, 0) ∈ zML) (hdg : decode cc pc = .ok (.invokevirtual x, 3)) : zGd pcs pc (pc + 3) (zP dC dI cI cZ cS ad adV A p l e R s m args below meth c nL) L S I G (zex (40, 0, 0, 0) L S I G) := by
  have hSt := X.2.2.2.2.2.2.2.2.1
  have hR := X.2.2.2.2.2.2.2.2.2.2
  rcases S with _ | ⟨v1, S⟩
  · exact trivial
  rcases v1 with x1 | y | y
  rotate_left
  · exact trivial
  · exact trivial
  rcases S with _ | ⟨v2, S⟩
  · exact trivial
  rcases v2 with y | y | y | ⟨a, j⟩
  · exact trivial
  · exact trivial
  · exact trivial
  show zGd _ _ _ _ _ _ _ _ (if zsh a = 4 ∧ zshort S = true ∧ j < 6 then (if 0 ≤ x1 ∧ x1.toNatClampNeg < (zst j).length then _ else _) else _)
  by_cases q : zsh a = 4 ∧ zshort S = true ∧ j < 6
  · rw [if_pos q]
    by_cases q4 : 0 ≤ x1 ∧ x1.toNatClampNeg < (zst j).length
    · rw [if_pos q4]
      obtain ⟨q1, q2, q3⟩ := q
      have ha := zsh4 q1
      subst ha
      intro r k H locs ls hP hS hl hG hv hL
      refine zcallV (r := (some (zi (zgi (zst j) x1.toNatClampNeg)), I, G)) (As := [.int x1]) (C := RJ0) X (hT.2 j x1 I G q3 q4.1 q4.2) ?_ ⟨rfl, rfl, by show 6 + 1 ≤ _; omega, by show 8 + (2 + 11) + 400 ≤ _; omega⟩ ⟨rfl, by decide, by decide, show (parseMethodDescriptor yJ0_charAt_5068e.desc).map (fun d => d.parameters.length) = some 1 by decide +kernel⟩ q2 hP hS hl.2.1 hG (vk_recv hSt.1 q3 hS) hdg (fun H1 locs1 hP1 hG1 _ hS1 => k H1 locs1 ls hP1 hS1 hl hG1 ⟨trivial, hv.2.2⟩ hL)
      intro w hw
      simp only [List.mem_cons, List.not_mem_nil, or_false] at hw
      rcases hw with rfl | rfl | rfl | rfl | rfl
      · exact zml_in hml0 _ (List.mem_singleton.mpr rfl)
      · exact zot_in _ (by simp [zotW])
      · exact zot_in _ (by simp [zotW])
      · exact zot_in _ (by simp [zotW])
      · exact zc_J0_charAt_5068e_in
    · rw [if_neg q4]
      exact trivial
  · rw [if_neg q]
    exact trivial
/-- every instruction that is no call of ours -/
theorem zx_all (hT : zTx dC dI cI cZ cS ad adV A l) {ai : zAI} {ins : Instr} {len : Nat} (X : zCx dC dI cI cZ cS ad adV A p R s m args meth c d own ret nL cc) (hm : zmc own ret pcs pc ai ins len = true) (hdg : decode cc pc = .ok (ins, len)) :
    zGd pcs pc (pc + len) (zP dC dI cI cZ cS ad adV A p l e R s m args below meth c nL) L S I G (zex ai L S I G) ∨
    (∃ x k, ins = .invokevirtual x ∧ len = 3 ∧ ai = (58, k, 16 * ((zmu k).2.1 + 1) + (zmu k).1, 0) ∧ (own, x, 0, k) ∈ zML ∧ k < zmT.length) ∨
    ∃ x k, ins = .invokestatic x ∧ len = 3 ∧ ai = (23, k, (zmu k).2.1, 0) ∧ (own, x, 1, k) ∈ zML ∧ k < zmT.length := by
  cases ins with
  | iload k =>
    obtain ⟨h1, h2⟩ := of_decide_eq_true hm
    subst h1; subst h2
    exact Or.inl (zx_iload X hdg)
  | iload_n k =>
    obtain ⟨h1, h2⟩ := of_decide_eq_true hm
    subst h1; subst h2
    exact Or.inl (zx_iload_n X hdg)
  | aload k =>
    obtain ⟨h1, h2⟩ := of_decide_eq_true hm
    subst h1; subst h2
    exact Or.inl (zx_aload X hdg)
  | aload_n k =>
    obtain ⟨h1, h2⟩ := of_decide_eq_true hm
    subst h1; subst h2
    exact Or.inl (zx_aload_n X hdg)
  | lload k =>
    obtain ⟨h1, h2⟩ := of_decide_eq_true hm
    subst h1; subst h2
    exact Or.inl (zx_lload X hdg)
  | lload_n k =>
    obtain ⟨h1, h2⟩ := of_decide_eq_true hm
    subst h1; subst h2
    exact Or.inl (zx_lload_n X hdg)
  | istore k =>
    obtain ⟨h1, h2⟩ := of_decide_eq_true hm
    subst h1; subst h2
    exact Or.inl (zx_istore X hdg)
  | istore_n k =>
    obtain ⟨h1, h2⟩ := of_decide_eq_true hm
    subst h1; subst h2
    exact Or.inl (zx_istore_n X hdg)
  | astore k =>
    obtain ⟨h1, h2⟩ := of_decide_eq_true hm
    subst h1; subst h2
    exact Or.inl (zx_astore X hdg)
  | astore_n k =>
    obtain ⟨h1, h2⟩ := of_decide_eq_true hm
    subst h1; subst h2
    exact Or.inl (zx_astore_n X hdg)
  | lstore k =>
    obtain ⟨h1, h2⟩ := of_decide_eq_true hm
    subst h1; subst h2
    exact Or.inl (zx_lstore X hdg)
  | lstore_n k =>
    obtain ⟨h1, h2⟩ := of_decide_eq_true hm
    subst h1; subst h2
    exact Or.inl (zx_lstore_n X hdg)
  | iconst n =>
    obtain ⟨h1, h2⟩ := of_decide_eq_true hm
    subst h1; subst h2
    exact Or.inl (zx_iconst X hdg)
  | bipush n =>
    obtain ⟨h1, h2⟩ := of_decide_eq_true hm
    subst h1; subst h2
    exact Or.inl (zx_bipush X hdg)
  | sipush n =>
    obtain ⟨h1, h2⟩ := of_decide_eq_true hm
    subst h1; subst h2
    exact Or.inl (zx_sipush X hdg)
  | lconst n =>
    obtain ⟨h1, h2⟩ := of_decide_eq_true hm
    subst h1; subst h2
    exact Or.inl (zx_lconst X hdg)
  | iinc k n =>
    obtain ⟨h1, h2⟩ := of_decide_eq_true hm
    subst h1; subst h2
    exact Or.inl (zx_iinc X hdg)
  | iadd =>
    obtain ⟨h1, h2⟩ := of_decide_eq_true hm
    subst h1; subst h2
    exact Or.inl (zx_iadd X hdg)
  | isub =>
    obtain ⟨h1, h2⟩ := of_decide_eq_true hm
    subst h1; subst h2
    exact Or.inl (zx_isub X hdg)
  | imul =>
    obtain ⟨h1, h2⟩ := of_decide_eq_true hm
    subst h1; subst h2
    exact Or.inl (zx_imul X hdg)
  | iand =>
    obtain ⟨h1, h2⟩ := of_decide_eq_true hm
    subst h1; subst h2
    exact Or.inl (zx_iand X hdg)
  | ior =>
    obtain ⟨h1, h2⟩ := of_decide_eq_true hm
    subst h1; subst h2
    exact Or.inl (zx_ior X hdg)
  | ixor =>
    obtain ⟨h1, h2⟩ := of_decide_eq_true hm
    subst h1; subst h2
    exact Or.inl (zx_ixor X hdg)
  | ishl =>
    obtain ⟨h1, h2⟩ := of_decide_eq_true hm
    subst h1; subst h2
    exact Or.inl (zx_ishl X hdg)
  | ishr =>
    obtain ⟨h1, h2⟩ := of_decide_eq_true hm
    subst h1; subst h2
    exact Or.inl (zx_ishr X hdg)
  | idiv =>
    obtain ⟨h1, h2⟩ := of_decide_eq_true hm
    subst h1; subst h2
    exact Or.inl (zx_idiv X hdg)
  | irem =>
    obtain ⟨h1, h2⟩ := of_decide_eq_true hm
    subst h1; subst h2
    exact Or.inl (zx_irem X hdg)
  | ineg =>
    obtain ⟨h1, h2⟩ := of_decide_eq_true hm
    subst h1; subst h2
    exact Or.inl (zx_ineg X hdg)
  | iaload =>
    obtain ⟨h1, h2⟩ := of_decide_eq_true hm
    subst h1; subst h2
    exact Or.inl (zx_iaload X hdg)
  | iastore =>
    obtain ⟨h1, h2⟩ := of_decide_eq_true hm
    subst h1; subst h2
    exact Or.inl (zx_iastore X hdg)
  | baload =>
    obtain ⟨h1, h2⟩ := of_decide_eq_true hm
    subst h1; subst h2
    exact Or.inl (zx_baload X hdg)
  | bastore =>
    obtain ⟨h1, h2⟩ := of_decide_eq_true hm
    subst h1; subst h2
    exact Or.inl (zx_bastore X hdg)
  | arraylength =>
    obtain ⟨h1, h2⟩ := of_decide_eq_true hm
    subst h1; subst h2
    exact Or.inl (zx_arraylength X hdg)
  | aaload =>
    obtain ⟨h1, h2⟩ := of_decide_eq_true hm
    subst h1; subst h2
    exact Or.inl (zx_aaload X hdg)
  | dup =>
    obtain ⟨h1, h2⟩ := of_decide_eq_true hm
    subst h1; subst h2
    exact Or.inl (zx_dup X hdg)
  | dup2 =>
    obtain ⟨h1, h2⟩ := of_decide_eq_true hm
    subst h1; subst h2
    exact Or.inl (zx_dup2 X hdg)
  | pop =>
    obtain ⟨h1, h2⟩ := of_decide_eq_true hm
    subst h1; subst h2
    exact Or.inl (zx_pop X hdg)
  | i2l =>
    obtain ⟨h1, h2⟩ := of_decide_eq_true hm
    subst h1; subst h2
    exact Or.inl (zx_i2l X hdg)
  | ladd =>
    obtain ⟨h1, h2⟩ := of_decide_eq_true hm
    subst h1; subst h2
    exact Or.inl (zx_ladd X hdg)
  | lrem =>
    obtain ⟨h1, h2⟩ := of_decide_eq_true hm
    subst h1; subst h2
    exact Or.inl (zx_lrem X hdg)
  | ldiv =>
    obtain ⟨h1, h2⟩ := of_decide_eq_true hm
    subst h1; subst h2
    exact Or.inl (zx_ldiv X hdg)
  | lcmp =>
    obtain ⟨h1, h2⟩ := of_decide_eq_true hm
    subst h1; subst h2
    exact Or.inl (zx_lcmp X hdg)
  | if_icmp cd off =>
    have hm := Bool.and_eq_true_iff.mp hm
    obtain ⟨h1, h2⟩ := of_decide_eq_true hm.1
    subst h2
    have ht := ztg_of hm.2
    rw [h1]
    cases cd
    · exact Or.inl (zx_icmp_eq X ht hdg)
    · exact Or.inl (zx_icmp_ne X ht hdg)
    · exact Or.inl (zx_icmp_lt X ht hdg)
    · exact Or.inl (zx_icmp_ge X ht hdg)
    · exact Or.inl (zx_icmp_gt X ht hdg)
    · exact Or.inl (zx_icmp_le X ht hdg)
  | ifCond cd off =>
    have hm := Bool.and_eq_true_iff.mp hm
    obtain ⟨h1, h2⟩ := of_decide_eq_true hm.1
    subst h2
    have ht := ztg_of hm.2
    rw [h1]
    cases cd
    · exact Or.inl (zx_if_eq X ht hdg)
    · exact Or.inl (zx_if_ne X ht hdg)
    · exact Or.inl (zx_if_lt X ht hdg)
    · exact Or.inl (zx_if_ge X ht hdg)
    · exact Or.inl (zx_if_gt X ht hdg)
    · exact Or.inl (zx_if_le X ht hdg)
  | goto off =>
    have hm := Bool.and_eq_true_iff.mp hm
    obtain ⟨h1, h2⟩ := of_decide_eq_true hm.1
    subst h2
    have ht := ztg_of hm.2
    rw [h1]
    exact Or.inl (zx_goto X ht hdg)
  | getfield x =>
    have hm := Bool.and_eq_true_iff.mp hm
    obtain ⟨h1, h2⟩ := of_decide_eq_true hm.1
    subst h2
    exact Or.inl (zx_getfield X h1 (of_decide_eq_true hm.2) hdg)
  | putfield x =>
    have hm := Bool.and_eq_true_iff.mp hm
    obtain ⟨h1, h2⟩ := of_decide_eq_true hm.1
    subst h2
    have hm2 := Bool.and_eq_true_iff.mp hm.2
    exact Or.inl (zx_putfield X h1 (of_decide_eq_true hm2.1) (of_decide_eq_true hm2.2) hdg)
  | return_ =>
    obtain ⟨h1, h2, h3⟩ := of_decide_eq_true hm
    subst h1; subst h2; subst h3
    exact Or.inl (zx_return X hdg)
  | ireturn =>
    obtain ⟨h2, h1⟩ := of_decide_eq_true hm
    subst h2
    rcases h1 with ⟨h1, h3⟩ | ⟨h1, h3⟩
    · subst h1; subst h3
      exact Or.inl (zx_ireturn X hdg)
    · subst h1; subst h3
      exact Or.inl (zx_zreturn X hdg)
  | lreturn =>
    obtain ⟨h1, h2, h3⟩ := of_decide_eq_true hm
    subst h1; subst h2; subst h3
    exact Or.inl (zx_lreturn X hdg)
  | areturn =>
    obtain ⟨h1, h2, h3⟩ := of_decide_eq_true hm
    subst h1; subst h2; subst h3
    exact Or.inl (zx_areturn X hdg)
  | tableswitch df lo hi offs =>
    have hm := Bool.and_eq_true_iff.mp hm
    obtain ⟨h1, h2⟩ := of_decide_eq_true hm.1
    have hm2 := Bool.and_eq_true_iff.mp hm.2
    rw [h1]
    exact Or.inl (zx_tableswitch X h2 hm2.1 hm2.2 hdg)
  | lookupswitch df ps =>
    have hm := Bool.and_eq_true_iff.mp hm
    have h1 := of_decide_eq_true hm.1
    have hm2 := Bool.and_eq_true_iff.mp hm.2
    have hm3 := Bool.and_eq_true_iff.mp hm2.2
    rw [h1]
    exact Or.inl (zx_lookupswitch X hm2.1 hm3.1 hm3.2 hdg)
  | ldc x =>
    have hm := Bool.and_eq_true_iff.mp hm
    have h2 := of_decide_eq_true hm.1
    subst h2
    rcases (Bool.or_eq_true _ _).mp hm.2 with h | h
    · obtain ⟨h1, h3⟩ := of_decide_eq_true h
      rw [h1]
      exact Or.inl (zx_ldcs X h3 hdg)
    · obtain ⟨h1, h3, h4⟩ := of_decide_eq_true h
      subst h1; subst h3; subst h4
      exact Or.inl (zx_ldc X hdg)
  | ldc2_w x =>
    obtain ⟨h2, h1⟩ := of_decide_eq_true hm
    subst h2
    rcases h1 with ⟨h1, h3 | h3⟩ | ⟨h1, h3⟩ | ⟨h1, h3⟩
    · subst h1; obtain ⟨h4, h5⟩ := h3; subst h4; subst h5
      exact Or.inl (zx_ldc2a X hdg)
    · subst h1; obtain ⟨h4, h5⟩ := h3; subst h4; subst h5
      exact Or.inl (zx_ldc2b X hdg)
    · subst h1; obtain ⟨h4, h5⟩ := h3; subst h4; subst h5
      exact Or.inl (zx_ldc2c X hdg)
    · subst h1; obtain ⟨h4, h5⟩ := h3; subst h4; subst h5
      exact Or.inl (zx_ldc2d X hdg)
  | getstatic x =>
    obtain ⟨h1, h2, h3, h4⟩ := of_decide_eq_true hm
    subst h1; subst h2; subst h3; subst h4
    exact Or.inl (zx_getstatic X hdg)
  | invokevirtual x =>
    have hm := Bool.and_eq_true_iff.mp hm
    have h2 := of_decide_eq_true hm.1
    subst h2
    rcases (Bool.or_eq_true _ _).mp hm.2 with h | h
    · rcases (Bool.or_eq_true _ _).mp h with h | h
      · obtain ⟨h1, h3, h4⟩ := of_decide_eq_true h
        exact Or.inr (Or.inl ⟨x, ai.2.1, rfl, rfl, h1, h3, h4⟩)
      · obtain ⟨h1, h3⟩ := of_decide_eq_true h
        subst h1
        exact Or.inl (zx_strlen X hT h3 hdg)
    · obtain ⟨h1, h3⟩ := of_decide_eq_true h
      subst h1
      exact Or.inl (zx_charat X hT h3 hdg)
  | invokestatic x =>
    have hm := Bool.and_eq_true_iff.mp hm
    have h2 := of_decide_eq_true hm.1
    subst h2
    rcases (Bool.or_eq_true _ _).mp hm.2 with h | h
    · rcases (Bool.or_eq_true _ _).mp h with h | h
      · rcases (Bool.or_eq_true _ _).mp h with h | h
        · obtain ⟨h1, h3, h4⟩ := of_decide_eq_true h
          exact Or.inr (Or.inr ⟨x, ai.2.1, rfl, rfl, h1, h3, h4⟩)
        · obtain ⟨h1, h3⟩ := of_decide_eq_true h
          subst h1
          exact Or.inl (zx_max X h3 hdg)
      · obtain ⟨h1, h3⟩ := of_decide_eq_true h
        subst h1
        exact Or.inl (zx_min X h3 hdg)
    · obtain ⟨h1, h3⟩ := of_decide_eq_true h
      subst h1
      exact Or.inl (zx_copy X h3 hdg)
  | _ => cases hm
end
