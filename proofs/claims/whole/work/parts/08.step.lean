/-! AN INSTRUCTION OF THE ABSTRACT MACHINE IS ONE OF THE MACHINE'S -/
/-- what stands fast in a method's frame -/
def zCx (dC : Nat → ClassId) (dI : Nat → Nat → Nat) (cI cZ cS : ClassId) (ad : zAD) (adV : Nat → Nat) (A : Nat → Prop) (p : Program) (R : Room) (s : State) (m : MethodId) (args : Array Value) (meth : Method) (c : Code) (d own ret nL : Nat) (cc : ByteArray) : Prop :=
  p.tables.exec = Jvm.exec ∧ c.code = cc ∧ c.maxLocals = nL ∧ s.vm.findClass (zcn own) = some m.cls ∧ (∀ w ∈ zgw, w.before args s = true) ∧ meth.locks = false ∧ zrk ret meth.sig.returnType = true ∧
  va_K (dC, dI) vwCl (ztys cI cZ cS) s ∧ zSt ad adV A s s.heap ∧ zAp ad A ∧ (d + 8 ≤ R.frames ∧ 64 * d + 512 ≤ R.locals)
/-- at pc, with these locals, this stack and this memory, the machine comes to r -/
def zP (dC : Nat → ClassId) (dI : Nat → Nat → Nat) (cI cZ cS : ClassId) (ad : zAD) (adV : Nat → Nat) (A : Nat → Prop) (p : Program) (l : Launch) (e : Env) (R : Room) (s : State) (m : MethodId) (args : Array Value) (below : List Frame) (meth : Method) (c : Code) (nL : Nat) (r : zRS) (pc : Nat) (L : zXL) (S : List zAV) (I : zMI) (G : zMR) : Prop :=
  ∀ (H : Heap) (locs : List Loc) (ls : Array Slot), va_P (dC, dI) vwCl (zws cI cZ cS ad I G) H → va_S A s.heap H locs → zLH ad ls nL L → zVG G → zVs S → zVl L →
    W p l e R s m args below meth c H locs 0 0 (MQ below (zQ dC dI cI cZ cS ad adV A r) args s 0 0 A) (F0 m pc ls (S.map (zcv ad)))
/-- an event is one of the machine's -/
def zGd (pcs : List Nat) (pc npc : Nat) (P : zRS → Nat → zXL → List zAV → zMI → zMR → Prop) (L : zXL) (S : List zAV) (I : zMI) (G : zMR) (ev : zEV) : Prop := match ev with
  | .inl (none, (L', (S', (I', G')))) => ∀ r, P r npc L' S' I' G' → P r pc L S I G
  | .inl (some b, (L', (S', (I', G')))) => b < pcs.length ∧ ∀ r, P r (zgn pcs b) L' S' I' G' → P r pc L S I G
  | .inr (.inl _) => False
  | .inr (.inr none) => True
  | .inr (.inr (some r)) => P r pc L S I G
section
variable {dC : Nat → ClassId} {dI : Nat → Nat → Nat} {cI cZ cS : ClassId} {ad : zAD} {adV : Nat → Nat} {A : Nat → Prop} {p : Program} {l : Launch} {e : Env} {R : Room} {s : State} {m : MethodId} {args : Array Value} {below : List Frame} {meth : Method} {c : Code} {d own ret nL : Nat} {cc : ByteArray}
variable {pcs : List Nat} {pc npc : Nat} {L : zXL} {S : List zAV} {I : zMI} {G : zMR}
theorem zx_iadd (X : zCx dC dI cI cZ cS ad adV A p R s m args meth c d own ret nL cc)  (hdg : decode cc pc = .ok (.iadd, 1)) : zGd pcs pc (pc + 1) (zP dC dI cI cZ cS ad adV A p l e R s m args below meth c nL) L S I G (zex (60, 0, 0, 0) L S I G) := by
  obtain ⟨hx, hb, hml, hown, hts, hlk, hrt, hK, hSt, hAp, hR⟩ := X
  rcases S with _ | ⟨v1, S⟩
  · exact trivial
  rcases v1 with x1 | x1 | x1 | x1
  rotate_left
  · exact trivial
  · exact trivial
  · exact trivial
  rcases S with _ | ⟨v2, S⟩
  · exact trivial
  rcases v2 with x2 | x2 | x2 | x2
  rotate_left
  · exact trivial
  · exact trivial
  · exact trivial
  exact fun r k H locs ls hP hS hl hG hv hL => lv_iadd hx hb hdg (k H locs ls hP hS hl hG ⟨trivial, hv.2.2⟩ hL)
theorem zx_isub (X : zCx dC dI cI cZ cS ad adV A p R s m args meth c d own ret nL cc)  (hdg : decode cc pc = .ok (.isub, 1)) : zGd pcs pc (pc + 1) (zP dC dI cI cZ cS ad adV A p l e R s m args below meth c nL) L S I G (zex (61, 0, 0, 0) L S I G) := by
  obtain ⟨hx, hb, hml, hown, hts, hlk, hrt, hK, hSt, hAp, hR⟩ := X
  rcases S with _ | ⟨v1, S⟩
  · exact trivial
  rcases v1 with x1 | x1 | x1 | x1
  rotate_left
  · exact trivial
  · exact trivial
  · exact trivial
  rcases S with _ | ⟨v2, S⟩
  · exact trivial
  rcases v2 with x2 | x2 | x2 | x2
  rotate_left
  · exact trivial
  · exact trivial
  · exact trivial
  exact fun r k H locs ls hP hS hl hG hv hL => lv_isub hx hb hdg (k H locs ls hP hS hl hG ⟨trivial, hv.2.2⟩ hL)
theorem zx_imul (X : zCx dC dI cI cZ cS ad adV A p R s m args meth c d own ret nL cc)  (hdg : decode cc pc = .ok (.imul, 1)) : zGd pcs pc (pc + 1) (zP dC dI cI cZ cS ad adV A p l e R s m args below meth c nL) L S I G (zex (62, 0, 0, 0) L S I G) := by
  obtain ⟨hx, hb, hml, hown, hts, hlk, hrt, hK, hSt, hAp, hR⟩ := X
  rcases S with _ | ⟨v1, S⟩
  · exact trivial
  rcases v1 with x1 | x1 | x1 | x1
  rotate_left
  · exact trivial
  · exact trivial
  · exact trivial
  rcases S with _ | ⟨v2, S⟩
  · exact trivial
  rcases v2 with x2 | x2 | x2 | x2
  rotate_left
  · exact trivial
  · exact trivial
  · exact trivial
  exact fun r k H locs ls hP hS hl hG hv hL => lv_imul hx hb hdg (k H locs ls hP hS hl hG ⟨trivial, hv.2.2⟩ hL)
theorem zx_iand (X : zCx dC dI cI cZ cS ad adV A p R s m args meth c d own ret nL cc)  (hdg : decode cc pc = .ok (.iand, 1)) : zGd pcs pc (pc + 1) (zP dC dI cI cZ cS ad adV A p l e R s m args below meth c nL) L S I G (zex (63, 0, 0, 0) L S I G) := by
  obtain ⟨hx, hb, hml, hown, hts, hlk, hrt, hK, hSt, hAp, hR⟩ := X
  rcases S with _ | ⟨v1, S⟩
  · exact trivial
  rcases v1 with x1 | x1 | x1 | x1
  rotate_left
  · exact trivial
  · exact trivial
  · exact trivial
  rcases S with _ | ⟨v2, S⟩
  · exact trivial
  rcases v2 with x2 | x2 | x2 | x2
  rotate_left
  · exact trivial
  · exact trivial
  · exact trivial
  exact fun r k H locs ls hP hS hl hG hv hL => lv_iand hx hb hdg (k H locs ls hP hS hl hG ⟨trivial, hv.2.2⟩ hL)
theorem zx_ior (X : zCx dC dI cI cZ cS ad adV A p R s m args meth c d own ret nL cc)  (hdg : decode cc pc = .ok (.ior, 1)) : zGd pcs pc (pc + 1) (zP dC dI cI cZ cS ad adV A p l e R s m args below meth c nL) L S I G (zex (64, 0, 0, 0) L S I G) := by
  obtain ⟨hx, hb, hml, hown, hts, hlk, hrt, hK, hSt, hAp, hR⟩ := X
  rcases S with _ | ⟨v1, S⟩
  · exact trivial
  rcases v1 with x1 | x1 | x1 | x1
  rotate_left
  · exact trivial
  · exact trivial
  · exact trivial
  rcases S with _ | ⟨v2, S⟩
  · exact trivial
  rcases v2 with x2 | x2 | x2 | x2
  rotate_left
  · exact trivial
  · exact trivial
  · exact trivial
  exact fun r k H locs ls hP hS hl hG hv hL => lv_ior hx hb hdg (k H locs ls hP hS hl hG ⟨trivial, hv.2.2⟩ hL)
theorem zx_ixor (X : zCx dC dI cI cZ cS ad adV A p R s m args meth c d own ret nL cc)  (hdg : decode cc pc = .ok (.ixor, 1)) : zGd pcs pc (pc + 1) (zP dC dI cI cZ cS ad adV A p l e R s m args below meth c nL) L S I G (zex (65, 0, 0, 0) L S I G) := by
  obtain ⟨hx, hb, hml, hown, hts, hlk, hrt, hK, hSt, hAp, hR⟩ := X
  rcases S with _ | ⟨v1, S⟩
  · exact trivial
  rcases v1 with x1 | x1 | x1 | x1
  rotate_left
  · exact trivial
  · exact trivial
  · exact trivial
  rcases S with _ | ⟨v2, S⟩
  · exact trivial
  rcases v2 with x2 | x2 | x2 | x2
  rotate_left
  · exact trivial
  · exact trivial
  · exact trivial
  exact fun r k H locs ls hP hS hl hG hv hL => lv_ixor hx hb hdg (k H locs ls hP hS hl hG ⟨trivial, hv.2.2⟩ hL)
theorem zx_ishl (X : zCx dC dI cI cZ cS ad adV A p R s m args meth c d own ret nL cc)  (hdg : decode cc pc = .ok (.ishl, 1)) : zGd pcs pc (pc + 1) (zP dC dI cI cZ cS ad adV A p l e R s m args below meth c nL) L S I G (zex (66, 0, 0, 0) L S I G) := by
  obtain ⟨hx, hb, hml, hown, hts, hlk, hrt, hK, hSt, hAp, hR⟩ := X
  rcases S with _ | ⟨v1, S⟩
  · exact trivial
  rcases v1 with x1 | x1 | x1 | x1
  rotate_left
  · exact trivial
  · exact trivial
  · exact trivial
  rcases S with _ | ⟨v2, S⟩
  · exact trivial
  rcases v2 with x2 | x2 | x2 | x2
  rotate_left
  · exact trivial
  · exact trivial
  · exact trivial
  exact fun r k H locs ls hP hS hl hG hv hL => lv_ishl hx hb hdg (k H locs ls hP hS hl hG ⟨trivial, hv.2.2⟩ hL)
theorem zx_ishr (X : zCx dC dI cI cZ cS ad adV A p R s m args meth c d own ret nL cc)  (hdg : decode cc pc = .ok (.ishr, 1)) : zGd pcs pc (pc + 1) (zP dC dI cI cZ cS ad adV A p l e R s m args below meth c nL) L S I G (zex (67, 0, 0, 0) L S I G) := by
  obtain ⟨hx, hb, hml, hown, hts, hlk, hrt, hK, hSt, hAp, hR⟩ := X
  rcases S with _ | ⟨v1, S⟩
  · exact trivial
  rcases v1 with x1 | x1 | x1 | x1
  rotate_left
  · exact trivial
  · exact trivial
  · exact trivial
  rcases S with _ | ⟨v2, S⟩
  · exact trivial
  rcases v2 with x2 | x2 | x2 | x2
  rotate_left
  · exact trivial
  · exact trivial
  · exact trivial
  exact fun r k H locs ls hP hS hl hG hv hL => lv_ishr hx hb hdg (k H locs ls hP hS hl hG ⟨trivial, hv.2.2⟩ hL)
theorem zx_idiv (X : zCx dC dI cI cZ cS ad adV A p R s m args meth c d own ret nL cc)  (hdg : decode cc pc = .ok (.idiv, 1)) : zGd pcs pc (pc + 1) (zP dC dI cI cZ cS ad adV A p l e R s m args below meth c nL) L S I G (zex (6, 0, 0, 0) L S I G) := by
  obtain ⟨hx, hb, hml, hown, hts, hlk, hrt, hK, hSt, hAp, hR⟩ := X
  rcases S with _ | ⟨v1, S⟩
  · exact trivial
  rcases v1 with x1 | x1 | x1 | x1
  rotate_left
  · exact trivial
  · exact trivial
  · exact trivial
  rcases S with _ | ⟨v2, S⟩
  · exact trivial
  rcases v2 with x2 | x2 | x2 | x2
  rotate_left
  · exact trivial
  · exact trivial
  · exact trivial
  by_cases h0 : x1 = 0
  · show zGd _ _ _ _ _ _ _ _ (if ¬ x1 = 0 then _ else _)
    rw [if_neg (fun q => q h0)]
    exact trivial
  · show zGd _ _ _ _ _ _ _ _ (if ¬ x1 = 0 then _ else _)
    rw [if_pos h0]
    exact fun r k H locs ls hP hS hl hG hv hL => lv_idiv hx hb hdg h0 (k H locs ls hP hS hl hG ⟨trivial, hv.2.2⟩ hL)
theorem zx_irem (X : zCx dC dI cI cZ cS ad adV A p R s m args meth c d own ret nL cc)  (hdg : decode cc pc = .ok (.irem, 1)) : zGd pcs pc (pc + 1) (zP dC dI cI cZ cS ad adV A p l e R s m args below meth c nL) L S I G (zex (7, 0, 0, 0) L S I G) := by
  obtain ⟨hx, hb, hml, hown, hts, hlk, hrt, hK, hSt, hAp, hR⟩ := X
  rcases S with _ | ⟨v1, S⟩
  · exact trivial
  rcases v1 with x1 | x1 | x1 | x1
  rotate_left
  · exact trivial
  · exact trivial
  · exact trivial
  rcases S with _ | ⟨v2, S⟩
  · exact trivial
  rcases v2 with x2 | x2 | x2 | x2
  rotate_left
  · exact trivial
  · exact trivial
  · exact trivial
  by_cases h0 : x1 = 0
  · show zGd _ _ _ _ _ _ _ _ (if ¬ x1 = 0 then _ else _)
    rw [if_neg (fun q => q h0)]
    exact trivial
  · show zGd _ _ _ _ _ _ _ _ (if ¬ x1 = 0 then _ else _)
    rw [if_pos h0]
    exact fun r k H locs ls hP hS hl hG hv hL => lv_irem hx hb hdg h0 (k H locs ls hP hS hl hG ⟨trivial, hv.2.2⟩ hL)
theorem zx_ldiv (X : zCx dC dI cI cZ cS ad adV A p R s m args meth c d own ret nL cc)  (hdg : decode cc pc = .ok (.ldiv, 1)) : zGd pcs pc (pc + 1) (zP dC dI cI cZ cS ad adV A p l e R s m args below meth c nL) L S I G (zex (36, 0, 0, 0) L S I G) := by
  obtain ⟨hx, hb, hml, hown, hts, hlk, hrt, hK, hSt, hAp, hR⟩ := X
  rcases S with _ | ⟨v1, S⟩
  · exact trivial
  rcases v1 with x1 | x1 | x1 | x1
  · exact trivial
  rotate_left
  · exact trivial
  · exact trivial
  rcases S with _ | ⟨v2, S⟩
  · exact trivial
  rcases v2 with x2 | x2 | x2 | x2
  · exact trivial
  rotate_left
  · exact trivial
  · exact trivial
  by_cases h0 : x1 = 0
  · show zGd _ _ _ _ _ _ _ _ (if ¬ x1 = 0 then _ else _)
    rw [if_neg (fun q => q h0)]
    exact trivial
  · show zGd _ _ _ _ _ _ _ _ (if ¬ x1 = 0 then _ else _)
    rw [if_pos h0]
    exact fun r k H locs ls hP hS hl hG hv hL => lv_ldiv hx hb hdg h0 (k H locs ls hP hS hl hG ⟨trivial, hv.2.2⟩ hL)
theorem zx_lrem (X : zCx dC dI cI cZ cS ad adV A p R s m args meth c d own ret nL cc)  (hdg : decode cc pc = .ok (.lrem, 1)) : zGd pcs pc (pc + 1) (zP dC dI cI cZ cS ad adV A p l e R s m args below meth c nL) L S I G (zex (35, 0, 0, 0) L S I G) := by
  obtain ⟨hx, hb, hml, hown, hts, hlk, hrt, hK, hSt, hAp, hR⟩ := X
  rcases S with _ | ⟨v1, S⟩
  · exact trivial
  rcases v1 with x1 | x1 | x1 | x1
  · exact trivial
  rotate_left
  · exact trivial
  · exact trivial
  rcases S with _ | ⟨v2, S⟩
  · exact trivial
  rcases v2 with x2 | x2 | x2 | x2
  · exact trivial
  rotate_left
  · exact trivial
  · exact trivial
  by_cases h0 : x1 = 0
  · show zGd _ _ _ _ _ _ _ _ (if ¬ x1 = 0 then _ else _)
    rw [if_neg (fun q => q h0)]
    exact trivial
  · show zGd _ _ _ _ _ _ _ _ (if ¬ x1 = 0 then _ else _)
    rw [if_pos h0]
    exact fun r k H locs ls hP hS hl hG hv hL => lv_lrem hx hb hdg h0 (k H locs ls hP hS hl hG ⟨trivial, hv.2.2⟩ hL)
theorem zx_ineg (X : zCx dC dI cI cZ cS ad adV A p R s m args meth c d own ret nL cc)  (hdg : decode cc pc = .ok (.ineg, 1)) : zGd pcs pc (pc + 1) (zP dC dI cI cZ cS ad adV A p l e R s m args below meth c nL) L S I G (zex (8, 0, 0, 0) L S I G) := by
  obtain ⟨hx, hb, hml, hown, hts, hlk, hrt, hK, hSt, hAp, hR⟩ := X
  rcases S with _ | ⟨v1, S⟩
  · exact trivial
  rcases v1 with x1 | x1 | x1 | x1
  rotate_left
  · exact trivial
  · exact trivial
  · exact trivial
  exact fun r k H locs ls hP hS hl hG hv hL => lv_ineg hx hb hdg (k H locs ls hP hS hl hG ⟨trivial, hv.2⟩ hL)
theorem zx_ladd (X : zCx dC dI cI cZ cS ad adV A p R s m args meth c d own ret nL cc)  (hdg : decode cc pc = .ok (.ladd, 1)) : zGd pcs pc (pc + 1) (zP dC dI cI cZ cS ad adV A p l e R s m args below meth c nL) L S I G (zex (34, 0, 0, 0) L S I G) := by
  obtain ⟨hx, hb, hml, hown, hts, hlk, hrt, hK, hSt, hAp, hR⟩ := X
  rcases S with _ | ⟨v1, S⟩
  · exact trivial
  rcases v1 with x1 | x1 | x1 | x1
  · exact trivial
  rotate_left
  · exact trivial
  · exact trivial
  rcases S with _ | ⟨v2, S⟩
  · exact trivial
  rcases v2 with x2 | x2 | x2 | x2
  · exact trivial
  rotate_left
  · exact trivial
  · exact trivial
  exact fun r k H locs ls hP hS hl hG hv hL => lv_ladd hx hb hdg (k H locs ls hP hS hl hG ⟨trivial, hv.2.2⟩ hL)
theorem zx_lcmp (X : zCx dC dI cI cZ cS ad adV A p R s m args meth c d own ret nL cc)  (hdg : decode cc pc = .ok (.lcmp, 1)) : zGd pcs pc (pc + 1) (zP dC dI cI cZ cS ad adV A p l e R s m args below meth c nL) L S I G (zex (37, 0, 0, 0) L S I G) := by
  obtain ⟨hx, hb, hml, hown, hts, hlk, hrt, hK, hSt, hAp, hR⟩ := X
  rcases S with _ | ⟨v1, S⟩
  · exact trivial
  rcases v1 with x1 | x1 | x1 | x1
  · exact trivial
  rotate_left
  · exact trivial
  · exact trivial
  rcases S with _ | ⟨v2, S⟩
  · exact trivial
  rcases v2 with x2 | x2 | x2 | x2
  · exact trivial
  rotate_left
  · exact trivial
  · exact trivial
  exact fun r k H locs ls hP hS hl hG hv hL => W.lcmp hx hb hdg (k H locs ls hP hS hl hG ⟨trivial, hv.2.2⟩ hL)
theorem zx_i2l (X : zCx dC dI cI cZ cS ad adV A p R s m args meth c d own ret nL cc)  (hdg : decode cc pc = .ok (.i2l, 1)) : zGd pcs pc (pc + 1) (zP dC dI cI cZ cS ad adV A p l e R s m args below meth c nL) L S I G (zex (33, 0, 0, 0) L S I G) := by
  obtain ⟨hx, hb, hml, hown, hts, hlk, hrt, hK, hSt, hAp, hR⟩ := X
  rcases S with _ | ⟨v1, S⟩
  · exact trivial
  rcases v1 with x1 | x1 | x1 | x1
  rotate_left
  · exact trivial
  · exact trivial
  · exact trivial
  exact fun r k H locs ls hP hS hl hG hv hL => lv_i2l hx hb hdg rfl (k H locs ls hP hS hl hG ⟨trivial, hv.2⟩ hL)
theorem zx_iconst (X : zCx dC dI cI cZ cS ad adV A p R s m args meth c d own ret nL cc) {n : Int} (hdg : decode cc pc = .ok (.iconst n, 1)) : zGd pcs pc (pc + 1) (zP dC dI cI cZ cS ad adV A p l e R s m args below meth c nL) L S I G (zex (3, 0, 0, Int32.ofInt n) L S I G) := by
  obtain ⟨hx, hb, hml, hown, hts, hlk, hrt, hK, hSt, hAp, hR⟩ := X
  exact fun r k H locs ls hP hS hl hG hv hL => lv_iconst hx hb hdg rfl (k H locs ls hP hS hl hG ⟨trivial, hv⟩ hL)
theorem zx_bipush (X : zCx dC dI cI cZ cS ad adV A p R s m args meth c d own ret nL cc) {n : Int} (hdg : decode cc pc = .ok (.bipush n, 2)) : zGd pcs pc (pc + 2) (zP dC dI cI cZ cS ad adV A p l e R s m args below meth c nL) L S I G (zex (3, 0, 0, (Int8.ofInt n).toInt32) L S I G) := by
  obtain ⟨hx, hb, hml, hown, hts, hlk, hrt, hK, hSt, hAp, hR⟩ := X
  exact fun r k H locs ls hP hS hl hG hv hL => lv_bipush hx hb hdg rfl (k H locs ls hP hS hl hG ⟨trivial, hv⟩ hL)
theorem zx_sipush (X : zCx dC dI cI cZ cS ad adV A p R s m args meth c d own ret nL cc) {n : Int} (hdg : decode cc pc = .ok (.sipush n, 3)) : zGd pcs pc (pc + 3) (zP dC dI cI cZ cS ad adV A p l e R s m args below meth c nL) L S I G (zex (3, 0, 0, (Int16.ofInt n).toInt32) L S I G) := by
  obtain ⟨hx, hb, hml, hown, hts, hlk, hrt, hK, hSt, hAp, hR⟩ := X
  exact fun r k H locs ls hP hS hl hG hv hL => lv_sipush hx hb hdg rfl (k H locs ls hP hS hl hG ⟨trivial, hv⟩ hL)
theorem zx_lconst (X : zCx dC dI cI cZ cS ad adV A p R s m args meth c d own ret nL cc) {n : Fin 2} (hdg : decode cc pc = .ok (.lconst n, 1)) : zGd pcs pc (pc + 1) (zP dC dI cI cZ cS ad adV A p l e R s m args below meth c nL) L S I G (zex (32, 0, 0, Int32.ofNat n.val) L S I G) := by
  obtain ⟨hx, hb, hml, hown, hts, hlk, hrt, hK, hSt, hAp, hR⟩ := X
  exact fun r k H locs ls hP hS hl hG hv hL => lv_lconst hx hb hdg (by rcases n with ⟨_ | _ | n, hn⟩ <;> first | rfl | exact absurd hn (by omega)) (k H locs ls hP hS hl hG ⟨trivial, hv⟩ hL)
theorem zx_iload (X : zCx dC dI cI cZ cS ad adV A p R s m args meth c d own ret nL cc) {k : Nat} (hdg : decode cc pc = .ok (.iload k, 2)) : zGd pcs pc (pc + 2) (zP dC dI cI cZ cS ad adV A p l e R s m args below meth c nL) L S I G (zex (0, k, 0, 0) L S I G) := by
  obtain ⟨hx, hb, hml, hown, hts, hlk, hrt, hK, hSt, hAp, hR⟩ := X
  cases hk : zgl L k with
  | none =>
    show zGd _ _ _ _ _ _ _ _ (match zgl L k with | some (.inl x) => zeN (L, zi x :: S, I, G) | _ => zeF)
    rw [hk]
    exact trivial
  | some v =>
    show zGd _ _ _ _ _ _ _ _ (match zgl L k with | some (.inl x) => zeN (L, zi x :: S, I, G) | _ => zeF)
    rw [hk]
    rcases v with x | x | x | q
    · exact fun r kk H locs ls hP hS hl hG hv hL => lv_iload hx hb hdg (hl.get hk) (kk H locs ls hP hS hl hG ⟨trivial, hv⟩ hL)
    · exact trivial
    · exact trivial
    · exact trivial
theorem zx_iload_n (X : zCx dC dI cI cZ cS ad adV A p R s m args meth c d own ret nL cc) {k : Fin 4} (hdg : decode cc pc = .ok (.iload_n k, 1)) : zGd pcs pc (pc + 1) (zP dC dI cI cZ cS ad adV A p l e R s m args below meth c nL) L S I G (zex (0, k.val, 0, 0) L S I G) := by
  obtain ⟨hx, hb, hml, hown, hts, hlk, hrt, hK, hSt, hAp, hR⟩ := X
  cases hk : zgl L k.val with
  | none =>
    show zGd _ _ _ _ _ _ _ _ (match zgl L k.val with | some (.inl x) => zeN (L, zi x :: S, I, G) | _ => zeF)
    rw [hk]
    exact trivial
  | some v =>
    show zGd _ _ _ _ _ _ _ _ (match zgl L k.val with | some (.inl x) => zeN (L, zi x :: S, I, G) | _ => zeF)
    rw [hk]
    rcases v with x | x | x | q
    · exact fun r kk H locs ls hP hS hl hG hv hL => lv_iload_n hx hb hdg rfl (hl.get hk) (kk H locs ls hP hS hl hG ⟨trivial, hv⟩ hL)
    · exact trivial
    · exact trivial
    · exact trivial
theorem zx_lload (X : zCx dC dI cI cZ cS ad adV A p R s m args meth c d own ret nL cc) {k : Nat} (hdg : decode cc pc = .ok (.lload k, 2)) : zGd pcs pc (pc + 2) (zP dC dI cI cZ cS ad adV A p l e R s m args below meth c nL) L S I G (zex (56, k, 0, 0) L S I G) := by
  obtain ⟨hx, hb, hml, hown, hts, hlk, hrt, hK, hSt, hAp, hR⟩ := X
  cases hk : zgl L k with
  | none =>
    show zGd _ _ _ _ _ _ _ _ (match zgl L k with | some (.inr (.inl x)) => zeN (L, zl x :: S, I, G) | _ => zeF)
    rw [hk]
    exact trivial
  | some v =>
    show zGd _ _ _ _ _ _ _ _ (match zgl L k with | some (.inr (.inl x)) => zeN (L, zl x :: S, I, G) | _ => zeF)
    rw [hk]
    rcases v with x | x | x | q
    · exact trivial
    · exact fun r kk H locs ls hP hS hl hG hv hL => lv_lload hx hb hdg (hl.get hk) (kk H locs ls hP hS hl hG ⟨trivial, hv⟩ hL)
    · exact trivial
    · exact trivial
theorem zx_lload_n (X : zCx dC dI cI cZ cS ad adV A p R s m args meth c d own ret nL cc) {k : Fin 4} (hdg : decode cc pc = .ok (.lload_n k, 1)) : zGd pcs pc (pc + 1) (zP dC dI cI cZ cS ad adV A p l e R s m args below meth c nL) L S I G (zex (56, k.val, 0, 0) L S I G) := by
  obtain ⟨hx, hb, hml, hown, hts, hlk, hrt, hK, hSt, hAp, hR⟩ := X
  cases hk : zgl L k.val with
  | none =>
    show zGd _ _ _ _ _ _ _ _ (match zgl L k.val with | some (.inr (.inl x)) => zeN (L, zl x :: S, I, G) | _ => zeF)
    rw [hk]
    exact trivial
  | some v =>
    show zGd _ _ _ _ _ _ _ _ (match zgl L k.val with | some (.inr (.inl x)) => zeN (L, zl x :: S, I, G) | _ => zeF)
    rw [hk]
    rcases v with x | x | x | q
    · exact trivial
    · exact fun r kk H locs ls hP hS hl hG hv hL => lv_lload_n hx hb hdg rfl (hl.get hk) (kk H locs ls hP hS hl hG ⟨trivial, hv⟩ hL)
    · exact trivial
    · exact trivial
theorem zx_aload (X : zCx dC dI cI cZ cS ad adV A p R s m args meth c d own ret nL cc) {k : Nat} (hdg : decode cc pc = .ok (.aload k, 2)) : zGd pcs pc (pc + 2) (zP dC dI cI cZ cS ad adV A p l e R s m args below meth c nL) L S I G (zex (55, k, 0, 0) L S I G) := by
  obtain ⟨hx, hb, hml, hown, hts, hlk, hrt, hK, hSt, hAp, hR⟩ := X
  cases hk : zgl L k with
  | none =>
    show zGd _ _ _ _ _ _ _ _ (match zgl L k with | some (.inr (.inr (some p))) => zeN (L, .inr (.inr (some p)) :: S, I, G) | _ => zeF)
    rw [hk]
    exact trivial
  | some v =>
    show zGd _ _ _ _ _ _ _ _ (match zgl L k with | some (.inr (.inr (some p))) => zeN (L, .inr (.inr (some p)) :: S, I, G) | _ => zeF)
    rw [hk]
    rcases v with x | x | x | q
    · exact trivial
    · exact trivial
    · exact trivial
    · exact fun r kk H locs ls hP hS hl hG hv hL => lv_aload hx hb hdg (hl.get hk) (kk H locs ls hP hS hl hG ⟨hL _ _ hk, hv⟩ hL)
theorem zx_aload_n (X : zCx dC dI cI cZ cS ad adV A p R s m args meth c d own ret nL cc) {k : Fin 4} (hdg : decode cc pc = .ok (.aload_n k, 1)) : zGd pcs pc (pc + 1) (zP dC dI cI cZ cS ad adV A p l e R s m args below meth c nL) L S I G (zex (55, k.val, 0, 0) L S I G) := by
  obtain ⟨hx, hb, hml, hown, hts, hlk, hrt, hK, hSt, hAp, hR⟩ := X
  cases hk : zgl L k.val with
  | none =>
    show zGd _ _ _ _ _ _ _ _ (match zgl L k.val with | some (.inr (.inr (some p))) => zeN (L, .inr (.inr (some p)) :: S, I, G) | _ => zeF)
    rw [hk]
    exact trivial
  | some v =>
    show zGd _ _ _ _ _ _ _ _ (match zgl L k.val with | some (.inr (.inr (some p))) => zeN (L, .inr (.inr (some p)) :: S, I, G) | _ => zeF)
    rw [hk]
    rcases v with x | x | x | q
    · exact trivial
    · exact trivial
    · exact trivial
    · exact fun r kk H locs ls hP hS hl hG hv hL => lv_aload_n hx hb hdg rfl (hl.get hk) (kk H locs ls hP hS hl hG ⟨hL _ _ hk, hv⟩ hL)
theorem zx_istore (X : zCx dC dI cI cZ cS ad adV A p R s m args meth c d own ret nL cc) {k : Nat} (hdg : decode cc pc = .ok (.istore k, 2)) : zGd pcs pc (pc + 2) (zP dC dI cI cZ cS ad adV A p l e R s m args below meth c nL) L S I G (zex (1, k, 0, 0) L S I G) := by
  obtain ⟨hx, hb, hml, hown, hts, hlk, hrt, hK, hSt, hAp, hR⟩ := X
  rcases S with _ | ⟨v1, S⟩
  · exact trivial
  rcases v1 with x1 | x1 | x1 | x1
  rotate_left
  · exact trivial
  · exact trivial
  · exact trivial
  cases hk : zs1 L k (zi x1) with
  | none =>
    show zGd _ _ _ _ _ _ _ _ (match zs1 L k (zi x1) with | some L' => zeN (L', S, I, G) | none => zeF)
    rw [hk]
    exact trivial
  | some L' =>
    show zGd _ _ _ _ _ _ _ _ (match zs1 L k (zi x1) with | some L' => zeN (L', S, I, G) | none => zeF)
    rw [hk]
    exact fun r kk H locs ls hP hS hl hG hv hL => lv_istore hx hb hdg hl.2 (by have := (zs1_ok _ _ _ _ hk).1; have := hl.1; omega) rfl (fun ls' hl' => kk H locs ls' hP hS (zLH.put1 (k := k) (v := (zi x1)) hl.1 hk ls' hl') hG hv.2 (hL.put1 hv.1 hk))
theorem zx_istore_n (X : zCx dC dI cI cZ cS ad adV A p R s m args meth c d own ret nL cc) {k : Fin 4} (hdg : decode cc pc = .ok (.istore_n k, 1)) : zGd pcs pc (pc + 1) (zP dC dI cI cZ cS ad adV A p l e R s m args below meth c nL) L S I G (zex (1, k.val, 0, 0) L S I G) := by
  obtain ⟨hx, hb, hml, hown, hts, hlk, hrt, hK, hSt, hAp, hR⟩ := X
  rcases S with _ | ⟨v1, S⟩
  · exact trivial
  rcases v1 with x1 | x1 | x1 | x1
  rotate_left
  · exact trivial
  · exact trivial
  · exact trivial
  cases hk : zs1 L k.val (zi x1) with
  | none =>
    show zGd _ _ _ _ _ _ _ _ (match zs1 L k.val (zi x1) with | some L' => zeN (L', S, I, G) | none => zeF)
    rw [hk]
    exact trivial
  | some L' =>
    show zGd _ _ _ _ _ _ _ _ (match zs1 L k.val (zi x1) with | some L' => zeN (L', S, I, G) | none => zeF)
    rw [hk]
    exact fun r kk H locs ls hP hS hl hG hv hL => lv_istore_n hx hb hdg rfl hl.2 (by have := (zs1_ok _ _ _ _ hk).1; have := hl.1; omega) rfl (fun ls' hl' => kk H locs ls' hP hS (zLH.put1 (k := k.val) (v := (zi x1)) hl.1 hk ls' hl') hG hv.2 (hL.put1 hv.1 hk))
theorem zx_astore (X : zCx dC dI cI cZ cS ad adV A p R s m args meth c d own ret nL cc) {k : Nat} (hdg : decode cc pc = .ok (.astore k, 2)) : zGd pcs pc (pc + 2) (zP dC dI cI cZ cS ad adV A p l e R s m args below meth c nL) L S I G (zex (57, k, 0, 0) L S I G) := by
  obtain ⟨hx, hb, hml, hown, hts, hlk, hrt, hK, hSt, hAp, hR⟩ := X
  rcases S with _ | ⟨v1, S⟩
  · exact trivial
  rcases v1 with x1 | x1 | x1 | ⟨c1, j1⟩
  · exact trivial
  · exact trivial
  · exact trivial
  cases hk : zs1 L k (zr c1 j1) with
  | none =>
    show zGd _ _ _ _ _ _ _ _ (match zs1 L k (zr c1 j1) with | some L' => zeN (L', S, I, G) | none => zeF)
    rw [hk]
    exact trivial
  | some L' =>
    show zGd _ _ _ _ _ _ _ _ (match zs1 L k (zr c1 j1) with | some L' => zeN (L', S, I, G) | none => zeF)
    rw [hk]
    exact fun r kk H locs ls hP hS hl hG hv hL => lv_astore hx hb hdg hl.2 (by have := (zs1_ok _ _ _ _ hk).1; have := hl.1; omega) rfl (fun ls' hl' => kk H locs ls' hP hS (zLH.put1 (k := k) (v := (zr c1 j1)) hl.1 hk ls' hl') hG hv.2 (hL.put1 hv.1 hk))
theorem zx_astore_n (X : zCx dC dI cI cZ cS ad adV A p R s m args meth c d own ret nL cc) {k : Fin 4} (hdg : decode cc pc = .ok (.astore_n k, 1)) : zGd pcs pc (pc + 1) (zP dC dI cI cZ cS ad adV A p l e R s m args below meth c nL) L S I G (zex (57, k.val, 0, 0) L S I G) := by
  obtain ⟨hx, hb, hml, hown, hts, hlk, hrt, hK, hSt, hAp, hR⟩ := X
  rcases S with _ | ⟨v1, S⟩
  · exact trivial
  rcases v1 with x1 | x1 | x1 | ⟨c1, j1⟩
  · exact trivial
  · exact trivial
  · exact trivial
  cases hk : zs1 L k.val (zr c1 j1) with
  | none =>
    show zGd _ _ _ _ _ _ _ _ (match zs1 L k.val (zr c1 j1) with | some L' => zeN (L', S, I, G) | none => zeF)
    rw [hk]
    exact trivial
  | some L' =>
    show zGd _ _ _ _ _ _ _ _ (match zs1 L k.val (zr c1 j1) with | some L' => zeN (L', S, I, G) | none => zeF)
    rw [hk]
    exact fun r kk H locs ls hP hS hl hG hv hL => lv_astore_n hx hb hdg rfl hl.2 (by have := (zs1_ok _ _ _ _ hk).1; have := hl.1; omega) rfl (fun ls' hl' => kk H locs ls' hP hS (zLH.put1 (k := k.val) (v := (zr c1 j1)) hl.1 hk ls' hl') hG hv.2 (hL.put1 hv.1 hk))
theorem zx_lstore (X : zCx dC dI cI cZ cS ad adV A p R s m args meth c d own ret nL cc) {k : Nat} (hdg : decode cc pc = .ok (.lstore k, 2)) : zGd pcs pc (pc + 2) (zP dC dI cI cZ cS ad adV A p l e R s m args below meth c nL) L S I G (zex (2, k, 0, 0) L S I G) := by
  obtain ⟨hx, hb, hml, hown, hts, hlk, hrt, hK, hSt, hAp, hR⟩ := X
  rcases S with _ | ⟨v1, S⟩
  · exact trivial
  rcases v1 with x1 | x1 | x1 | x1
  · exact trivial
  rotate_left
  · exact trivial
  · exact trivial
  cases hk : zs2 L k (zl x1) with
  | none =>
    show zGd _ _ _ _ _ _ _ _ (match zs2 L k (zl x1) with | some L' => zeN (L', S, I, G) | none => zeF)
    rw [hk]
    exact trivial
  | some L' =>
    show zGd _ _ _ _ _ _ _ _ (match zs2 L k (zl x1) with | some L' => zeN (L', S, I, G) | none => zeF)
    rw [hk]
    exact fun r kk H locs ls hP hS hl hG hv hL => lv_lstore hx hb hdg hl.2 (by have := (zs2_ok _ _ _ _ hk).1; have := hl.1; omega) rfl (fun ls' hl' => kk H locs ls' hP hS (zLH.put2 (k := k) (v := (zl x1)) hl.1 hk ls' hl') hG hv.2 (hL.put2 hv.1 hk))
theorem zx_lstore_n (X : zCx dC dI cI cZ cS ad adV A p R s m args meth c d own ret nL cc) {k : Fin 4} (hdg : decode cc pc = .ok (.lstore_n k, 1)) : zGd pcs pc (pc + 1) (zP dC dI cI cZ cS ad adV A p l e R s m args below meth c nL) L S I G (zex (2, k.val, 0, 0) L S I G) := by
  obtain ⟨hx, hb, hml, hown, hts, hlk, hrt, hK, hSt, hAp, hR⟩ := X
  rcases S with _ | ⟨v1, S⟩
  · exact trivial
  rcases v1 with x1 | x1 | x1 | x1
  · exact trivial
  rotate_left
  · exact trivial
  · exact trivial
  cases hk : zs2 L k.val (zl x1) with
  | none =>
    show zGd _ _ _ _ _ _ _ _ (match zs2 L k.val (zl x1) with | some L' => zeN (L', S, I, G) | none => zeF)
    rw [hk]
    exact trivial
  | some L' =>
    show zGd _ _ _ _ _ _ _ _ (match zs2 L k.val (zl x1) with | some L' => zeN (L', S, I, G) | none => zeF)
    rw [hk]
    exact fun r kk H locs ls hP hS hl hG hv hL => lv_lstore_n hx hb hdg rfl hl.2 (by have := (zs2_ok _ _ _ _ hk).1; have := hl.1; omega) rfl (fun ls' hl' => kk H locs ls' hP hS (zLH.put2 (k := k.val) (v := (zl x1)) hl.1 hk ls' hl') hG hv.2 (hL.put2 hv.1 hk))
theorem zx_iinc (X : zCx dC dI cI cZ cS ad adV A p R s m args meth c d own ret nL cc) {k : Nat} {n : Int} (hdg : decode cc pc = .ok (.iinc k n, 3)) : zGd pcs pc (pc + 3) (zP dC dI cI cZ cS ad adV A p l e R s m args below meth c nL) L S I G (zex (4, k, 0, Int32.ofInt n) L S I G) := by
  obtain ⟨hx, hb, hml, hown, hts, hlk, hrt, hK, hSt, hAp, hR⟩ := X
  cases hg : zgl L k with
  | none =>
    show zGd _ _ _ _ _ _ _ _ (match zgl L k with | some (.inl x) => (match zs1 L k (zi (x + Int32.ofInt n)) with | some L' => zeN (L', S, I, G) | none => zeF) | _ => zeF)
    rw [hg]
    exact trivial
  | some v =>
    show zGd _ _ _ _ _ _ _ _ (match zgl L k with | some (.inl x) => (match zs1 L k (zi (x + Int32.ofInt n)) with | some L' => zeN (L', S, I, G) | none => zeF) | _ => zeF)
    rw [hg]
    rcases v with x | x | x | q
    · cases hk : zs1 L k (zi (x + Int32.ofInt n)) with
      | none =>
        show zGd _ _ _ _ _ _ _ _ (match zs1 L k (zi (x + Int32.ofInt n)) with | some L' => zeN (L', S, I, G) | none => zeF)
        rw [hk]
        exact trivial
      | some L' =>
        show zGd _ _ _ _ _ _ _ _ (match zs1 L k (zi (x + Int32.ofInt n)) with | some L' => zeN (L', S, I, G) | none => zeF)
        rw [hk]
        intro r kk H locs ls hP hS hl hG hv hL
        have hm : (k, Value.int x) ∈ zla ad L := zla_in.mpr ⟨zi x, hg, rfl⟩
        obtain ⟨q0, hq0⟩ := List.getElem?_of_mem hm
        exact lv_iinc hx hb hdg hl.2 hq0 rfl (by have := (zs1_ok _ _ _ _ hk).1; have := hl.1; omega) rfl (fun ls' hl' => kk H locs ls' hP hS (zLH.put1 (k := k) (v := zi (x + Int32.ofInt n)) hl.1 hk ls' hl') hG hv (zVl.put1 (v := zi (x + Int32.ofInt n)) hL trivial hk))
    · exact trivial
    · exact trivial
    · exact trivial
theorem zx_icmp_eq (X : zCx dC dI cI cZ cS ad adV A p R s m args meth c d own ret nL cc) {off : Int} {a : Nat} (ht : (pc : Int) + off = (zgn pcs a : Int) ∧ a < pcs.length) (hdg : decode cc pc = .ok (.if_icmp .eq off, 3)) : zGd pcs pc (pc + 3) (zP dC dI cI cZ cS ad adV A p l e R s m args below meth c nL) L S I G (zex (9, a, 0, 0) L S I G) := by
  obtain ⟨hx, hb, hml, hown, hts, hlk, hrt, hK, hSt, hAp, hR⟩ := X
  rcases S with _ | ⟨v1, S⟩
  · exact trivial
  rcases v1 with x1 | x1 | x1 | x1
  rotate_left
  · exact trivial
  · exact trivial
  · exact trivial
  rcases S with _ | ⟨v2, S⟩
  · exact trivial
  rcases v2 with x2 | x2 | x2 | x2
  rotate_left
  · exact trivial
  · exact trivial
  · exact trivial
  by_cases q : x2 = x1
  · show zGd _ _ _ _ _ _ _ _ (if x2 = x1 then _ else _)
    rw [if_pos q]
    exact ⟨ht.2, fun r k H locs ls hP hS hl hG hv hL => lv_icmp_eq hx hb hdg ht.1 (fun _ => k H locs ls hP hS hl hG hv.2.2 hL) (fun q2 => absurd q q2)⟩
  · show zGd _ _ _ _ _ _ _ _ (if x2 = x1 then _ else _)
    rw [if_neg q]
    exact fun r k H locs ls hP hS hl hG hv hL => lv_icmp_eq hx hb hdg ht.1 (fun q2 => absurd q2 q) (fun _ => k H locs ls hP hS hl hG hv.2.2 hL)
theorem zx_if_eq (X : zCx dC dI cI cZ cS ad adV A p R s m args meth c d own ret nL cc) {off : Int} {a : Nat} (ht : (pc : Int) + off = (zgn pcs a : Int) ∧ a < pcs.length) (hdg : decode cc pc = .ok (.ifCond .eq off, 3)) : zGd pcs pc (pc + 3) (zP dC dI cI cZ cS ad adV A p l e R s m args below meth c nL) L S I G (zex (10, a, 0, 0) L S I G) := by
  obtain ⟨hx, hb, hml, hown, hts, hlk, hrt, hK, hSt, hAp, hR⟩ := X
  rcases S with _ | ⟨v1, S⟩
  · exact trivial
  rcases v1 with x1 | x1 | x1 | x1
  rotate_left
  · exact trivial
  · exact trivial
  · exact trivial
  by_cases q : x1 = 0
  · show zGd _ _ _ _ _ _ _ _ (if x1 = 0 then _ else _)
    rw [if_pos q]
    exact ⟨ht.2, fun r k H locs ls hP hS hl hG hv hL => lv_if_eq hx hb hdg ht.1 (fun _ => k H locs ls hP hS hl hG hv.2 hL) (fun q2 => absurd q q2)⟩
  · show zGd _ _ _ _ _ _ _ _ (if x1 = 0 then _ else _)
    rw [if_neg q]
    exact fun r k H locs ls hP hS hl hG hv hL => lv_if_eq hx hb hdg ht.1 (fun q2 => absurd q2 q) (fun _ => k H locs ls hP hS hl hG hv.2 hL)
theorem zx_icmp_ne (X : zCx dC dI cI cZ cS ad adV A p R s m args meth c d own ret nL cc) {off : Int} {a : Nat} (ht : (pc : Int) + off = (zgn pcs a : Int) ∧ a < pcs.length) (hdg : decode cc pc = .ok (.if_icmp .ne off, 3)) : zGd pcs pc (pc + 3) (zP dC dI cI cZ cS ad adV A p l e R s m args below meth c nL) L S I G (zex (9, a, 1, 0) L S I G) := by
  obtain ⟨hx, hb, hml, hown, hts, hlk, hrt, hK, hSt, hAp, hR⟩ := X
  rcases S with _ | ⟨v1, S⟩
  · exact trivial
  rcases v1 with x1 | x1 | x1 | x1
  rotate_left
  · exact trivial
  · exact trivial
  · exact trivial
  rcases S with _ | ⟨v2, S⟩
  · exact trivial
  rcases v2 with x2 | x2 | x2 | x2
  rotate_left
  · exact trivial
  · exact trivial
  · exact trivial
  by_cases q : ¬ x2 = x1
  · show zGd _ _ _ _ _ _ _ _ (if ¬ x2 = x1 then _ else _)
    rw [if_pos q]
    exact ⟨ht.2, fun r k H locs ls hP hS hl hG hv hL => lv_icmp_ne hx hb hdg ht.1 (fun _ => k H locs ls hP hS hl hG hv.2.2 hL) (fun q2 => absurd q2 q)⟩
  · show zGd _ _ _ _ _ _ _ _ (if ¬ x2 = x1 then _ else _)
    rw [if_neg q]
    exact fun r k H locs ls hP hS hl hG hv hL => lv_icmp_ne hx hb hdg ht.1 (fun q2 => absurd q2 q) (fun _ => k H locs ls hP hS hl hG hv.2.2 hL)
theorem zx_if_ne (X : zCx dC dI cI cZ cS ad adV A p R s m args meth c d own ret nL cc) {off : Int} {a : Nat} (ht : (pc : Int) + off = (zgn pcs a : Int) ∧ a < pcs.length) (hdg : decode cc pc = .ok (.ifCond .ne off, 3)) : zGd pcs pc (pc + 3) (zP dC dI cI cZ cS ad adV A p l e R s m args below meth c nL) L S I G (zex (10, a, 1, 0) L S I G) := by
  obtain ⟨hx, hb, hml, hown, hts, hlk, hrt, hK, hSt, hAp, hR⟩ := X
  rcases S with _ | ⟨v1, S⟩
  · exact trivial
  rcases v1 with x1 | x1 | x1 | x1
  rotate_left
  · exact trivial
  · exact trivial
  · exact trivial
  by_cases q : ¬ x1 = 0
  · show zGd _ _ _ _ _ _ _ _ (if ¬ x1 = 0 then _ else _)
    rw [if_pos q]
    exact ⟨ht.2, fun r k H locs ls hP hS hl hG hv hL => lv_if_ne hx hb hdg ht.1 (fun _ => k H locs ls hP hS hl hG hv.2 hL) (fun q2 => absurd q2 q)⟩
  · show zGd _ _ _ _ _ _ _ _ (if ¬ x1 = 0 then _ else _)
    rw [if_neg q]
    exact fun r k H locs ls hP hS hl hG hv hL => lv_if_ne hx hb hdg ht.1 (fun q2 => absurd q2 q) (fun _ => k H locs ls hP hS hl hG hv.2 hL)
theorem zx_icmp_lt (X : zCx dC dI cI cZ cS ad adV A p R s m args meth c d own ret nL cc) {off : Int} {a : Nat} (ht : (pc : Int) + off = (zgn pcs a : Int) ∧ a < pcs.length) (hdg : decode cc pc = .ok (.if_icmp .lt off, 3)) : zGd pcs pc (pc + 3) (zP dC dI cI cZ cS ad adV A p l e R s m args below meth c nL) L S I G (zex (9, a, 2, 0) L S I G) := by
  obtain ⟨hx, hb, hml, hown, hts, hlk, hrt, hK, hSt, hAp, hR⟩ := X
  rcases S with _ | ⟨v1, S⟩
  · exact trivial
  rcases v1 with x1 | x1 | x1 | x1
  rotate_left
  · exact trivial
  · exact trivial
  · exact trivial
  rcases S with _ | ⟨v2, S⟩
  · exact trivial
  rcases v2 with x2 | x2 | x2 | x2
  rotate_left
  · exact trivial
  · exact trivial
  · exact trivial
  by_cases q : x2 < x1
  · show zGd _ _ _ _ _ _ _ _ (if x2 < x1 then _ else _)
    rw [if_pos q]
    exact ⟨ht.2, fun r k H locs ls hP hS hl hG hv hL => lv_icmp_lt hx hb hdg ht.1 (fun _ => k H locs ls hP hS hl hG hv.2.2 hL) (fun q2 => absurd q q2)⟩
  · show zGd _ _ _ _ _ _ _ _ (if x2 < x1 then _ else _)
    rw [if_neg q]
    exact fun r k H locs ls hP hS hl hG hv hL => lv_icmp_lt hx hb hdg ht.1 (fun q2 => absurd q2 q) (fun _ => k H locs ls hP hS hl hG hv.2.2 hL)
theorem zx_if_lt (X : zCx dC dI cI cZ cS ad adV A p R s m args meth c d own ret nL cc) {off : Int} {a : Nat} (ht : (pc : Int) + off = (zgn pcs a : Int) ∧ a < pcs.length) (hdg : decode cc pc = .ok (.ifCond .lt off, 3)) : zGd pcs pc (pc + 3) (zP dC dI cI cZ cS ad adV A p l e R s m args below meth c nL) L S I G (zex (10, a, 2, 0) L S I G) := by
  obtain ⟨hx, hb, hml, hown, hts, hlk, hrt, hK, hSt, hAp, hR⟩ := X
  rcases S with _ | ⟨v1, S⟩
  · exact trivial
  rcases v1 with x1 | x1 | x1 | x1
  rotate_left
  · exact trivial
  · exact trivial
  · exact trivial
  by_cases q : x1 < 0
  · show zGd _ _ _ _ _ _ _ _ (if x1 < 0 then _ else _)
    rw [if_pos q]
    exact ⟨ht.2, fun r k H locs ls hP hS hl hG hv hL => lv_if_lt hx hb hdg ht.1 (fun _ => k H locs ls hP hS hl hG hv.2 hL) (fun q2 => absurd q q2)⟩
  · show zGd _ _ _ _ _ _ _ _ (if x1 < 0 then _ else _)
    rw [if_neg q]
    exact fun r k H locs ls hP hS hl hG hv hL => lv_if_lt hx hb hdg ht.1 (fun q2 => absurd q2 q) (fun _ => k H locs ls hP hS hl hG hv.2 hL)
theorem zx_icmp_ge (X : zCx dC dI cI cZ cS ad adV A p R s m args meth c d own ret nL cc) {off : Int} {a : Nat} (ht : (pc : Int) + off = (zgn pcs a : Int) ∧ a < pcs.length) (hdg : decode cc pc = .ok (.if_icmp .ge off, 3)) : zGd pcs pc (pc + 3) (zP dC dI cI cZ cS ad adV A p l e R s m args below meth c nL) L S I G (zex (9, a, 3, 0) L S I G) := by
  obtain ⟨hx, hb, hml, hown, hts, hlk, hrt, hK, hSt, hAp, hR⟩ := X
  rcases S with _ | ⟨v1, S⟩
  · exact trivial
  rcases v1 with x1 | x1 | x1 | x1
  rotate_left
  · exact trivial
  · exact trivial
  · exact trivial
  rcases S with _ | ⟨v2, S⟩
  · exact trivial
  rcases v2 with x2 | x2 | x2 | x2
  rotate_left
  · exact trivial
  · exact trivial
  · exact trivial
  by_cases q : x1 ≤ x2
  · show zGd _ _ _ _ _ _ _ _ (if x1 ≤ x2 then _ else _)
    rw [if_pos q]
    exact ⟨ht.2, fun r k H locs ls hP hS hl hG hv hL => lv_icmp_ge hx hb hdg ht.1 (fun _ => k H locs ls hP hS hl hG hv.2.2 hL) (fun q2 => absurd q q2)⟩
  · show zGd _ _ _ _ _ _ _ _ (if x1 ≤ x2 then _ else _)
    rw [if_neg q]
    exact fun r k H locs ls hP hS hl hG hv hL => lv_icmp_ge hx hb hdg ht.1 (fun q2 => absurd q2 q) (fun _ => k H locs ls hP hS hl hG hv.2.2 hL)
theorem zx_if_ge (X : zCx dC dI cI cZ cS ad adV A p R s m args meth c d own ret nL cc) {off : Int} {a : Nat} (ht : (pc : Int) + off = (zgn pcs a : Int) ∧ a < pcs.length) (hdg : decode cc pc = .ok (.ifCond .ge off, 3)) : zGd pcs pc (pc + 3) (zP dC dI cI cZ cS ad adV A p l e R s m args below meth c nL) L S I G (zex (10, a, 3, 0) L S I G) := by
  obtain ⟨hx, hb, hml, hown, hts, hlk, hrt, hK, hSt, hAp, hR⟩ := X
  rcases S with _ | ⟨v1, S⟩
  · exact trivial
  rcases v1 with x1 | x1 | x1 | x1
  rotate_left
  · exact trivial
  · exact trivial
  · exact trivial
  by_cases q : 0 ≤ x1
  · show zGd _ _ _ _ _ _ _ _ (if 0 ≤ x1 then _ else _)
    rw [if_pos q]
    exact ⟨ht.2, fun r k H locs ls hP hS hl hG hv hL => lv_if_ge hx hb hdg ht.1 (fun _ => k H locs ls hP hS hl hG hv.2 hL) (fun q2 => absurd q q2)⟩
  · show zGd _ _ _ _ _ _ _ _ (if 0 ≤ x1 then _ else _)
    rw [if_neg q]
    exact fun r k H locs ls hP hS hl hG hv hL => lv_if_ge hx hb hdg ht.1 (fun q2 => absurd q2 q) (fun _ => k H locs ls hP hS hl hG hv.2 hL)
theorem zx_icmp_gt (X : zCx dC dI cI cZ cS ad adV A p R s m args meth c d own ret nL cc) {off : Int} {a : Nat} (ht : (pc : Int) + off = (zgn pcs a : Int) ∧ a < pcs.length) (hdg : decode cc pc = .ok (.if_icmp .gt off, 3)) : zGd pcs pc (pc + 3) (zP dC dI cI cZ cS ad adV A p l e R s m args below meth c nL) L S I G (zex (9, a, 4, 0) L S I G) := by
  obtain ⟨hx, hb, hml, hown, hts, hlk, hrt, hK, hSt, hAp, hR⟩ := X
  rcases S with _ | ⟨v1, S⟩
  · exact trivial
  rcases v1 with x1 | x1 | x1 | x1
  rotate_left
  · exact trivial
  · exact trivial
  · exact trivial
  rcases S with _ | ⟨v2, S⟩
  · exact trivial
  rcases v2 with x2 | x2 | x2 | x2
  rotate_left
  · exact trivial
  · exact trivial
  · exact trivial
  by_cases q : x1 < x2
  · show zGd _ _ _ _ _ _ _ _ (if x1 < x2 then _ else _)
    rw [if_pos q]
    exact ⟨ht.2, fun r k H locs ls hP hS hl hG hv hL => lv_icmp_gt hx hb hdg ht.1 (fun _ => k H locs ls hP hS hl hG hv.2.2 hL) (fun q2 => absurd q q2)⟩
  · show zGd _ _ _ _ _ _ _ _ (if x1 < x2 then _ else _)
    rw [if_neg q]
    exact fun r k H locs ls hP hS hl hG hv hL => lv_icmp_gt hx hb hdg ht.1 (fun q2 => absurd q2 q) (fun _ => k H locs ls hP hS hl hG hv.2.2 hL)
theorem zx_if_gt (X : zCx dC dI cI cZ cS ad adV A p R s m args meth c d own ret nL cc) {off : Int} {a : Nat} (ht : (pc : Int) + off = (zgn pcs a : Int) ∧ a < pcs.length) (hdg : decode cc pc = .ok (.ifCond .gt off, 3)) : zGd pcs pc (pc + 3) (zP dC dI cI cZ cS ad adV A p l e R s m args below meth c nL) L S I G (zex (10, a, 4, 0) L S I G) := by
  obtain ⟨hx, hb, hml, hown, hts, hlk, hrt, hK, hSt, hAp, hR⟩ := X
  rcases S with _ | ⟨v1, S⟩
  · exact trivial
  rcases v1 with x1 | x1 | x1 | x1
  rotate_left
  · exact trivial
  · exact trivial
  · exact trivial
  by_cases q : 0 < x1
  · show zGd _ _ _ _ _ _ _ _ (if 0 < x1 then _ else _)
    rw [if_pos q]
    exact ⟨ht.2, fun r k H locs ls hP hS hl hG hv hL => lv_if_gt hx hb hdg ht.1 (fun _ => k H locs ls hP hS hl hG hv.2 hL) (fun q2 => absurd q q2)⟩
  · show zGd _ _ _ _ _ _ _ _ (if 0 < x1 then _ else _)
    rw [if_neg q]
    exact fun r k H locs ls hP hS hl hG hv hL => lv_if_gt hx hb hdg ht.1 (fun q2 => absurd q2 q) (fun _ => k H locs ls hP hS hl hG hv.2 hL)
theorem zx_icmp_le (X : zCx dC dI cI cZ cS ad adV A p R s m args meth c d own ret nL cc) {off : Int} {a : Nat} (ht : (pc : Int) + off = (zgn pcs a : Int) ∧ a < pcs.length) (hdg : decode cc pc = .ok (.if_icmp .le off, 3)) : zGd pcs pc (pc + 3) (zP dC dI cI cZ cS ad adV A p l e R s m args below meth c nL) L S I G (zex (9, a, 5, 0) L S I G) := by
  obtain ⟨hx, hb, hml, hown, hts, hlk, hrt, hK, hSt, hAp, hR⟩ := X
  rcases S with _ | ⟨v1, S⟩
  · exact trivial
  rcases v1 with x1 | x1 | x1 | x1
  rotate_left
  · exact trivial
  · exact trivial
  · exact trivial
  rcases S with _ | ⟨v2, S⟩
  · exact trivial
  rcases v2 with x2 | x2 | x2 | x2
  rotate_left
  · exact trivial
  · exact trivial
  · exact trivial
  by_cases q : x2 ≤ x1
  · show zGd _ _ _ _ _ _ _ _ (if x2 ≤ x1 then _ else _)
    rw [if_pos q]
    exact ⟨ht.2, fun r k H locs ls hP hS hl hG hv hL => lv_icmp_le hx hb hdg ht.1 (fun _ => k H locs ls hP hS hl hG hv.2.2 hL) (fun q2 => absurd q q2)⟩
  · show zGd _ _ _ _ _ _ _ _ (if x2 ≤ x1 then _ else _)
    rw [if_neg q]
    exact fun r k H locs ls hP hS hl hG hv hL => lv_icmp_le hx hb hdg ht.1 (fun q2 => absurd q2 q) (fun _ => k H locs ls hP hS hl hG hv.2.2 hL)
theorem zx_if_le (X : zCx dC dI cI cZ cS ad adV A p R s m args meth c d own ret nL cc) {off : Int} {a : Nat} (ht : (pc : Int) + off = (zgn pcs a : Int) ∧ a < pcs.length) (hdg : decode cc pc = .ok (.ifCond .le off, 3)) : zGd pcs pc (pc + 3) (zP dC dI cI cZ cS ad adV A p l e R s m args below meth c nL) L S I G (zex (10, a, 5, 0) L S I G) := by
  obtain ⟨hx, hb, hml, hown, hts, hlk, hrt, hK, hSt, hAp, hR⟩ := X
  rcases S with _ | ⟨v1, S⟩
  · exact trivial
  rcases v1 with x1 | x1 | x1 | x1
  rotate_left
  · exact trivial
  · exact trivial
  · exact trivial
  by_cases q : x1 ≤ 0
  · show zGd _ _ _ _ _ _ _ _ (if x1 ≤ 0 then _ else _)
    rw [if_pos q]
    exact ⟨ht.2, fun r k H locs ls hP hS hl hG hv hL => lv_if_le hx hb hdg ht.1 (fun _ => k H locs ls hP hS hl hG hv.2 hL) (fun q2 => absurd q q2)⟩
  · show zGd _ _ _ _ _ _ _ _ (if x1 ≤ 0 then _ else _)
    rw [if_neg q]
    exact fun r k H locs ls hP hS hl hG hv hL => lv_if_le hx hb hdg ht.1 (fun q2 => absurd q2 q) (fun _ => k H locs ls hP hS hl hG hv.2 hL)
theorem zx_goto (X : zCx dC dI cI cZ cS ad adV A p R s m args meth c d own ret nL cc) {off : Int} {a : Nat} (ht : (pc : Int) + off = (zgn pcs a : Int) ∧ a < pcs.length) (hdg : decode cc pc = .ok (.goto off, 3)) : zGd pcs pc (pc + 3) (zP dC dI cI cZ cS ad adV A p l e R s m args below meth c nL) L S I G (zex (11, a, 0, 0) L S I G) := by
  obtain ⟨hx, hb, hml, hown, hts, hlk, hrt, hK, hSt, hAp, hR⟩ := X
  exact ⟨ht.2, fun r k H locs ls hP hS hl hG hv hL => lv_goto hx hb hdg ht.1 (k H locs ls hP hS hl hG hv hL)⟩
theorem zx_dup (X : zCx dC dI cI cZ cS ad adV A p R s m args meth c d own ret nL cc)  (hdg : decode cc pc = .ok (.dup, 1)) : zGd pcs pc (pc + 1) (zP dC dI cI cZ cS ad adV A p l e R s m args below meth c nL) L S I G (zex (29, 0, 0, 0) L S I G) := by
  obtain ⟨hx, hb, hml, hown, hts, hlk, hrt, hK, hSt, hAp, hR⟩ := X
  rcases S with _ | ⟨v1, S⟩
  · exact trivial
  rcases v1 with x | x | q
  · exact fun r k H locs ls hP hS hl hG hv hL => lv_dup hx hb hdg rfl (k H locs ls hP hS hl hG ⟨trivial, trivial, hv.2⟩ hL)
  · exact trivial
  · exact fun r k H locs ls hP hS hl hG hv hL => lv_dup hx hb hdg (zcat (v := .inr (.inr q)) rfl) (k H locs ls hP hS hl hG ⟨hv.1, hv.1, hv.2⟩ hL)
theorem zx_dup2 (X : zCx dC dI cI cZ cS ad adV A p R s m args meth c d own ret nL cc)  (hdg : decode cc pc = .ok (.dup2, 1)) : zGd pcs pc (pc + 1) (zP dC dI cI cZ cS ad adV A p l e R s m args below meth c nL) L S I G (zex (30, 0, 0, 0) L S I G) := by
  obtain ⟨hx, hb, hml, hown, hts, hlk, hrt, hK, hSt, hAp, hR⟩ := X
  rcases S with _ | ⟨v1, S⟩
  · exact trivial
  rcases S with _ | ⟨v2, S⟩
  · rcases v1 with x | x | q <;> exact trivial
  rcases v1 with x | x | q
  rotate_left
  · exact trivial
  · exact trivial
  rcases v2 with y | y | q
  · exact trivial
  · exact trivial
  · exact fun r k H locs ls hP hS hl hG hv hL => lv_dup2_11 hx hb hdg rfl (zcat (v := .inr (.inr q)) rfl) (k H locs ls hP hS hl hG ⟨trivial, hv.2.1, trivial, hv.2.1, hv.2.2⟩ hL)
theorem zx_pop (X : zCx dC dI cI cZ cS ad adV A p R s m args meth c d own ret nL cc)  (hdg : decode cc pc = .ok (.pop, 1)) : zGd pcs pc (pc + 1) (zP dC dI cI cZ cS ad adV A p l e R s m args below meth c nL) L S I G (zex (31, 0, 0, 0) L S I G) := by
  obtain ⟨hx, hb, hml, hown, hts, hlk, hrt, hK, hSt, hAp, hR⟩ := X
  rcases S with _ | ⟨v1, S⟩
  · exact trivial
  rcases v1 with x1 | x1 | x1 | x1
  rotate_left
  · exact trivial
  · exact trivial
  · exact trivial
  exact fun r k H locs ls hP hS hl hG hv hL => lv_pop hx hb hdg rfl (k H locs ls hP hS hl hG hv.2 hL)
end
