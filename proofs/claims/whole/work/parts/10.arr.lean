/-! arrays, ends, texts, the table, switches, the JDK's Math and arraycopy -/
section
variable {dC : Nat → ClassId} {dI : Nat → Nat → Nat} {cI cZ cS : ClassId} {ad : zAD} {adV : Nat → Nat} {A : Nat → Prop} {p : Program} {l : Launch} {e : Env} {R : Room} {s : State} {m : MethodId} {args : Array Value} {below : List Frame} {meth : Method} {c : Code} {d own ret nL : Nat} {cc : ByteArray}
variable {pcs : List Nat} {pc npc : Nat} {L : zXL} {S : List zAV} {I : zMI} {G : zMR}
theorem zce_1 {c i : Nat} (h : zsh c = 1) : zce cI cZ cS ad I G c i = .inl (cI, zal c, .inl (fun k => I c i k)) := by
  unfold zce
  rw [h]
  rfl
theorem zce_2 {c i : Nat} (h : zsh c = 2) : zce cI cZ cS ad I G c i = .inl (cZ, zal c, .inl (fun k => I c i k)) := by
  unfold zce
  rw [h]
  rfl
theorem zce_3 {c i : Nat} (h : zsh c = 3) : zce cI cZ cS ad I G c i = .inl (cS, zal c, .inr (.inr (.inr (.inr (fun k => (G c i k).map (fun q => ad q.1 q.2)))))) := by
  unfold zce
  rw [h]
  rfl
theorem zce_up {c i k : Nat} {v : Int32} {q : Nat × Nat} (h : q ≠ (c, i)) : zce cI cZ cS ad (zup I c i k v) G q.1 q.2 = zce cI cZ cS ad I G q.1 q.2 := by
  have key : ∀ k', zup I c i k v q.1 q.2 k' = I q.1 q.2 k' := by
    intro k'
    unfold zup
    rw [if_neg]
    intro z
    exact h (Prod.ext z.1 z.2.1)
  unfold zce zfs zval
  simp only [key]
theorem zup_fn {c i k : Nat} {v : Int32} : (fun k' => zup I c i k v c i k') = upd (fun k' => I c i k') k v := by
  funext k'
  unfold zup upd
  by_cases h : k' = k
  · rw [if_pos ⟨rfl, rfl, h⟩, if_pos h]
  · rw [if_neg (fun z => h z.2.2), if_neg h]
theorem zx_iaload (X : zCx dC dI cI cZ cS ad adV A p R s m args meth c d own ret nL cc) (hdg : decode cc pc = .ok (.iaload, 1)) : zGd pcs pc (pc + 1) (zP dC dI cI cZ cS ad adV A p l e R s m args below meth c nL) L S I G (zex (17, 0, 0, 0) L S I G) := by
  obtain ⟨hx, hb, hml, hown, hts, hlk, hrt, hK, hSt, hAp, hR⟩ := X
  rcases S with _ | ⟨v1, S⟩
  · exact trivial
  rcases v1 with x | y | y
  rotate_left
  · exact trivial
  · exact trivial
  rcases S with _ | ⟨v2, S⟩
  · exact trivial
  rcases v2 with y | y | y | ⟨a, j⟩
  · exact trivial
  · exact trivial
  · exact trivial
  show zGd _ _ _ _ _ _ _ _ (if zsh a = 1 then (if 0 ≤ x ∧ x.toNatClampNeg < zal a then _ else _) else if zsh a = 5 then (if 0 ≤ x ∧ x.toNatClampNeg < 7 then _ else _) else _)
  by_cases h1 : zsh a = 1
  · rw [if_pos h1]
    by_cases h2 : 0 ≤ x ∧ x.toNatClampNeg < zal a
    · rw [if_pos h2]
      intro r k H locs ls hP hS hl hG hv hL
      have hz : (a, j) ∈ zo := zzo hv.2.1 (zsh_ne (Or.inr (Or.inl h1))).1 (zsh_ne (Or.inr (Or.inl h1))).2
      obtain ⟨q0, hq, he⟩ := zws_at (cI := cI) (cZ := cZ) (cS := cS) (ad := ad) (I := I) (G := G) hz
      rw [zce_1 h1] at he
      exact va_iald hx hb hK hP q0 0 he rfl (zvpin h2) hdg (k H locs ls hP hS hl hG ⟨trivial, hv.2.2⟩ hL)
    · rw [if_neg h2]
      exact trivial
  · rw [if_neg h1]
    by_cases h5 : zsh a = 5
    · rw [if_pos h5]
      by_cases h2 : 0 ≤ x ∧ x.toNatClampNeg < 7
      · rw [if_pos h2]
        intro r k H locs ls hP hS hl hG hv hL
        have ha : a = 61 := by
          have h9 := h5
          unfold zsh at h9
          by_cases q1 : a ≤ 10
          · rw [if_pos q1] at h9; cases h9
          rw [if_neg q1] at h9
          by_cases q2 : a = 43
          · rw [if_pos q2] at h9; cases h9
          rw [if_neg q2] at h9
          by_cases q3 : a = 51
          · rw [if_pos q3] at h9; cases h9
          rw [if_neg q3] at h9
          by_cases q4 : a = 50
          · rw [if_pos q4] at h9; cases h9
          rw [if_neg q4] at h9
          by_cases q5 : a = 60
          · rw [if_pos q5] at h9; cases h9
          rw [if_neg q5] at h9
          by_cases q6 : a = 61
          · exact q6
          · rw [if_neg q6] at h9; cases h9
        subst ha
        have hj : j = 0 := by
          rcases hv.2.1 with q | q | q
          · exact absurd rfl (zo_61 _ q).2
          · cases q
          · exact q.2
        subst hj
        exact va_ti hx hb hSt.2.2.1 hS (zvpin h2) rfl hdg (k H locs ls hP hS hl hG ⟨trivial, hv.2.2⟩ hL)
      · rw [if_neg h2]
        exact trivial
    · rw [if_neg h5]
      exact trivial
theorem zx_iastore (X : zCx dC dI cI cZ cS ad adV A p R s m args meth c d own ret nL cc) (hdg : decode cc pc = .ok (.iastore, 1)) : zGd pcs pc (pc + 1) (zP dC dI cI cZ cS ad adV A p l e R s m args below meth c nL) L S I G (zex (18, 0, 0, 0) L S I G) := by
  obtain ⟨hx, hb, hml, hown, hts, hlk, hrt, hK, hSt, hAp, hR⟩ := X
  rcases S with _ | ⟨v1, S⟩
  · exact trivial
  rcases v1 with v | y | y
  rotate_left
  · exact trivial
  · exact trivial
  rcases S with _ | ⟨v2, S⟩
  · exact trivial
  rcases v2 with x | y | y
  rotate_left
  · exact trivial
  · exact trivial
  rcases S with _ | ⟨v3, S⟩
  · exact trivial
  rcases v3 with y | y | y | ⟨a, j⟩
  · exact trivial
  · exact trivial
  · exact trivial
  show zGd _ _ _ _ _ _ _ _ (if zsh a = 1 then (if 0 ≤ x ∧ x.toNatClampNeg < zal a then _ else _) else _)
  by_cases h1 : zsh a = 1
  · rw [if_pos h1]
    by_cases h2 : 0 ≤ x ∧ x.toNatClampNeg < zal a
    · rw [if_pos h2]
      intro r k H locs ls hP hS hl hG hv hL
      have hz : (a, j) ∈ zo := zzo hv.2.2.1 (zsh_ne (Or.inr (Or.inl h1))).1 (zsh_ne (Or.inr (Or.inl h1))).2
      obtain ⟨q0, hq, he⟩ := zws_at (cI := cI) (cZ := cZ) (cS := cS) (ad := ad) (I := I) (G := G) hz
      rw [zce_1 h1] at he
      refine va_iast hx hb hK hP (zws_D hAp I G) hS q0 0 he rfl (zvpin h2) hdg (fun H1 locs1 hP1 hD1 hS1 => ?_)
      have e := zws_set (cI := cI) (cZ := cZ) (cS := cS) (ad := ad) (I := I) (I' := zup I a j x.toNatClampNeg v) (G := G) (G' := G) hq (by rw [zce_1 h1, zup_fn]) (fun q _ hne => zce_up hne)
      rw [e] at hP1
      exact k H1 locs1 ls hP1 hS1 hl hG hv.2.2.2 hL
    · rw [if_neg h2]
      exact trivial
  · rw [if_neg h1]
    exact trivial
theorem zx_baload (X : zCx dC dI cI cZ cS ad adV A p R s m args meth c d own ret nL cc) (hdg : decode cc pc = .ok (.baload, 1)) : zGd pcs pc (pc + 1) (zP dC dI cI cZ cS ad adV A p l e R s m args below meth c nL) L S I G (zex (19, 0, 0, 0) L S I G) := by
  obtain ⟨hx, hb, hml, hown, hts, hlk, hrt, hK, hSt, hAp, hR⟩ := X
  rcases S with _ | ⟨v1, S⟩
  · exact trivial
  rcases v1 with x | y | y
  rotate_left
  · exact trivial
  · exact trivial
  rcases S with _ | ⟨v2, S⟩
  · exact trivial
  rcases v2 with y | y | y | ⟨a, j⟩
  · exact trivial
  · exact trivial
  · exact trivial
  show zGd _ _ _ _ _ _ _ _ (if zsh a = 2 then (if 0 ≤ x ∧ x.toNatClampNeg < zal a then _ else _) else _)
  by_cases h1 : zsh a = 2
  · rw [if_pos h1]
    by_cases h2 : 0 ≤ x ∧ x.toNatClampNeg < zal a
    · rw [if_pos h2]
      intro r k H locs ls hP hS hl hG hv hL
      have hz : (a, j) ∈ zo := zzo hv.2.1 (zsh_ne (Or.inr (Or.inr (Or.inl h1)))).1 (zsh_ne (Or.inr (Or.inr (Or.inl h1)))).2
      obtain ⟨q0, hq, he⟩ := zws_at (cI := cI) (cZ := cZ) (cS := cS) (ad := ad) (I := I) (G := G) hz
      rw [zce_2 h1] at he
      exact va_zald hx hb hK hP q0 1 he rfl (zvpin h2) hdg (k H locs ls hP hS hl hG ⟨trivial, hv.2.2⟩ hL)
    · rw [if_neg h2]
      exact trivial
  · rw [if_neg h1]
    exact trivial
theorem zx_bastore (X : zCx dC dI cI cZ cS ad adV A p R s m args meth c d own ret nL cc) (hdg : decode cc pc = .ok (.bastore, 1)) : zGd pcs pc (pc + 1) (zP dC dI cI cZ cS ad adV A p l e R s m args below meth c nL) L S I G (zex (20, 0, 0, 0) L S I G) := by
  obtain ⟨hx, hb, hml, hown, hts, hlk, hrt, hK, hSt, hAp, hR⟩ := X
  rcases S with _ | ⟨v1, S⟩
  · exact trivial
  rcases v1 with v | y | y
  rotate_left
  · exact trivial
  · exact trivial
  rcases S with _ | ⟨v2, S⟩
  · exact trivial
  rcases v2 with x | y | y
  rotate_left
  · exact trivial
  · exact trivial
  rcases S with _ | ⟨v3, S⟩
  · exact trivial
  rcases v3 with y | y | y | ⟨a, j⟩
  · exact trivial
  · exact trivial
  · exact trivial
  show zGd _ _ _ _ _ _ _ _ (if zsh a = 2 then (if (0 ≤ x ∧ x.toNatClampNeg < zal a) ∧ (v = 0 ∨ v = 1) then _ else _) else _)
  by_cases h1 : zsh a = 2
  · rw [if_pos h1]
    by_cases h2 : (0 ≤ x ∧ x.toNatClampNeg < zal a) ∧ (v = 0 ∨ v = 1)
    · rw [if_pos h2]
      intro r k H locs ls hP hS hl hG hv hL
      have hz : (a, j) ∈ zo := zzo hv.2.2.1 (zsh_ne (Or.inr (Or.inr (Or.inl h1)))).1 (zsh_ne (Or.inr (Or.inr (Or.inl h1)))).2
      obtain ⟨q0, hq, he⟩ := zws_at (cI := cI) (cZ := cZ) (cS := cS) (ad := ad) (I := I) (G := G) hz
      rw [zce_2 h1] at he
      refine va_zast hx hb hK hP (zws_D hAp I G) hS q0 1 he rfl (zvpin h2.1) hdg (fun H1 locs1 hP1 hD1 hS1 => ?_)
      have hn : vp_nar .boolean v = v := by
        rcases h2.2 with rfl | rfl <;> decide
      rw [hn] at hP1
      have e := zws_set (cI := cI) (cZ := cZ) (cS := cS) (ad := ad) (I := I) (I' := zup I a j x.toNatClampNeg v) (G := G) (G' := G) hq (by rw [zce_2 h1, zup_fn]) (fun q _ hne => zce_up hne)
      rw [e] at hP1
      exact k H1 locs1 ls hP1 hS1 hl hG hv.2.2.2 hL
    · rw [if_neg h2]
      exact trivial
  · rw [if_neg h1]
    exact trivial
theorem zx_arraylength (X : zCx dC dI cI cZ cS ad adV A p R s m args meth c d own ret nL cc) (hdg : decode cc pc = .ok (.arraylength, 1)) : zGd pcs pc (pc + 1) (zP dC dI cI cZ cS ad adV A p l e R s m args below meth c nL) L S I G (zex (21, 0, 0, 0) L S I G) := by
  obtain ⟨hx, hb, hml, hown, hts, hlk, hrt, hK, hSt, hAp, hR⟩ := X
  rcases S with _ | ⟨v1, S⟩
  · exact trivial
  rcases v1 with y | y | y | ⟨a, j⟩
  · exact trivial
  · exact trivial
  · exact trivial
  show zGd _ _ _ _ _ _ _ _ (if zsh a = 1 ∨ zsh a = 2 ∨ zsh a = 3 then _ else _)
  by_cases h1 : zsh a = 1 ∨ zsh a = 2 ∨ zsh a = 3
  · rw [if_pos h1]
    intro r k H locs ls hP hS hl hG hv hL
    have hz : (a, j) ∈ zo := zzo hv.1 (zsh_ne (Or.inr h1)).1 (zsh_ne (Or.inr h1)).2
    obtain ⟨q0, hq, he⟩ := zws_at (cI := cI) (cZ := cZ) (cS := cS) (ad := ad) (I := I) (G := G) hz
    rcases h1 with h1 | h1 | h1
    · rw [zce_1 h1] at he
      exact va_alen hx hb hK hP q0 0 he rfl rfl hdg (k H locs ls hP hS hl hG ⟨trivial, hv.2⟩ hL)
    · rw [zce_2 h1] at he
      exact va_alen hx hb hK hP q0 1 he rfl rfl hdg (k H locs ls hP hS hl hG ⟨trivial, hv.2⟩ hL)
    · rw [zce_3 h1] at he
      exact va_alen hx hb hK hP q0 2 he rfl rfl hdg (k H locs ls hP hS hl hG ⟨trivial, hv.2⟩ hL)
  · rw [if_neg h1]
    exact trivial
theorem zx_aaload (X : zCx dC dI cI cZ cS ad adV A p R s m args meth c d own ret nL cc) (hdg : decode cc pc = .ok (.aaload, 1)) : zGd pcs pc (pc + 1) (zP dC dI cI cZ cS ad adV A p l e R s m args below meth c nL) L S I G (zex (22, 0, 0, 0) L S I G) := by
  obtain ⟨hx, hb, hml, hown, hts, hlk, hrt, hK, hSt, hAp, hR⟩ := X
  rcases S with _ | ⟨v1, S⟩
  · exact trivial
  rcases v1 with x | y | y
  rotate_left
  · exact trivial
  · exact trivial
  rcases S with _ | ⟨v2, S⟩
  · exact trivial
  rcases v2 with y | y | y | ⟨a, j⟩
  · exact trivial
  · exact trivial
  · exact trivial
  show zGd _ _ _ _ _ _ _ _ (if zsh a = 3 then (if 0 ≤ x ∧ x.toNatClampNeg < zal a then _ else _) else _)
  by_cases h1 : zsh a = 3
  · rw [if_pos h1]
    by_cases h2 : 0 ≤ x ∧ x.toNatClampNeg < zal a
    · rw [if_pos h2]
      intro r k H locs ls hP hS hl hG hv hL
      have hz : (a, j) ∈ zo := zzo hv.2.1 (zsh_ne (Or.inr (Or.inr (Or.inr h1)))).1 (zsh_ne (Or.inr (Or.inr (Or.inr h1)))).2
      obtain ⟨q0, hq, he⟩ := zws_at (cI := cI) (cZ := cZ) (cS := cS) (ad := ad) (I := I) (G := G) hz
      rw [zce_3 h1] at he
      refine va_aldq hx hb hK hP q0 2 he rfl (zvpin h2) hdg ?_
      rw [zcv_rf]
      exact k H locs ls hP hS hl hG ⟨hG (a, j) hz _, hv.2.2⟩ hL
    · rw [if_neg h2]
      exact trivial
  · rw [if_neg h1]
    exact trivial
theorem zx_return (X : zCx dC dI cI cZ cS ad adV A p R s m args meth c d own 0 nL cc) (hdg : decode cc pc = .ok (.return_, 1)) : zGd pcs pc (pc + 1) (zP dC dI cI cZ cS ad adV A p l e R s m args below meth c nL) L S I G (zex (24, 0, 0, 0) L S I G) := by
  obtain ⟨hx, hb, hml, hown, hts, hlk, hrt, hK, hSt, hAp, hR⟩ := X
  rcases S with _ | ⟨v1, S⟩
  · intro H locs ls hP hS hl hG hv hL
    have hr : meth.sig.returnType = none := by
      cases h : meth.sig.returnType with
      | none => rfl
      | some t => rw [h] at hrt; cases t <;> cases hrt
    exact W.vret hx hb hr (fun t ht hW => ⟨⟨rfl, trivial, by rw [ht]; exact hP, va_K.moved hW.alike hK, hSt.at hS ht hW, hG⟩, hS.F ht⟩) hS.2.2 hdg hlk
  · exact trivial
theorem zx_ireturn (X : zCx dC dI cI cZ cS ad adV A p R s m args meth c d own 1 nL cc) (hdg : decode cc pc = .ok (.ireturn, 1)) : zGd pcs pc (pc + 1) (zP dC dI cI cZ cS ad adV A p l e R s m args below meth c nL) L S I G (zex (25, 0, 0, 0) L S I G) := by
  obtain ⟨hx, hb, hml, hown, hts, hlk, hrt, hK, hSt, hAp, hR⟩ := X
  rcases S with _ | ⟨v1, S⟩
  · exact trivial
  rcases S with _ | ⟨v2, S⟩
  rotate_left
  · rcases v1 with x | y | y | y <;> exact trivial
  rcases v1 with x | y | y | y
  rotate_left
  · exact trivial
  · exact trivial
  · exact trivial
  intro H locs ls hP hS hl hG hv hL
  have hr : meth.sig.returnType = some .int := by
    cases h : meth.sig.returnType with
    | none => rw [h] at hrt; cases hrt
    | some t => rw [h] at hrt; cases t <;> first | rfl | cases hrt
  exact W.iret (v := x) hx hb hr (fun t ht hW => ⟨⟨rfl, trivial, by rw [ht]; exact hP, va_K.moved hW.alike hK, hSt.at hS ht hW, hG⟩, hS.F ht⟩) hS.2.2 hdg hlk
theorem zx_zreturn (X : zCx dC dI cI cZ cS ad adV A p R s m args meth c d own 2 nL cc) (hdg : decode cc pc = .ok (.ireturn, 1)) : zGd pcs pc (pc + 1) (zP dC dI cI cZ cS ad adV A p l e R s m args below meth c nL) L S I G (zex (26, 0, 0, 0) L S I G) := by
  obtain ⟨hx, hb, hml, hown, hts, hlk, hrt, hK, hSt, hAp, hR⟩ := X
  rcases S with _ | ⟨v1, S⟩
  · exact trivial
  rcases S with _ | ⟨v2, S⟩
  rotate_left
  · rcases v1 with x | y | y | y <;> exact trivial
  rcases v1 with x | y | y | y
  rotate_left
  · exact trivial
  · exact trivial
  · exact trivial
  show zGd _ _ _ _ _ _ _ _ (if x = 0 ∨ x = 1 then _ else _)
  by_cases q : x = 0 ∨ x = 1
  · rw [if_pos q]
    intro H locs ls hP hS hl hG hv hL
    have hr : meth.sig.returnType = some .boolean := by
      cases h : meth.sig.returnType with
      | none => rw [h] at hrt; cases hrt
      | some t => rw [h] at hrt; cases t <;> first | rfl | cases hrt
    exact W.zret (v := x) hx hb hr (by rcases q with rfl | rfl <;> decide) (fun t ht hW => ⟨⟨rfl, trivial, by rw [ht]; exact hP, va_K.moved hW.alike hK, hSt.at hS ht hW, hG⟩, hS.F ht⟩) hS.2.2 hdg hlk
  · rw [if_neg q]
    exact trivial
theorem zx_lreturn (X : zCx dC dI cI cZ cS ad adV A p R s m args meth c d own 3 nL cc) (hdg : decode cc pc = .ok (.lreturn, 1)) : zGd pcs pc (pc + 1) (zP dC dI cI cZ cS ad adV A p l e R s m args below meth c nL) L S I G (zex (27, 0, 0, 0) L S I G) := by
  obtain ⟨hx, hb, hml, hown, hts, hlk, hrt, hK, hSt, hAp, hR⟩ := X
  rcases S with _ | ⟨v1, S⟩
  · exact trivial
  rcases S with _ | ⟨v2, S⟩
  rotate_left
  · rcases v1 with x | y | y | y <;> exact trivial
  rcases v1 with y | x | y | y
  · exact trivial
  rotate_left
  · exact trivial
  · exact trivial
  intro H locs ls hP hS hl hG hv hL
  have hr : meth.sig.returnType = some .long := by
    cases h : meth.sig.returnType with
    | none => rw [h] at hrt; cases hrt
    | some t => rw [h] at hrt; cases t <;> first | rfl | cases hrt
  exact W.lret (v := x) hx hb hr (fun t ht hW => ⟨⟨rfl, trivial, by rw [ht]; exact hP, va_K.moved hW.alike hK, hSt.at hS ht hW, hG⟩, hS.F ht⟩) hS.2.2 hdg hlk
theorem zx_areturn (X : zCx dC dI cI cZ cS ad adV A p R s m args meth c d own 4 nL cc) (hdg : decode cc pc = .ok (.areturn, 1)) : zGd pcs pc (pc + 1) (zP dC dI cI cZ cS ad adV A p l e R s m args below meth c nL) L S I G (zex (28, 0, 0, 0) L S I G) := by
  obtain ⟨hx, hb, hml, hown, hts, hlk, hrt, hK, hSt, hAp, hR⟩ := X
  rcases S with _ | ⟨v1, S⟩
  · exact trivial
  rcases S with _ | ⟨v2, S⟩
  rotate_left
  · rcases v1 with x | y | y | y <;> exact trivial
  rcases v1 with y | y | y | q
  · exact trivial
  · exact trivial
  · exact trivial
  intro H locs ls hP hS hl hG hv hL
  have hr : ∃ t, meth.sig.returnType = some (.object t) := by
    cases h : meth.sig.returnType with
    | none => rw [h] at hrt; cases hrt
    | some t => rw [h] at hrt; cases t <;> first | exact ⟨_, rfl⟩ | cases hrt
  obtain ⟨t0, hr⟩ := hr
  exact W.aret hx hb hr (Or.inl ⟨_, rfl⟩) (Or.inr ⟨_, rfl⟩) (fun t ht hW => ⟨⟨rfl, hv.1, by rw [ht]; exact hP, va_K.moved hW.alike hK, hSt.at hS ht hW, hG⟩, hS.F ht⟩) hS.2.2 hdg hlk
theorem zshort_sum : ∀ {S : List zAV}, zshort S = true → ((S.map (zcv ad)).map fun v => v.category).sum ≤ 8 := by
  have key : ∀ v : zAV, (zcv ad v).category ≤ 2 := by
    intro v
    rcases v with x | x | x | x
    · exact Nat.le_of_ble_eq_true rfl
    · exact Nat.le_refl 2
    · exact Nat.le_of_ble_eq_true rfl
    · exact Nat.le_of_ble_eq_true rfl
  intro S h
  rcases S with _ | ⟨a, S⟩
  · simp
  rcases S with _ | ⟨b, S⟩
  · have := key a
    simp
    omega
  rcases S with _ | ⟨c, S⟩
  · have := key a
    have := key b
    simp
    omega
  rcases S with _ | ⟨d, S⟩
  · have := key a
    have := key b
    have := key c
    simp
    omega
  rcases S with _ | ⟨f, S⟩
  · have := key a
    have := key b
    have := key c
    have := key d
    simp
    omega
  · cases h
theorem zx_max (X : zCx dC dI cI cZ cS ad adV A p R s m args meth c d own ret nL cc) {x : Nat} (hml0 : (own, x, 5, 0) ∈ zML) (hdg : decode cc pc = .ok (.invokestatic x, 3)) : zGd pcs pc (pc + 3) (zP dC dI cI cZ cS ad adV A p l e R s m args below meth c nL) L S I G (zex (42, 0, 0, 0) L S I G) := by
  obtain ⟨hx, hb, hml, hown, hts, hlk, hrt, hK, hSt, hAp, hR⟩ := X
  rcases S with _ | ⟨v1, S⟩
  · exact trivial
  rcases v1 with x1 | y | y
  rotate_left
  · exact trivial
  · exact trivial
  rcases S with _ | ⟨v2, S⟩
  · exact trivial
  rcases v2 with x2 | y | y
  rotate_left
  · exact trivial
  · exact trivial
  show zGd _ _ _ _ _ _ _ _ (if zshort S = true then _ else _)
  by_cases q : zshort S = true
  · rw [if_pos q]
    intro r k H locs ls hP hS hl hG hv hL
    have hs := zshort_sum (ad := ad) q
    exact va_mmax hx hb (by rw [hml]; exact hl.2.1.symm) hown (hts _ (zml_in hml0 _ (List.mem_singleton.mpr rfl))) (hts _ (zot_in _ (by simp [zotW]))) (hts _ (zot_in _ (by simp [zotW]))) (hts _ zmax_in) (by omega) (by omega) (Nat.zero_le _) (Nat.zero_le _) hdg (k H locs ls hP hS hl hG ⟨trivial, hv.2.2⟩ hL)
  · rw [if_neg q]
    exact trivial
theorem zx_min (X : zCx dC dI cI cZ cS ad adV A p R s m args meth c d own ret nL cc) {x : Nat} (hml0 : (own, x, 6, 0) ∈ zML) (hdg : decode cc pc = .ok (.invokestatic x, 3)) : zGd pcs pc (pc + 3) (zP dC dI cI cZ cS ad adV A p l e R s m args below meth c nL) L S I G (zex (43, 0, 0, 0) L S I G) := by
  obtain ⟨hx, hb, hml, hown, hts, hlk, hrt, hK, hSt, hAp, hR⟩ := X
  rcases S with _ | ⟨v1, S⟩
  · exact trivial
  rcases v1 with x1 | y | y
  rotate_left
  · exact trivial
  · exact trivial
  rcases S with _ | ⟨v2, S⟩
  · exact trivial
  rcases v2 with x2 | y | y
  rotate_left
  · exact trivial
  · exact trivial
  show zGd _ _ _ _ _ _ _ _ (if zshort S = true then _ else _)
  by_cases q : zshort S = true
  · rw [if_pos q]
    intro r k H locs ls hP hS hl hG hv hL
    have hs := zshort_sum (ad := ad) q
    exact va_mmin hx hb (by rw [hml]; exact hl.2.1.symm) hown (hts _ (zml_in hml0 _ (List.mem_singleton.mpr rfl))) (hts _ (zot_in _ (by simp [zotW]))) (hts _ (zot_in _ (by simp [zotW]))) (hts _ zmin_in) (by omega) (by omega) (Nat.zero_le _) (Nat.zero_le _) hdg (k H locs ls hP hS hl hG ⟨trivial, hv.2.2⟩ hL)
  · rw [if_neg q]
    exact trivial
theorem zx_copy (X : zCx dC dI cI cZ cS ad adV A p R s m args meth c d own ret nL cc) {x : Nat} (hml0 : (own, x, 7, 0) ∈ zML) (hdg : decode cc pc = .ok (.invokestatic x, 3)) : zGd pcs pc (pc + 3) (zP dC dI cI cZ cS ad adV A p l e R s m args below meth c nL) L S I G (zex (44, 0, 0, 0) L S I G) := by
  obtain ⟨hx, hb, hml, hown, hts, hlk, hrt, hK, hSt, hAp, hR⟩ := X
  rcases S with _ | ⟨v1, S⟩
  · exact trivial
  rcases v1 with n | y | y
  rotate_left
  · exact trivial
  · exact trivial
  rcases S with _ | ⟨v2, S⟩
  · exact trivial
  rcases v2 with dp | y | y
  rotate_left
  · exact trivial
  · exact trivial
  rcases S with _ | ⟨v3, S⟩
  · exact trivial
  rcases v3 with y | y | y | ⟨a, j⟩
  · exact trivial
  · exact trivial
  · exact trivial
  rcases S with _ | ⟨v4, S⟩
  · exact trivial
  rcases v4 with sp | y | y
  rotate_left
  · exact trivial
  · exact trivial
  rcases S with _ | ⟨v5, S⟩
  · exact trivial
  rcases v5 with y | y | y | ⟨a0, j0⟩
  · exact trivial
  · exact trivial
  · exact trivial
  show zGd _ _ _ _ _ _ _ _ (if zsh a = 1 ∧ zsh a0 = 1 ∧ zal a0 = zal a ∧ n = nI (zal a) ∧ sp = 0 ∧ dp = 0 ∧ zshort S = true then _ else _)
  by_cases q : zsh a = 1 ∧ zsh a0 = 1 ∧ zal a0 = zal a ∧ n = nI (zal a) ∧ sp = 0 ∧ dp = 0 ∧ zshort S = true
  · rw [if_pos q]
    obtain ⟨h1, h2, h3, rfl, rfl, rfl, h4⟩ := q
    intro r k H locs ls hP hS hl hG hv hL
    have hs := zshort_sum (ad := ad) h4
    have hz : (a, j) ∈ zo := zzo hv.2.2.1 (zsh_ne (Or.inr (Or.inl h1))).1 (zsh_ne (Or.inr (Or.inl h1))).2
    have hz0 : (a0, j0) ∈ zo := zzo hv.2.2.2.2.1 (zsh_ne (Or.inr (Or.inl h2))).1 (zsh_ne (Or.inr (Or.inl h2))).2
    obtain ⟨q0, hq, he⟩ := zws_at (cI := cI) (cZ := cZ) (cS := cS) (ad := ad) (I := I) (G := G) hz
    obtain ⟨q1, hq1, he1⟩ := zws_at (cI := cI) (cZ := cZ) (cS := cS) (ad := ad) (I := I) (G := G) hz0
    rw [zce_1 h1] at he
    rw [zce_1 h2] at he1
    have hzl : ∀ w, w < 62 → zal w < 1000 := by decide +kernel
    have ha : zal a < 1000 := by
      have hq : ∀ q ∈ zo, q.1 < 62 := by decide +kernel
      exact hzl a (hq _ hz)
    have hcl : (nI (zal a)).toNatClampNeg = zal a := nI_clamp (by omega)
    have h0 : (0 : Int32).toNatClampNeg = 0 := by decide
    refine va_copyi hx hb (by rw [hml]; exact hl.2.1.symm) hown (hts _ (zml_in hml0 _ (List.mem_singleton.mpr rfl))) (hts _ (zot_in _ (by simp [zotW]))) (hts _ (zot_in _ (by simp [zotW]))) (hts _ (zot_in _ (by simp [zotW]))) hK hP (zws_D hAp I G) hS q1 q0 0 0 he1 he rfl rfl rfl (by decide) (by decide) (nI_pos (by omega)) (by rw [h0, hcl, h3]; omega) (by rw [h0, hcl]; omega) (fun i hi => rfl) (by omega) (by show _ + (7 + 11) ≤ _; omega) hdg (fun H1 locs1 hP1 hD1 hS1 => ?_)
    have e := zws_set (cI := cI) (cZ := cZ) (cS := cS) (ad := ad) (I := I) (I' := zcp I a0 j0 a j (zal a)) (G := G) (G' := G) (e := .inl (cI, zal a, .inl (va_cpy (fun k => I a0 j0 k) (fun k => I a j k) (0 : Int32).toNatClampNeg (0 : Int32).toNatClampNeg (nI (zal a)).toNatClampNeg))) hq (by
      rw [zce_1 h1, h0, hcl]
      congr 4
      funext k'
      unfold zcp va_cpy
      by_cases hk : k' < zal a
      · rw [if_pos ⟨rfl, rfl, hk⟩, if_pos (by omega)]
        simp
      · rw [if_neg (fun z => hk z.2.2), if_neg (by omega)]) (fun q _ hne => by
      have key : ∀ k', zcp I a0 j0 a j (zal a) q.1 q.2 k' = I q.1 q.2 k' := by
        intro k'
        unfold zcp
        rw [if_neg]
        intro z
        exact hne (Prod.ext z.1 z.2.1)
      unfold zce zfs zval
      simp only [key])
    rw [e] at hP1
    exact k H1 locs1 ls hP1 hS1 hl hG hv.2.2.2.2.2 hL
  · rw [if_neg q]
    exact trivial
end
