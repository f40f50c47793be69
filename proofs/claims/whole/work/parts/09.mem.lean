/-! fields, arrays, ends, texts, the table, switches -/
theorem zzo {c i : Nat} (h : zVv (zr c i)) (h2 : c ≠ 60) (h3 : c ≠ 61) : (c, i) ∈ zo := by
  rcases h with h | h | h
  · exact h
  · exact absurd h h2
  · exact absurd h.1 h3
theorem zfs_at (ad : zAD) (I : zMI) (G : zMR) {c i k : Nat} (h : k < znf c) : (zfs ad I G c i)[k]? = some (zval ad I G c i k) := by
  rw [zfs, List.getElem?_map, List.getElem?_range h]
  rfl
theorem zfs_len (ad : zAD) (I : zMI) (G : zMR) (c i : Nat) : (zfs ad I G c i).length = znf c := by rw [zfs, List.length_map, List.length_range]
theorem zfs_set {ad : zAD} {I I' : zMI} {G G' : zMR} {c i k : Nat} {v : Value} (hk : k < znf c) (hv : zval ad I' G' c i k = v) (ho : ∀ j, j ≠ k → zval ad I' G' c i j = zval ad I G c i j) : (zfs ad I G c i).set k v = zfs ad I' G' c i := by
  apply List.ext_getElem?
  intro j
  rw [List.getElem?_set]
  by_cases h : k = j
  · subst h
    rw [if_pos rfl, zfs_len, if_pos hk, zfs_at _ _ _ hk, hv]
  · rw [if_neg h, zfs, zfs, List.getElem?_map, List.getElem?_map]
    cases hr : (List.range (znf c))[j]? with
    | none => rfl
    | some x =>
      have hx : x = j := by
        obtain ⟨h1, h2⟩ := List.getElem?_eq_some_iff.mp hr
        rw [List.getElem_range] at h2
        exact h2.symm
      subst hx
      exact congrArg some (ho x (Ne.symm h)).symm
theorem zsh0 {c : Nat} (h : c ≤ 10) : zsh c = 0 := by
  unfold zsh
  rw [if_pos h]
theorem zsh_ne {c : Nat} (h : zsh c = 0 ∨ zsh c = 1 ∨ zsh c = 2 ∨ zsh c = 3) : c ≠ 60 ∧ c ≠ 61 := by
  refine ⟨fun e => ?_, fun e => ?_⟩ <;> subst e <;> revert h <;> decide
theorem zcv_rf (ad : zAD) (q : Option (Nat × Nat)) : va_rf (q.map (fun q => ad q.1 q.2)) = zcv ad (.inr (.inr q)) := by
  cases q <;> rfl
theorem znar {t : FieldType} {v : Value} (h : (ztk t = 0 ∧ ∃ x, v = .int x) ∨ (ztk t = 1 ∧ (v = .int 0 ∨ v = .int 1)) ∨ (ztk t = 2 ∧ ∃ a, v = .ref a)) : narrow t v = v ∧ fits t v = true := by
  rcases h with ⟨h1, x, rfl⟩ | ⟨h1, h2⟩ | ⟨h1, a, rfl⟩
  · cases t <;> first | exact ⟨rfl, rfl⟩ | exact absurd h1 (by decide) | (exact absurd h1 (by intro q; cases q))
  · cases t <;> first | (rcases h2 with rfl | rfl <;> exact ⟨by decide, by decide⟩) | exact absurd h1 (by decide) | (exact absurd h1 (by intro q; cases q))
  · cases t <;> first | exact ⟨rfl, rfl⟩ | exact absurd h1 (by decide) | (exact absurd h1 (by intro q; cases q))
theorem zvpin {x : Int32} {n : Nat} (h : 0 ≤ x ∧ x.toNatClampNeg < n) : vp_in x n := by
  intro q
  rcases q with q | q
  · exact absurd h.1 (Int32.not_le.mpr q)
  · exact absurd h.2 (by omega)
section
variable {dC : Nat → ClassId} {dI : Nat → Nat → Nat} {cI cZ cS : ClassId} {ad : zAD} {adV : Nat → Nat} {A : Nat → Prop} {p : Program} {l : Launch} {e : Env} {R : Room} {s : State} {m : MethodId} {args : Array Value} {below : List Frame} {meth : Method} {c : Code} {d own ret nL : Nat} {cc : ByteArray}
variable {pcs : List Nat} {pc npc : Nat} {L : zXL} {S : List zAV} {I : zMI} {G : zMR}
theorem zce_obj {c i : Nat} (h : c ≤ 10) : zce cI cZ cS ad I G c i = .inr (c, zfs ad I G c i) := by
  unfold zce
  rw [zsh0 h]
  rfl
theorem zx_getfield (X : zCx dC dI cI cZ cS ad adV A p R s m args meth c d own ret nL cc) {x a b : Nat} {ai : zAI} (hai : ai = (13, a, b, 0) ∨ ai = (14, a, b, 0)) (hfl : (own, x, a, b) ∈ zFL) (hdg : decode cc pc = .ok (.getfield x, 3)) : zGd pcs pc (pc + 3) (zP dC dI cI cZ cS ad adV A p l e R s m args below meth c nL) L S I G (zex ai L S I G) := by
  obtain ⟨hx, hb, hml, hown, hts, hlk, hrt, hK, hSt, hAp, hR⟩ := X
  have hlink : (Cond.fieldLink (zcn own) x (zcn a) (zct a b).2.1 (zct a b).2.2.1).before args s = true := hts _ (zfl_in hfl)
  have main : ∀ (j : Nat) (S0 : List zAV), a ≤ 10 → b < znf a → S = zr a j :: S0 → ∀ v : zAV, zcv ad v = zval ad I G a j b → (zVG G → zVv v) → ∀ r, zP dC dI cI cZ cS ad adV A p l e R s m args below meth c nL r (pc + 3) L (v :: S0) I G → zP dC dI cI cZ cS ad adV A p l e R s m args below meth c nL r pc L S I G := by
    intro j S0 ha hb' hSS v hv hvv r k H locs ls hP hS hl hG hvs hL
    subst hSS
    have hz : (a, j) ∈ zo := zzo hvs.1 (by omega) (by omega)
    obtain ⟨q0, hq, he⟩ := zws_at (cI := cI) (cZ := cZ) (cS := cS) (ad := ad) (I := I) (G := G) hz
    rw [zce_obj ha] at he
    have hs := zcl_own a ha b hb'
    refine va_get hx hb hts (zuw a ha) hown hK hP q0 he (zvw a ha) b hb' hlink (fun y hy => by rw [hs] at hy; exact hy) (v := zcv ad v) (by rw [zfs_at _ _ _ hb', hv]) hdg ?_
    exact k H locs ls hP hS hl hG ⟨hvv hG, hvs.2⟩ hL
  rcases hai with rfl | rfl
  · rcases S with _ | ⟨v1, S0⟩
    · exact trivial
    rcases v1 with y | y | y | ⟨c1, j⟩
    · exact trivial
    · exact trivial
    · exact trivial
    show zGd _ _ _ _ _ _ _ _ (if c1 = a ∧ c1 ≤ 10 ∧ b < znf c1 ∧ zfy c1 b < 2 then _ else _)
    by_cases q : c1 = a ∧ c1 ≤ 10 ∧ b < znf c1 ∧ zfy c1 b < 2
    · rw [if_pos q]
      obtain ⟨rfl, q2, q3, q4⟩ := q
      exact main j S0 q2 q3 rfl (zi (I c1 j b)) (by unfold zval; rw [if_neg (by omega)]; rfl) (fun _ => trivial)
    · rw [if_neg q]
      exact trivial
  · rcases S with _ | ⟨v1, S0⟩
    · exact trivial
    rcases v1 with y | y | y | ⟨c1, j⟩
    · exact trivial
    · exact trivial
    · exact trivial
    show zGd _ _ _ _ _ _ _ _ (if c1 = a ∧ c1 ≤ 10 ∧ b < znf c1 ∧ zfy c1 b = 2 then _ else _)
    by_cases q : c1 = a ∧ c1 ≤ 10 ∧ b < znf c1 ∧ zfy c1 b = 2
    · rw [if_pos q]
      obtain ⟨rfl, q2, q3, q4⟩ := q
      intro r k H locs ls hP hS hl hG hvs hL
      exact main j S0 q2 q3 rfl (.inr (.inr (G c1 j b))) (by unfold zval; rw [if_pos q4]) (fun hG => hG (c1, j) (zzo hvs.1 (by omega) (by omega)) b) r k H locs ls hP hS hl hG hvs hL
    · rw [if_neg q]
      exact trivial
theorem zx_putfield (X : zCx dC dI cI cZ cS ad adV A p R s m args meth c d own ret nL cc) {x a b : Nat} {ai : zAI} (hai : ai = (15, a, b, 0) ∨ ai = (54, a, b, 0) ∨ ai = (16, a, b, 0)) (hfl : (own, x, a, b) ∈ zFL) (hfin : (zct a b).2.2.2 = false) (hdg : decode cc pc = .ok (.putfield x, 3)) : zGd pcs pc (pc + 3) (zP dC dI cI cZ cS ad adV A p l e R s m args below meth c nL) L S I G (zex ai L S I G) := by
  obtain ⟨hx, hb, hml, hown, hts, hlk, hrt, hK, hSt, hAp, hR⟩ := X
  have hlink : (Cond.fieldLink (zcn own) x (zcn a) (zct a b).2.1 (zct a b).2.2.1).before args s = true := hts _ (zfl_in hfl)
  have main : ∀ (j : Nat) (v : zAV) (S0 : List zAV), a ≤ 10 → b < znf a → S = v :: zr a j :: S0 → ∀ (I' : zMI) (G' : zMR), (narrow (zty a b) (zcv ad v) = zcv ad v ∧ fits (zty a b) (zcv ad v) = true) → zval ad I' G' a j b = zcv ad v → (∀ k, k ≠ b → zval ad I' G' a j k = zval ad I G a j k) → (∀ q ∈ zo, q ≠ (a, j) → zce cI cZ cS ad I' G' q.1 q.2 = zce cI cZ cS ad I G q.1 q.2) → (zVG G → zVv v → zVG G') → ∀ r, zP dC dI cI cZ cS ad adV A p l e R s m args below meth c nL r (pc + 3) L S0 I' G' → zP dC dI cI cZ cS ad adV A p l e R s m args below meth c nL r pc L S I G := by
    intro j v S0 ha hb' hSS I' G' hn h1 h2 h3 h4 r k H locs ls hP hS hl hG hvs hL
    subst hSS
    have hz : (a, j) ∈ zo := zzo hvs.2.1 (by omega) (by omega)
    obtain ⟨q0, hq, he⟩ := zws_at (cI := cI) (cZ := cZ) (cS := cS) (ad := ad) (I := I) (G := G) hz
    rw [zce_obj ha] at he
    have hs := zcl_own a ha b hb'
    refine va_put hx hb hts (zuw a ha) (zty a) (zty_ok a ha) (znm a ha) hown hK hP (zws_D hAp I G) hS q0 he (zvw a ha) b hb' hlink (fun y hy => by rw [hs] at hy; exact hy) hfin (zty_ok a ha b hb') hn.1 hn.2 (by rw [zfs_len]; exact hb') hdg (fun H1 locs1 hP1 hD1 hS1 => ?_)
    have e : (zws cI cZ cS ad I G).set q0 (ad a j, .inr (a, (zfs ad I G a j).set b (zcv ad v))) = zws cI cZ cS ad I' G' := zws_set hq (by rw [zce_obj ha, zfs_set hb' h1 h2]) h3
    rw [e] at hP1
    exact k H1 locs1 ls hP1 hS1 hl (h4 hG hvs.1) hvs.2.2 hL
  have hI : ∀ (j : Nat) (x1 : Int32), a ≤ 10 → zfy a b ≠ 2 → (zval ad (zup I a j b x1) G a j b = .int x1) ∧ (∀ k, k ≠ b → zval ad (zup I a j b x1) G a j k = zval ad I G a j k) ∧ ∀ q ∈ zo, q ≠ (a, j) → zce cI cZ cS ad (zup I a j b x1) G q.1 q.2 = zce cI cZ cS ad I G q.1 q.2 := by
    intro j x1 ha hf
    refine ⟨?_, fun k hk => ?_, fun q hq hne => ?_⟩
    · unfold zval zup
      rw [if_neg hf, if_pos ⟨rfl, rfl, rfl⟩]
    · have e1 : zup I a j b x1 a j k = I a j k := by
        unfold zup
        rw [if_neg (fun z => hk z.2.2)]
      unfold zval
      rw [e1]
    · have key : ∀ k, zup I a j b x1 q.1 q.2 k = I q.1 q.2 k := by
        intro k
        unfold zup
        rw [if_neg]
        intro z
        exact hne (Prod.ext z.1 z.2.1)
      unfold zce zfs zval
      simp only [key]
  rcases hai with rfl | rfl | rfl
  · rcases S with _ | ⟨v1, S0⟩
    · exact trivial
    rcases v1 with x1 | y | y
    rotate_left
    · exact trivial
    · exact trivial
    rcases S0 with _ | ⟨v2, S0⟩
    · exact trivial
    rcases v2 with y | y | y | ⟨c1, j⟩
    · exact trivial
    · exact trivial
    · exact trivial
    show zGd _ _ _ _ _ _ _ _ (if c1 = a ∧ c1 ≤ 10 ∧ b < znf c1 ∧ zfy c1 b = 0 then _ else _)
    by_cases q : c1 = a ∧ c1 ≤ 10 ∧ b < znf c1 ∧ zfy c1 b = 0
    · rw [if_pos q]
      obtain ⟨rfl, q2, q3, q4⟩ := q
      obtain ⟨g1, g2, g3⟩ := hI j x1 q2 (by omega)
      exact main j (zi x1) S0 q2 q3 rfl _ G (znar (Or.inl ⟨by rw [ztk_ok c1 q2 b q3, q4], x1, rfl⟩)) g1 g2 g3 (fun h _ => h)
    · rw [if_neg q]
      exact trivial
  · rcases S with _ | ⟨v1, S0⟩
    · exact trivial
    rcases v1 with x1 | y | y
    rotate_left
    · exact trivial
    · exact trivial
    rcases S0 with _ | ⟨v2, S0⟩
    · exact trivial
    rcases v2 with y | y | y | ⟨c1, j⟩
    · exact trivial
    · exact trivial
    · exact trivial
    show zGd _ _ _ _ _ _ _ _ (if c1 = a ∧ c1 ≤ 10 ∧ b < znf c1 ∧ zfy c1 b = 1 then (if x1 = 0 ∨ x1 = 1 then _ else _) else _)
    by_cases q : c1 = a ∧ c1 ≤ 10 ∧ b < znf c1 ∧ zfy c1 b = 1
    · rw [if_pos q]
      by_cases qz : x1 = 0 ∨ x1 = 1
      · rw [if_pos qz]
        obtain ⟨rfl, q2, q3, q4⟩ := q
        obtain ⟨g1, g2, g3⟩ := hI j x1 q2 (by omega)
        exact main j (zi x1) S0 q2 q3 rfl _ G (znar (Or.inr (Or.inl ⟨by rw [ztk_ok c1 q2 b q3, q4], qz.imp (fun z => by rw [z]; rfl) (fun z => by rw [z]; rfl)⟩))) g1 g2 g3 (fun h _ => h)
      · rw [if_neg qz]
        exact trivial
    · rw [if_neg q]
      exact trivial
  · rcases S with _ | ⟨v1, S0⟩
    · exact trivial
    rcases v1 with x1 | y | y | ⟨c2, j2⟩
    · exact trivial
    · exact trivial
    · exact trivial
    rcases S0 with _ | ⟨v2, S0⟩
    · exact trivial
    rcases v2 with y | y | y | ⟨c1, j⟩
    · exact trivial
    · exact trivial
    · exact trivial
    show zGd _ _ _ _ _ _ _ _ (if c1 = a ∧ c1 ≤ 10 ∧ b < znf c1 ∧ zfy c1 b = 2 then _ else _)
    by_cases q : c1 = a ∧ c1 ≤ 10 ∧ b < znf c1 ∧ zfy c1 b = 2
    · rw [if_pos q]
      obtain ⟨rfl, q2, q3, q4⟩ := q
      have key : ∀ (q : Nat × Nat) (k : Nat), q ≠ (c1, j) → zur G c1 j b (some (c2, j2)) q.1 q.2 k = G q.1 q.2 k := by
        intro q k hne
        unfold zur
        rw [if_neg]
        intro z
        exact hne (Prod.ext z.1 z.2.1)
      refine main j (zr c2 j2) S0 q2 q3 rfl I (zur G c1 j b (some (c2, j2))) (znar (Or.inr (Or.inr ⟨by rw [ztk_ok c1 q2 b q3, q4], _, rfl⟩))) ?_ ?_ ?_ ?_
      · unfold zval zur
        rw [if_pos q4, if_pos ⟨rfl, rfl, rfl⟩]
      · intro k hk
        have e1 : zur G c1 j b (some (c2, j2)) c1 j k = G c1 j k := by
          unfold zur
          rw [if_neg (fun z => hk z.2.2)]
        unfold zval
        rw [e1]
      · intro q hq hne
        unfold zce zfs zval
        simp only [key q _ hne]
      · intro h hv q hq k
        unfold zur
        by_cases z : q.1 = c1 ∧ q.2 = j ∧ k = b
        · rw [if_pos z]
          exact hv
        · rw [if_neg z]
          exact h q hq k
    · rw [if_neg q]
      exact trivial
end
