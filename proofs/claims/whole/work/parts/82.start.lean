/-! THE LAW's START: classes, arrays, texts, out of what the Statement gives -/
section
variable {s : State} {args : Array Value}
theorem lw_zgw (hts : ∀ w ∈ lw_tbl, w.before args s = true) : ∀ w ∈ zgw, w.before args s = true := fun w hw => hts w (zgw_in hw).1
def zinP : List Nat := [321, 87, 158, 277, 110, 229, 235, 173, 93, 79, 835]
set_option maxRecDepth 100000 in
theorem zin_ok : ∀ c, c < 11 → lw_tbl[zgn zinP c]? = some (Cond.instantiable (zcn c) (znf c)) := by decide +kernel
theorem lw_cls (hts : ∀ w ∈ lw_tbl, w.before args s = true) : ∃ (dC : Nat → ClassId) (dI : Nat → Nat → Nat), ∀ (k : Nat) (q : vw_C), vwCl[k]? = some q → u_Kn s q.1 q.2.1 q.2.2 (dC k) (dI k) := by
  have h : ∀ c, ∃ r : ClassId × (Nat → Nat), c < 11 → u_Kn s (zcn c) (zct c) (znf c) r.1 r.2 := by
    intro c
    by_cases hc : c < 11
    · obtain ⟨cC, iS, hk⟩ := u_known (C := zcn c) (T := zct c) (N := znf c) (n := znf c) (lw_zgw hts) (zuw c (by omega)) (hts _ (List.mem_of_getElem? (zin_ok c hc)))
      exact ⟨(cC, iS), fun _ => hk⟩
    · exact ⟨(0, fun _ => 0), fun q => absurd q hc⟩
  refine ⟨fun c => (Classical.choose (h c)).1, fun c => (Classical.choose (h c)).2, fun k q hq => ?_⟩
  have hk : k < 11 := (List.getElem?_eq_some_iff.mp hq).1
  have := Classical.choose_spec (h k) hk
  rw [zvw k (by omega)] at hq
  cases hq
  exact this
theorem lw_arr {ty : FieldType} (h : (Cond.arrayClass ty).before args s = true) (hn : ∀ C, ty ≠ .object C) : ∃ cA : ClassId, ArrOfT s cA ty ∧ va_RA s cA ty := by
  obtain ⟨cA, kA, comp, hfind, hk, hkind⟩ := Cond.arrayClass_spec h
  refine ⟨cA, fun n z => ⟨fun k h => ?_, kA, hk, comp, hkind⟩, ?_⟩
  · cases h
  · cases ty <;> first | exact hfind | exact absurd rfl (hn _)
def zstm (i : Nat) : Term := .string "EggDrop$Reader" (zgn [74, 80, 82, 84, 96, 102] i)
def zGV : Jvm.Cond := Jvm.Cond.and given_1 narrow_1
set_option maxRecDepth 100000 in
theorem lw_s1 : ∀ i, i < 6 → (Cond.exactly (zstm i) "java/lang/String") ∈ flatC zGV := by decide +kernel
set_option maxRecDepth 100000 in
theorem lw_s2 : ∀ i, i < 6 → (Cond.eq (.field (zstm i) "java/lang/String" "coder" "B") (.int 0)) ∈ flatC zGV := by decide +kernel
set_option maxRecDepth 100000 in
theorem lw_s3 : ∀ i, i < 6 → (Cond.arrayOf (.field (zstm i) "java/lang/String" "value" "[B") .byte) ∈ flatC zGV := by decide +kernel
set_option maxRecDepth 100000 in
theorem lw_s4 : ∀ i, i < 6 → (Cond.eq (.length (.field (zstm i) "java/lang/String" "value" "[B")) (.int (Int32.ofNat ((zstL.map List.length).getD i 0)))) ∈ flatC zGV := by decide +kernel
set_option maxRecDepth 100000 in
theorem lw_s5 : ∀ i, i < 6 → ∀ j, j < (zstL.map List.length).getD i 0 → (Cond.eq (.elem (.field (zstm i) "java/lang/String" "value" "[B") (.int (Int32.ofNat j))) (.int ((zstL.getD i []).getD j 0))) ∈ flatC zGV := by decide +kernel
set_option maxRecDepth 100000 in
theorem lw_s6 : ∀ i, i < 6 → ∀ j, j < 6 → i < j → (Cond.not (Cond.eq (zstm i) (zstm j))) ∈ flatC zGV := by decide +kernel
set_option maxRecDepth 100000 in
theorem lw_s7 : ∀ e ∈ zSL, e.1 = 5 ∧ zgn [74, 80, 82, 84, 96, 102] e.2.2.1 = e.2.1 ∧ e.2.2.1 < 6 ∨ e.1 = 10 ∧ e.2.2.1 < 6 ∧ ((Cond.eq (zstm e.2.2.1) (.string "EggDropModel" e.2.1)) ∈ flatC zGV) := by decide +kernel
def zsrP : List Nat := [406, 463, 464, 465, 482, 487, 978, 983, 937, 956, 957, 984]
set_option maxRecDepth 100000 in
theorem lw_s8 : ∀ k, k < 12 → ∀ e, zSL[k]? = some e → lw_tbl[zgn zsrP k]? = some (Cond.stringRef (zcn e.1) e.2.1 (zstT.getD e.2.2.1 "")) := by
  intro k hk e he
  match k, hk with
  | 0, _ => cases he; decide +kernel
  | 1, _ => cases he; decide +kernel
  | 2, _ => cases he; decide +kernel
  | 3, _ => cases he; decide +kernel
  | 4, _ => cases he; decide +kernel
  | 5, _ => cases he; decide +kernel
  | 6, _ => cases he; decide +kernel
  | 7, _ => cases he; decide +kernel
  | 8, _ => cases he; decide +kernel
  | 9, _ => cases he; decide +kernel
  | 10, _ => cases he; decide +kernel
  | 11, _ => cases he; decide +kernel
  | k + 12, hk => exact absurd hk (by omega)
set_option maxRecDepth 100000 in
theorem lw_t : ∀ j, j < 7 → (Cond.eq (.elem (.static "EggDrop$Layers" "ABOVE" "[I") (.int (Int32.ofNat j))) (.int (ztab j))) ∈ flatC zGV := by decide +kernel
theorem lw_eqR {t1 t2 : Term} {a : Nat} (h : (Cond.eq t1 t2).before args s = true) (h1 : t1.eval args s none [] s = some (.ref a)) : t2.eval args s none [] s = some (.ref a) := by
  simp only [Cond.before, Cond.holds, Cond.value, h1] at h
  cases h2 : t2.eval args s none [] s with
  | none => simp [h2] at h
  | some w =>
    rw [h2] at h
    cases w <;> simp_all
theorem lw_zSt (hts : ∀ w ∈ lw_tbl, w.before args s = true) (hgv : zGV.before args s = true) : ∃ (sa adV : Nat → Nat) (ta : Nat), ∀ ad : zAD, (∀ i, ad 60 i = sa i) → ad 61 0 = ta → zSt ad adV (fun q => s.heap.size ≤ q) s s.heap := by
  have hs := flat_of_before _ hgv
  have hA : ∀ a : Nat, a < s.heap.size → ¬ (fun q => s.heap.size ≤ q) a := fun a h => Nat.not_le.mpr h
  obtain ⟨sa, adV, hS, hE⟩ := vk_Sof (args := args) (s := s) (N := 6) (tm := zstm) (len := zstL.map List.length) (byt := zstL) (A := fun q => s.heap.size ≤ q) (by decide) (fun i hi => hs _ (lw_s1 i hi)) (fun i hi => hs _ (lw_s2 i hi)) (fun i hi => hs _ (lw_s3 i hi)) (fun i hi => hs _ (lw_s4 i hi)) (fun i hi j hj => hs _ (lw_s5 i hi j hj)) (fun i j hi hj hij => by
    rcases Nat.lt_or_ge i j with q | q
    · exact Or.inl (hs _ (lw_s6 i hi j hj q))
    · exact Or.inr (hs _ (lw_s6 j hj i hi (by omega)))) hA
  obtain ⟨ta, hta, hT⟩ := va_Tof (tm := .static "EggDrop$Layers" "ABOVE" "[I") (ty := .int) (N := 7) (f := fun j => .int (ztab j)) (A := fun q => s.heap.size ≤ q) (by decide) (hs _ (by decide +kernel)) (va_eqt (hs _ (by decide +kernel))) (fun j hj => va_eqt (hs _ (lw_t j hj))) hA
  refine ⟨sa, adV, ta, fun ad h60 h61 => ⟨?_, ?_, ?_, ?_, ?_, fun e he => ?_⟩⟩
  · rw [show ad 60 = sa from funext h60]
    exact hS
  · rw [h61]
    exact va_Zref (hts _ (List.mem_of_getElem? (i := 801) (by decide +kernel))) (hts _ (List.mem_of_getElem? (i := 64) (by decide +kernel))) hta hA
  · rw [h61]
    exact hT
  · exact va_Zof (hts _ (List.mem_of_getElem? (i := 420) (by decide +kernel))) (hts _ (List.mem_of_getElem? (i := 73) (by decide +kernel))) (va_eqi (hs _ (by decide +kernel))) hA
  · exact va_Zqof (hts _ (List.mem_of_getElem? (i := 436) (by decide +kernel))) (hts _ (List.mem_of_getElem? (i := 75) (by decide +kernel))) (hs _ (by decide +kernel)) hA
  · obtain ⟨k, hk⟩ := List.getElem?_of_mem he
    have hk2 : k < 12 := (List.getElem?_eq_some_iff.mp hk).1
    refine vk_R.of (A := args) (hts _ (List.mem_of_getElem? (lw_s8 k hk2 e hk))) ?_
    rw [h60]
    rcases lw_s7 e he with ⟨q1, q2, q3⟩ | ⟨q1, q2, q3⟩
    · have := hE _ q3
      rw [zstm, q2] at this
      rw [q1]
      exact this
    · rw [q1]
      exact lw_eqR (hs _ q3) (hE _ q2)
end
