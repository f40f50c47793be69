/-! the model's school; the pair -/
section
variable {d : Nat} {I J : zMI} {rl rs : Option (Nat × Nat)} {Q : zPQ} {c : Nat → Nat} {N p a o : Nat} {B : List Int32} {C : List zCl}
theorem zmf_le {p : Nat} (cl : zCl) : (zmf [cl]).length ≤ cl.2.2.length + 1 := by
  rw [zmf, zmf, List.append_nil]
  split
  · rw [List.length_append, List.length_map, List.length_singleton]
    exact Nat.le_refl _
  · split
    · rw [List.length_append, List.length_map, List.length_singleton]
      exact Nat.le_refl _
    · exact Nat.zero_le _
/-- what a reader does behind a clause -/
def fAf (c : Nat → Nat) (N m q : Nat) (C : List zCl) : Nat × Option (List zCl) := if q = N then (q, some C) else if m = 0 then (q, none) else if c q = 59 then fRd c N m (q + 1) C else (q, none)
theorem fRd_s {c : Nat → Nat} {N m p : Nat} {C : List zCl} {q : Nat} {cl : zCl} (e : fCla c p = (q, some cl)) : fRd c N (m + 1) p C = fAf c N m q (C ++ [cl]) := by
  rw [fRd, e]
  rfl
theorem fRd_n {c : Nat → Nat} {N m p : Nat} {C : List zCl} {q : Nat} (e : fCla c p = (q, none)) : fRd c N (m + 1) p C = (q, none) := by
  rw [fRd, e]
set_option maxHeartbeats 4000000 in
set_option maxRecDepth 100000 in
theorem m_schoolLoop (hI : zTm2 I c N a) : ∀ (m q : Nat) (C : List zCl) (K : zMI), zMk a I K q C → q ≤ N → (zmf C).length ≤ q → C.length + m = 10 → (∀ q' C' K', fAf c N m q C = (q', some C') → (zmf C').length ≤ 140 → zMk a I K' q' C' → Q (some (zi (nI a))) (zup (zup K' 40 0 1 (K' 40 0 1 + 1)) 40 0 5 (nI a)) (zRR rl rs)) → (∀ q' K', fAf c N m q C = (q', none) → zFz a I K' → Q (some (zi (-10 - nI q'))) K' (zRR rl rs)) → zW (15 + d + 8) kX10_school (zblk kX10_school 2) [some (zr 10 0), some (zi (nI C.length))] [] K (zRR rl rs) Q := by
  have i2 := hI.2.1
  have i3 := hI.2.2.1
  have i6 := hI.2.2.2.2.2
  have wrong : ∀ (K : zMI) (q : Nat) (n : Int32), zMw a I K q → Q (some (zi (-10 - nI q))) K (zRR rl rs) → zW (15 + d + 8) kX10_school (zblk kX10_school 2) [some (zr 10 0), some (zi n)] [] K (zRR rl rs) Q := by
    intro K q n hK hq
    refine z_auto rfl ?_
    rw [hK.2.2]
    refine z_auto rfl ?_
    refine z_jp rfl ?_
    refine z_auto rfl ?_
    rw [hK.2.2]
    refine z_auto rfl ?_
    refine z_jp rfl ?_
    refine z_auto rfl ?_
    rw [hK.2.1]
    refine z_auto rfl ?_
    exact z_rt rfl hq
  have three : ∀ (K : zMI) (q : Nat) (n : Int32) (C : List zCl), zMk a I K q C → q ≤ N → (q = N → Q (some (zi (nI a))) (zup (zup K 40 0 1 (K 40 0 1 + 1)) 40 0 5 (nI a)) (zRR rl rs)) → (¬ q = N → Q (some (zi (-10 - nI q))) K (zRR rl rs)) → zW (15 + d + 8) kX10_school (zblk kX10_school 3) [some (zr 10 0), some (zi n)] [] K (zRR rl rs) Q := by
    intro K q n C hK hq k1 k0
    have k6 : K 10 0 6 = nI N := (hK.1 _ _ _ (by omega) (by omega)).trans hI.1
    have k4 : K 10 0 4 = nI a := (hK.1 _ _ _ (by omega) (by omega)).trans hI.2.2.2.2.1
    refine z_auto rfl ?_
    rw [hK.2.2.1]
    refine z_auto rfl ?_
    refine z_st rfl ?_
    refine z_auto rfl ?_
    rw [hK.2.1, k6]
    refine z_auto rfl ?_
    refine z_br rfl (fun c1 => ?_) (fun c1 => ?_)
    · have e : q = N := (nI_eq (by omega) (by omega)).mp c1
      refine z_auto rfl ?_
      refine z_ald (k := 1) rfl rfl (by decide) ?_
      refine z_auto rfl ?_
      refine z_ast (k := 1) rfl rfl (by decide) ?_
      have e4 : zup K 40 0 1 (K 40 0 1 + 1) 10 0 4 = nI a := by rw [zup_c (by decide)]; exact k4
      refine z_auto rfl ?_
      rw [e4]
      refine z_auto rfl ?_
      refine z_ast (k := 5) rfl rfl (by decide) ?_
      have e5 : zup (zup K 40 0 1 (K 40 0 1 + 1)) 40 0 5 (nI a) 10 0 4 = nI a := by rw [zup_c (by decide)]; exact e4
      refine z_auto rfl ?_
      rw [e5]
      refine z_auto rfl ?_
      exact z_rt rfl (k1 e)
    · have e : ¬ q = N := fun q2 => c1 (by rw [q2])
      refine z_auto rfl ?_
      refine z_jp rfl ?_
      refine z_auto rfl ?_
      rw [hK.2.1]
      refine z_auto rfl ?_
      exact z_rt rfl (k0 e)
  intro m
  induction m with
  | zero =>
    intro q C K hK hq hB hm h1 h0
    refine z_auto rfl ?_
    rw [hK.2.2.1]
    refine z_auto rfl ?_
    refine z_st rfl ?_
    refine z_auto rfl ?_
    refine z_br rfl (fun c1 => ?_) (fun c1 => ?_)
    · exact three K q _ C hK hq (fun e => h1 q C K (by rw [fAf, if_pos e]) (by omega) hK) (fun e => h0 q K (by rw [fAf, if_neg e, if_pos rfl]) hK.1)
    · exact absurd (nI_le (a := 10) (b := C.length) (by omega) (by omega)) c1
  | succ m ih =>
    intro q C K hK hq hB hm h1 h0
    have hP0 : zPq a K K q 0 (zmf C) := ⟨fun _ _ _ _ _ => rfl, hK.2.1, hK.2.2.1, hK.2.2.2.1, hK.2.2.2.2.1, hK.2.2.2.2.2.1⟩
    have hI2 := zTm2_J hI hK
    refine z_auto rfl ?_
    rw [hK.2.2.1]
    refine z_auto rfl ?_
    refine z_st rfl ?_
    refine z_auto rfl ?_
    refine z_br rfl (fun c1 => ?_) (fun c1 => ?_)
    · exact absurd c1 (Int32.not_le.mpr (nI_lt (a := C.length) (b := 10) (by omega) (by decide)))
    · refine z_auto rfl ?_
      refine z_cl rfl (m_here hI2 hP0.1 hP0.2.1 hq ?_)
      refine z_auto rfl ?_
      refine z_br rfl (fun c2 => ?_) (fun c2 => ?_)
      · have e : ¬ c q = 59 := fun q2 => c2 ((zN_eq (y := 59) (by decide)).mpr q2)
        exact three K q _ C hK hq (fun e2 => h1 q C K (by rw [fAf, if_pos e2]) (by omega) hK) (fun e2 => h0 q K (by rw [fAf, if_neg e2, if_neg (Nat.succ_ne_zero m), if_neg e]) hK.1)
      · have e : c q = 59 := (zN_eq (y := 59) (by decide)).mp (Classical.not_not.mp c2)
        have hqN : q < N := (i3 q).mp (by omega)
        have hgc := fCla_gd i3 (p := q + 1) hqN
        have eaf : fAf c N (m + 1) q C = fRd c N (m + 1) (q + 1) C := by rw [fAf, if_neg (by omega), if_neg (Nat.succ_ne_zero m), if_pos e]
        have hK1 : zMk a I (zup K 10 0 5 (nI (q + 1))) (q + 1) C := by
          obtain ⟨j1, j2, j3, j4, j5, j6, j7, j8⟩ := hK
          exact ⟨fun c i k a1 a2 => by rw [zup_ne (by omega)]; exact j1 c i k a1 a2, zup_eq, by rw [zup_k (by decide)]; exact j3, by rw [zup_k (by decide)]; exact j4, by rw [zup_c (by decide)]; exact j5, fun k x hk => by rw [zup_c (by decide)]; exact j6 k x hk, by rw [zup_c (by decide)]; exact j7, by rw [zup_c (by decide)]; exact j8⟩
        refine z_auto rfl ?_
        rw [hK.2.1]
        refine z_auto rfl ?_
        rw [show nI q + 1 = nI (q + 1) from (nI_succ q).symm]
        refine z_auto rfl ?_
        refine z_cl rfl (m_clause hI hK1 hqN (by omega) (fun r cl M ec hM => ?_) (fun r M ec hM => ?_))
        · rw [ec] at hgc
          obtain ⟨g1, g2, g3⟩ := hgc
          have g4 := (g3 cl rfl).1
          dsimp only at g1 g2 g4
          have hz := zmf_le (p := 0) cl
          have h5 := ih r (C ++ [cl]) M hM g1 (by rw [zmf_app, List.length_append]; omega) (by rw [List.length_append, List.length_singleton]; omega) (fun q' C' K' e2 hl hK' => h1 q' C' K' (by rw [eaf, fRd_s ec]; exact e2) hl hK') (fun q' K' e2 hK' => h0 q' K' (by rw [eaf, fRd_s ec]; exact e2) hK')
          rw [List.length_append, List.length_singleton, nI_succ] at h5
          refine z_auto rfl ?_
          refine z_jp rfl ?_
          exact h5
        · refine z_auto rfl ?_
          refine z_jp rfl ?_
          exact wrong M r _ hM (h0 r M (by rw [eaf, fRd_n ec]) hM.1)
/-- what a reading changes on the model's side -/
def zFw (a : Nat) (I J : zMI) : Prop := ∀ c i k, ¬ (c = 10 ∧ i = 0 ∧ 4 ≤ k ∧ k ≤ 8) → ¬ (c = 40 ∧ i = 0 ∧ (k = 4 ∨ k = 222 + a ∨ k = 227 + a ∨ k = 232 + a ∨ (237 + 140 * a ≤ k ∧ k < 377 + 140 * a))) → J c i k = I c i k
set_option maxHeartbeats 4000000 in
set_option maxRecDepth 100000 in
theorem m_school (hs1 : I 40 0 1 = nI a) (ha : a < 5) (hs4 : I 40 0 4 = nI N) (i2 : N ≤ 100) (i3 : ∀ p, c p < 128 ↔ p < N) (i4 : ∀ p, p < N → I 40 0 (122 + p) = nI (c p)) (h1 : ∀ q C K, fRd c N 10 0 [] = (q, some C) → zFw a I K → K 40 0 4 = 0 → (K 40 0 (232 + a) = nI (zmf C).length ∧ (zmf C).length ≤ 140 ∧ (∀ k x, (zmf C)[k]? = some x → K 40 0 (237 + 140 * a + k) = x) ∧ K 40 0 (222 + a) = zlast C 0 20 ∧ K 40 0 (227 + a) = zlast C 1 1) → Q (some (zi (nI a))) (zup (zup K 40 0 1 (nI (a + 1))) 40 0 5 (nI a)) (zRR rl rs)) (h0 : ∀ q K, fRd c N 10 0 [] = (q, none) → zFw a I K → K 40 0 4 = 0 → Q (some (zi (-10 - nI q))) K (zRR rl rs)) : zWm (15 + d + 8) 126 [zr 10 0] I (zRR rl rs) Q := by
  refine z_auto rfl ?_
  refine z_ald (k := 1) rfl rfl (by decide) ?_
  rw [hs1]
  refine z_auto rfl ?_
  refine z_br rfl (fun c1 => ?_) (fun c1 => ?_)
  · refine z_auto rfl ?_
    refine z_ald (k := 1) rfl rfl (by decide) ?_
    rw [hs1]
    refine z_auto rfl ?_
    refine z_ald (k := 4) rfl rfl (by decide) ?_
    rw [zup_c (by decide), hs4]
    refine z_auto rfl ?_
    refine z_ast (k := 4) rfl rfl (by decide) ?_
    have r4 : zup (zup (zup I 10 0 4 (nI a)) 10 0 6 (nI N)) 40 0 4 0 10 0 4 = nI a := by rw [zup_c (by decide), zup_k (by decide), zup_eq]
    refine z_auto rfl ?_
    rw [r4]
    refine z_auto rfl ?_
    refine z_ast (k := (222 + a)) rfl (nI_add 222 a) (by show 222 + a < 937; omega) ?_
    refine z_auto rfl ?_
    rw [zup_c (by decide), r4]
    refine z_auto rfl ?_
    refine z_ast (k := (227 + a)) rfl (nI_add 227 a) (by show 227 + a < 937; omega) ?_
    refine z_auto rfl ?_
    rw [zup_c (by decide), zup_c (by decide), r4]
    refine z_auto rfl ?_
    refine z_ast (k := (232 + a)) rfl (nI_add 232 a) (by show 232 + a < 937; omega) ?_
    refine z_auto rfl ?_
    refine z_ck rfl (show (0 : Int32) = 0 ∨ (0 : Int32) = 1 from Or.inl rfl) ?_
    refine z_auto rfl ?_
    obtain ⟨M, hM⟩ : ∃ M, M = zup (zup (zup (zup (zup (zup (zup (zup (zup I 10 0 4 (nI a)) 10 0 6 (nI N)) 40 0 4 0) 40 0 (222 + a) 20) 40 0 (227 + a) 1) 40 0 (232 + a) 0) 10 0 5 0) 10 0 7 0) 10 0 8 0 := ⟨_, rfl⟩
    rw [← hM]
    have fr : zFw a I M := fun c i k a1 a2 => by
      rw [hM]
      repeat rw [zup_ne (by omega)]
    have v4 : M 40 0 4 = 0 := by
      rw [hM]
      repeat (first | rw [zup_eq] | rw [zup_ne (by omega)])
    have v104 : M 10 0 4 = nI a := by
      rw [hM]
      repeat (first | rw [zup_eq] | rw [zup_ne (by omega)])
    have v106 : M 10 0 6 = nI N := by
      rw [hM]
      repeat (first | rw [zup_eq] | rw [zup_ne (by omega)])
    have v105 : M 10 0 5 = nI 0 := by
      rw [hM]
      repeat (first | rw [zup_eq] | rw [zup_ne (by omega)])
      rfl
    have v107 : M 10 0 7 = 0 := by
      rw [hM]
      repeat (first | rw [zup_eq] | rw [zup_ne (by omega)])
    have v108 : M 10 0 8 = nI 0 := by
      rw [hM]
      repeat (first | rw [zup_eq] | rw [zup_ne (by omega)])
      rfl
    have v222 : M 40 0 (222 + a) = 20 := by
      rw [hM]
      repeat (first | rw [zup_eq] | rw [zup_ne (by omega)])
    have v227 : M 40 0 (227 + a) = 1 := by
      rw [hM]
      repeat (first | rw [zup_eq] | rw [zup_ne (by omega)])
    have v232 : M 40 0 (232 + a) = nI 0 := by
      rw [hM]
      repeat (first | rw [zup_eq] | rw [zup_ne (by omega)])
      rfl
    clear hM
    have hT : zTm2 M c N a := ⟨v106, i2, i3, fun p hp => (fr _ _ _ (by omega) (by omega)).trans (i4 p hp), v104, ha⟩
    have hK0 : zMk a M M 0 [] := ⟨fun _ _ _ _ _ => rfl, v105, v107, v108, v232, fun k x hk => (by rw [show zmf [] = [] from rfl, List.getElem?_nil] at hk; cases hk), v222, v227⟩
    have hgc := fCla_gd i3 (Nat.zero_le N)
    have cmb : ∀ K, zFz a M K → zFw a I K ∧ K 40 0 4 = 0 ∧ K 40 0 1 = nI a := fun K hK => ⟨fun c i k a1 a2 => (hK c i k (by omega) (by omega)).trans (fr c i k a1 a2), (hK _ _ _ (by omega) (by omega)).trans v4, (hK _ _ _ (by omega) (by omega)).trans ((fr _ _ _ (by omega) (by omega)).trans hs1)⟩
    refine z_auto rfl ?_
    refine z_cl rfl (m_clause hT hK0 (Nat.zero_le _) (Nat.le_refl _) (fun r cl P ec hP => ?_) (fun r P ec hP => ?_))
    · rw [ec] at hgc
      obtain ⟨g1, g2, g3⟩ := hgc
      have g4 := (g3 cl rfl).1
      dsimp only at g1 g2 g4
      have hz := zmf_le (p := 0) cl
      have h5 := m_schoolLoop (d := d) (Q := Q) (rl := rl) (rs := rs) hT 9 r ([] ++ [cl]) P hP g1 (by rw [zmf_app, List.length_append]; show 0 + _ ≤ _; omega) rfl (fun q' C' K' e2 hl hK' => by
        obtain ⟨x1, x2, x3⟩ := cmb K' hK'.1
        have := h1 q' C' K' (by rw [fRd_s ec]; exact e2) x1 x2 ⟨hK'.2.2.2.2.1, hl, hK'.2.2.2.2.2.1, hK'.2.2.2.2.2.2.1, hK'.2.2.2.2.2.2.2⟩
        rw [x3, show nI a + 1 = nI (a + 1) from (nI_succ a).symm]
        exact this) (fun q' K' e2 hK' => h0 q' K' (by rw [fRd_s ec]; exact e2) (cmb K' hK').1 (cmb K' hK').2.1)
      refine z_auto rfl ?_
      refine z_jp rfl ?_
      exact h5
    · have h9 := h0 r P (fRd_n ec) (cmb P hP.1).1 (cmb P hP.1).2.1
      refine z_auto rfl ?_
      refine z_jp rfl ?_
      refine z_auto rfl ?_
      rw [hP.2.2]
      refine z_auto rfl ?_
      refine z_jp rfl ?_
      refine z_auto rfl ?_
      rw [hP.2.2]
      refine z_auto rfl ?_
      refine z_jp rfl ?_
      refine z_auto rfl ?_
      rw [hP.2.1]
      refine z_auto rfl ?_
      exact z_rt rfl h9
  · exact absurd ((nI_eq (a := a) (b := 5) (by omega) (by decide)).mp (Classical.not_not.mp c1)) (by omega)
end
