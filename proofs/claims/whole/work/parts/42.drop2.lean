/-! drop -/
theorem gFt_bits {A : Nat → Nat → Int32} {fl sd out : Int32} {N : Nat} : ∀ (n : Nat) (s : Int32 × Int32), n ≤ N → n ≤ 8 → (∀ i, N ≤ i → bt s.2 i = false) → ∀ i, N ≤ i → bt (gFt A fl sd out n s).2 i = false
  | 0, _, _, _, h => h
  | n + 1, s, hn, h8, h => by
    have h2 := gFt_bits (A := A) (fl := fl) (sd := sd) (out := out) n s (by omega) (by omega) h
    intro i hi
    rw [gFt, gFs]
    split
    · dsimp only
      split
      · rw [b_or, h2 i hi]
        by_cases q : i < 32
        · rw [b_sh1 n (by omega) q]
          simp
          omega
        · rw [b_big (by omega)]; rfl
      · exact h2 i hi
    · exact h2 i hi
theorem fAll_bits {I : zMI} {C : List zCl} {n t : Nat} {f a add out : Int32} (h8 : n ≤ 8) (h : ∀ i, n ≤ i → bt (I 4 0 6) i = false) : ∀ i, n ≤ i → bt (fAll I C n t f a add out).2.1.2.2 i = false := by
  unfold fAll
  dsimp only
  unfold fFl
  split
  · exact gFt_bits n _ (Nat.le_refl _) h8 h
  · exact gFt_bits n _ (Nat.le_refl _) h8 (gFt_bits n _ (Nat.le_refl _) h8 h)
theorem zup_ne {I : zMI} {c i k c' i' k' : Nat} {v : Int32} (h : ¬ (c = c' ∧ i = i' ∧ k = k')) : zup I c' i' k' v c i k = I c i k := if_neg h
/-- a fall that is kept -/
theorem zRel_drop {I F : zMI} (hR : zRel I) {n t : Nat} (hn : I 40 0 0 = nI n) (h8 : n ≤ 8) (ht : t < 9999) {A W B : Int32} (hB : ∀ i, n ≤ i → bt B i = false) (hW : W = 0 ∨ W = 1)
    (h : ∀ c i k, c ≠ 3 → c ≠ 34 → c ≠ 42 → c ≠ 43 → c ≠ 44 → c ≠ 51 → (c ≠ 2 ∨ i ≠ 2) → (c ≠ 10 ∨ (k < 11 ∨ 20 ≤ k)) → ¬ (c = 2 ∧ i = 0) → ¬ (c = 1 ∧ i = 0 ∧ k = 6) → ¬ (c = 4 ∧ i = 0 ∧ k = 6) → ¬ (c = 40 ∧ 6 ≤ k ∧ k ≤ 9) → F c i k = I c i k)
    (f14 : F 10 0 14 = 0) (f15 : F 10 0 15 = 0) (e1 : F 1 0 6 = nI (t + 1)) (e2 : F 40 0 6 = nI (t + 1)) (e3 : F 2 0 0 = A) (e4 : F 40 0 7 = A) (e5 : F 2 0 1 = W) (e6 : F 40 0 8 = if W = 0 then 1 else 0) (e7 : F 4 0 6 = B) (e8 : F 40 0 9 = B) : zRel F := by
  let X : zMI := fun c i k => if (c = 2 ∧ i = 0) ∨ (c = 1 ∧ i = 0 ∧ k = 6) ∨ (c = 4 ∧ i = 0 ∧ k = 6) ∨ (c = 40 ∧ 6 ≤ k ∧ k ≤ 9) then I c i k else F c i k
  have hX : ∀ c i k, X c i k = if (c = 2 ∧ i = 0) ∨ (c = 1 ∧ i = 0 ∧ k = 6) ∨ (c = 4 ∧ i = 0 ∧ k = 6) ∨ (c = 40 ∧ 6 ≤ k ∧ k ≤ 9) then I c i k else F c i k := fun _ _ _ => rfl
  clear_value X
  have hXI : zFa I X := by
    intro c i k a1 a2 a3 a4 a5 a6 a7 a8
    rw [hX]
    split
    · rfl
    · exact h c i k a1 a2 a3 a4 a5 a6 a7 a8 (by omega) (by omega) (by omega) (by omega)
  have hRX : zRel X := zRel_fr hXI (by rw [hX, if_neg (by omega)]; exact f14) (by rw [hX, if_neg (by omega)]; exact f15) hR
  refine zRel_D hRX (fun c i k h1 h2 h3 h4 => ?_) (fun t' _ => ?_) (fun n' g1 g2 g3 g4 => ?_)
  · rw [hX, if_neg (by omega)]
  · refine ⟨t + 1, e1, e2, by omega, e3.trans e4.symm, ?_⟩
    rcases hW with q | q
    · exact Or.inr ⟨by rw [e5, q], by rw [e6, q]; rfl⟩
    · exact Or.inl ⟨by rw [e5, q], by rw [e6, q]; rfl⟩
  · refine ⟨e7.trans e8.symm, fun i hi => ?_⟩
    rw [e8]
    apply hB
    have : X 40 0 0 = I 40 0 0 := hXI 40 0 0 (by decide) (by decide) (by decide) (by decide) (by decide) (by decide) (by decide) (by decide)
    rw [(nI_eq (a := n) (b := n') (by omega) (by omega)).mp (hn.symm.trans (this.symm.trans g1))]
    exact hi
set_option maxHeartbeats 4000000 in
set_option maxRecDepth 100000 in
theorem p_drop (x1 x2 : Int32) : zPr 73 144 [zi x1, zi x2] := by
  intro d I rl rs hR
  rcases n_cases x1 20 (by decide) with ⟨f, hf, rfl⟩ | hx1
  · rcases n_cases x2 3 (by decide) with ⟨a, ha, rfl⟩ | hx2
    · obtain ⟨C, n, k, t, hS, h14, h15⟩ := r_st hR
      obtain ⟨e1, e2, e3, e4, e5⟩ := hS.1.2.2.2.2.2
      have hb1 := hS.1.1
      refine z_auto rfl ?_
      refine z_cl rfl (c_isFloor_y hf ?_)
      refine z_auto rfl ?_
      refine z_st rfl ?_
      refine z_auto rfl ?_
      refine z_cl rfl (c_isSide_y ha ?_)
      refine z_auto rfl ?_
      refine z_jp rfl ?_
      refine z_auto rfl ?_
      refine z_br rfl (fun c => ?_) (fun c => ?_)
      · have s8 : I 40 0 8 = 1 := by
          rcases e5 with q | q
          · rw [q.1] at c; exact absurd c (by decide)
          · exact q.2
        refine z_auto rfl ?_
        refine z_rt rfl (zPr_i (fun rl' rs' => ?_))
        refine z_auto rfl ?_
        refine z_cl rfl (m_isFloor_y hf ?_)
        refine z_auto rfl ?_
        refine z_st rfl ?_
        refine z_auto rfl ?_
        refine z_cl rfl (m_isSide_y ha ?_)
        refine z_auto rfl ?_
        refine z_jp rfl ?_
        refine z_auto rfl ?_
        refine z_ald (k := 8) rfl rfl (by decide) ?_
        rw [s8]
        refine z_auto rfl ?_
        refine z_jp rfl ?_
        refine z_auto rfl ?_
        exact z_rt rfl (zPr_o hR)
      · have s8 : I 40 0 8 = 0 := by
          rcases e5 with q | q
          · exact q.2
          · exact absurd q.1 c
        refine z_auto rfl ?_
        rw [e1]
        refine z_auto rfl ?_
        refine z_br rfl (fun c2 => ?_) (fun c2 => ?_)
        · have ht : t < 9999 := by
            apply Classical.byContradiction
            intro q
            exact absurd c2 (Int32.not_lt.mpr (nI_le (a := 9999) (b := t) (by omega) (by omega)))
          refine z_auto rfl ?_
          refine z_cl rfl (s_letFall hS.2.1 (fun J hJ hE => ?_))
          have hw01 : (fEg I C n t (nI f) (nI a) 0 0 (zlast C 0 20) (I 2 0 0, I 2 0 1)).2 = 0 ∨ (fEg I C n t (nI f) (nI a) 0 0 (zlast C 0 20) (I 2 0 0, I 2 0 1)).2 = 1 := fEg_01 hS.2.1.2.2.2.2.2.2.2
          have e21 : J 2 2 0 = (fEg I C n t (nI f) (nI a) 0 0 (zlast C 0 20) (I 2 0 0, I 2 0 1)).1 := congrArg Prod.fst hE
          have e22 : J 2 2 1 = (fEg I C n t (nI f) (nI a) 0 0 (zlast C 0 20) (I 2 0 0, I 2 0 1)).2 := congrArg Prod.snd hE
          obtain ⟨hJ0, g1, g7, g8, g2, g9⟩ := hJ
          have j106 : J 1 0 6 = nI t := (hJ0 1 0 6 (by decide) (by decide) (Or.inl (by decide))).trans e1
          have hbits := fAll_bits (I := I) (C := C) (n := n) (t := t) (f := nI f) (a := nI a) (add := 0) (out := 0) hb1.2.2.1 (by rw [hb1.2.2.2.2.2.2.1]; exact hb1.2.2.2.2.2.2.2)
          refine z_auto rfl ?_
          refine z_cl rfl (s_eggCopy (by rw [e22]; exact hw01) ?_)
          refine z_auto rfl ?_
          try simp (decide := true) only [zup_eq, zup_cf, zup_i, zup_k, zLy_3, zLy_34, ne_eq, not_false_eq_true]
          rw [e21, e22, g2, j106, ← nI_succ]
          obtain ⟨M, hM⟩ : ∃ M, M = zup (zup (zup (zup J 2 0 0 (fEg I C n t (nI f) (nI a) 0 0 (zlast C 0 20) (I 2 0 0, I 2 0 1)).1) 2 0 1 (fEg I C n t (nI f) (nI a) 0 0 (zlast C 0 20) (I 2 0 0, I 2 0 1)).2) 4 0 6 (fAll I C n t (nI f) (nI a) 0 0).2.1.2.2) 1 0 6 (nI (t + 1)) := ⟨_, rfl⟩
          rw [← hM]
          have m40 : M 40 0 = I 40 0 := by rw [hM, zup_cf (by decide), zup_cf (by decide), zup_cf (by decide), zup_cf (by decide)]; exact zFr_f hJ0 (by decide) (by decide) (by decide)
          have m14 : M 10 0 14 = 0 := by rw [hM, zup_c (by decide), zup_c (by decide), zup_c (by decide), zup_c (by decide)]; exact (zFr_14 hJ0).trans h14
          have m15 : M 10 0 15 = nI 0 := by rw [hM, zup_c (by decide), zup_c (by decide), zup_c (by decide), zup_c (by decide)]; exact (zFr_15 hJ0).trans h15
          have m37 : M 3 0 7 = (fAll I C n t (nI f) (nI a) 0 0).2.1.1 := by rw [hM, zup_c (by decide), zup_c (by decide), zup_c (by decide), zup_c (by decide)]; exact g7
          have m38 : M 3 0 8 = (fAll I C n t (nI f) (nI a) 0 0).2.1.2.1 := by rw [hM, zup_c (by decide), zup_c (by decide), zup_c (by decide), zup_c (by decide)]; exact g8
          refine z_auto rfl ?_
          refine z_auto rfl ?_
          refine z_cl rfl (s_force ?_)
          rw [m37, m38]
          refine z_auto rfl ?_
          refine z_rt rfl (zPr_i (fun rl' rs' => ?_))
          refine z_auto rfl ?_
          refine z_cl rfl (m_isFloor_y hf ?_)
          refine z_auto rfl ?_
          refine z_st rfl ?_
          refine z_auto rfl ?_
          refine z_cl rfl (m_isSide_y ha ?_)
          refine z_auto rfl ?_
          refine z_jp rfl ?_
          refine z_auto rfl ?_
          refine z_ald (k := 8) rfl rfl (by decide) ?_
          rw [m40, s8]
          refine z_auto rfl ?_
          refine z_st rfl ?_
          refine z_auto rfl ?_
          refine z_ald (k := 6) rfl rfl (by decide) ?_
          rw [m40, e2]
          refine z_auto rfl ?_
          refine z_br rfl (fun c3 => ?_) (fun c3 => ?_)
          · refine z_auto rfl ?_
            refine z_cl rfl (m_fm hS m40 hf (by decide) m15 m14 (fun K hK k19 k16 k17 => ?_))
            have k17a : K 10 0 17 = (fEg I C n t (nI f) (nI a) 0 0 (zlast C 0 20) (I 2 0 0, I 2 0 1)).1 := congrArg Prod.fst k17
            have k18a : K 10 0 18 = (fEg I C n t (nI f) (nI a) 0 0 (zlast C 0 20) (I 2 0 0, I 2 0 1)).2 := congrArg Prod.snd k17
            have k406 : K 40 0 6 = nI t := by rw [zFM_f hK (by decide) (by decide) (by decide), m40, e2]
            refine z_auto rfl ?_
            refine z_ast (k := 9) rfl rfl (by decide) ?_
            refine z_auto rfl ?_
            refine z_ast (k := 7) rfl rfl (by decide) ?_
            try simp (decide := true) only [zup_eq, zup_cf, zup_i, zup_k, zLy_3, zLy_34, ne_eq, not_false_eq_true]
            rw [k16, k17a]
            have key : ∀ w : Int32, (w = if (fEg I C n t (nI f) (nI a) 0 0 (zlast C 0 20) (I 2 0 0, I 2 0 1)).2 = 0 then 1 else 0) → zW (d + 12) kX10_drop (zblk kX10_drop 6) [some (zr 10 0), some (zi (nI f)), some (zi (nI a)), some (zi (fFo I C n t (nI f) (nI a) (nI 0) 0))] [zi w, zi 8, zr 40 0] (zup (zup K 40 0 9 (fAll I C n t (nI f) (nI a) 0 0).2.1.2.2) 40 0 7 (fEg I C n t (nI f) (nI a) 0 0 (zlast C 0 20) (I 2 0 0, I 2 0 1)).1) (zRR rl' rs') (fun v2 I2 G2 => some (zi (if (fAll I C n t (nI f) (nI a) 0 0).2.1.1 < (fAll I C n t (nI f) (nI a) 0 0).2.1.2.1 then (fAll I C n t (nI f) (nI a) 0 0).2.1.2.1 else (fAll I C n t (nI f) (nI a) 0 0).2.1.1)) = v2 ∧ zRel I2 ∧ ∃ rl2 rs2, G2 = zRR rl2 rs2) := by
              intro w hw
              refine z_auto rfl ?_
              refine z_ast (k := 8) rfl rfl (by decide) ?_
              refine z_auto rfl ?_
              refine z_ald (k := 6) rfl rfl (by decide) ?_
              try simp (decide := true) only [zup_eq, zup_cf, zup_i, zup_k, zLy_3, zLy_34, ne_eq, not_false_eq_true]
              rw [k406]
              refine z_auto rfl ?_
              refine z_ast (k := 6) rfl rfl (by decide) ?_
              rw [← nI_succ]
              refine z_auto rfl ?_
              refine z_rt rfl (zPr_o2 rfl (zRel_drop (A := (fEg I C n t (nI f) (nI a) 0 0 (zlast C 0 20) (I 2 0 0, I 2 0 1)).1) hR hb1.2.1 hb1.2.2.1 ht hbits hw01 ?_ ?_ ?_ ?_ ?_ ?_ ?_ ?_ ?_ ?_ ?_))
              · intro c i k a1 a2 a3 a4 a5 a6 a7 a8 a9 a10 a11 a12
                rw [zup_ne (by omega), zup_ne (by omega), zup_ne (by omega), zup_ne (by omega), hK c i k a3 a4 (by omega), hM, zup_ne (by omega), zup_ne (by omega), zup_ne (by omega), zup_ne (by omega)]
                exact hJ0 c i k a1 a2 a7
              · rw [zup_ne (by omega), zup_ne (by omega), zup_ne (by omega), zup_ne (by omega)]
                exact (zFM_14 hK).trans m14
              · rw [zup_ne (by omega), zup_ne (by omega), zup_ne (by omega), zup_ne (by omega)]
                exact (zFM_15 hK).trans m15
              · rw [zup_ne (by omega), zup_ne (by omega), zup_ne (by omega), zup_ne (by omega), hK 1 0 6 (by omega) (by omega) (by omega), hM, zup_eq]
              · rw [zup_eq]
              · rw [zup_ne (by omega), zup_ne (by omega), zup_ne (by omega), zup_ne (by omega), hK 2 0 0 (by omega) (by omega) (by omega), hM, zup_ne (by omega), zup_ne (by omega), zup_ne (by omega), zup_eq]
              · rw [zup_ne (by omega), zup_ne (by omega), zup_eq]
              · rw [zup_ne (by omega), zup_ne (by omega), zup_ne (by omega), zup_ne (by omega), hK 2 0 1 (by omega) (by omega) (by omega), hM, zup_ne (by omega), zup_ne (by omega), zup_eq]
              · rw [zup_ne (by omega), zup_eq]
                exact hw
              · rw [zup_ne (by omega), zup_ne (by omega), zup_ne (by omega), zup_ne (by omega), hK 4 0 6 (by omega) (by omega) (by omega), hM, zup_ne (by omega), zup_eq]
              · rw [zup_ne (by omega), zup_ne (by omega), zup_ne (by omega), zup_eq]
            refine z_auto rfl ?_
            try simp (decide := true) only [zup_eq, zup_cf, zup_i, zup_k, zLy_3, zLy_34, ne_eq, not_false_eq_true]
            rw [k18a]
            refine z_auto rfl ?_
            refine z_br rfl (fun c4 => ?_) (fun c4 => ?_)
            · refine z_auto rfl ?_
              refine z_jp rfl ?_
              exact key 1 (by rw [if_pos c4])
            · refine z_auto rfl ?_
              refine z_jp rfl ?_
              exact key 0 (by rw [if_neg c4])
          · exact absurd ((nI_eq (a := t) (b := 9999) (by omega) (by decide)).mp (Classical.not_not.mp c3)) (by omega)
        · have ht : t = 9999 := by
            apply Classical.byContradiction
            intro q
            exact c2 (nI_lt (a := t) (b := 9999) (by omega) (by decide))
          subst ht
          refine z_auto rfl ?_
          refine z_jp rfl ?_
          refine z_auto rfl ?_
          refine z_rt rfl (zPr_i (fun rl' rs' => ?_))
          refine z_auto rfl ?_
          refine z_cl rfl (m_isFloor_y hf ?_)
          refine z_auto rfl ?_
          refine z_st rfl ?_
          refine z_auto rfl ?_
          refine z_cl rfl (m_isSide_y ha ?_)
          refine z_auto rfl ?_
          refine z_jp rfl ?_
          refine z_auto rfl ?_
          refine z_ald (k := 8) rfl rfl (by decide) ?_
          rw [s8]
          refine z_auto rfl ?_
          refine z_st rfl ?_
          refine z_auto rfl ?_
          refine z_ald (k := 6) rfl rfl (by decide) ?_
          rw [e2]
          refine z_auto rfl ?_
          refine z_st rfl ?_
          refine z_auto rfl ?_
          refine z_jp rfl ?_
          refine z_auto rfl ?_
          exact z_rt rfl (zPr_o hR)
    · refine z_auto rfl ?_
      refine z_cl rfl (c_isFloor_y hf ?_)
      refine z_auto rfl ?_
      refine z_st rfl ?_
      refine z_auto rfl ?_
      refine z_cl rfl (c_isSide_n hx2 ?_)
      refine z_auto rfl ?_
      refine z_st rfl ?_
      refine z_auto rfl ?_
      refine z_jp rfl ?_
      refine z_auto rfl ?_
      refine z_rt rfl (zPr_i (fun rl' rs' => ?_))
      refine z_auto rfl ?_
      refine z_cl rfl (m_isFloor_y hf ?_)
      refine z_auto rfl ?_
      refine z_st rfl ?_
      refine z_auto rfl ?_
      refine z_cl rfl (m_isSide_n hx2 ?_)
      refine z_auto rfl ?_
      refine z_st rfl ?_
      refine z_auto rfl ?_
      refine z_jp rfl ?_
      refine z_auto rfl ?_
      exact z_rt rfl (zPr_o hR)
  · refine z_auto rfl ?_
    refine z_cl rfl (c_isFloor_n hx1 ?_)
    refine z_auto rfl ?_
    refine z_jp rfl ?_
    refine z_auto rfl ?_
    refine z_rt rfl (zPr_i (fun rl' rs' => ?_))
    refine z_auto rfl ?_
    refine z_cl rfl (m_isFloor_n hx1 ?_)
    refine z_auto rfl ?_
    refine z_jp rfl ?_
    refine z_auto rfl ?_
    exact z_rt rfl (zPr_o hR)
