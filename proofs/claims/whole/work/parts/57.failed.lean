/-! failed -/
def fMk (b : Nat → Int32) (x : Int32) : Nat → Int32
  | 0 => 0
  | m + 1 => if b m = x then fMk b x m ||| (1 <<< (nI m &&& 31)) else fMk b x m
theorem b_all : ∀ n, n ≤ 8 → ∀ i, i < 32 → bt ((1 <<< (nI n &&& 31)) - 1) i = decide (i < n) := by decide +kernel
theorem b_neg {x : Int32} (h : x < 0) : bt x 31 = true := by
  have h1 : x.toBitVec.toInt < 0 := Int32.lt_iff_toInt_lt.mp h
  have h2 : x.toBitVec.msb = true := by
    rw [BitVec.msb_eq_toInt]
    exact decide_eq_true h1
  rw [BitVec.msb_eq_getLsbD_last] at h2
  exact h2
theorem r_set {x : Int32} {n : Nat} (h8 : n ≤ 8) : x &&& (((1 <<< (nI n &&& 31)) - 1) ^^^ (-1)) = 0 ↔ x >>> (nI n &&& 31) = 0 := by
  constructor
  · intro h
    have hb : ∀ i, i < 32 → n ≤ i → bt x i = false := by
      intro i hi hn
      have := congrArg (fun y => bt y i) h
      try dsimp only at this
      rw [b_and, b_xor, b_all n h8 i hi, b_m1 i hi, b_0, decide_eq_false (by omega)] at this
      cases hx : bt x i
      · rfl
      · rw [hx] at this
        exact absurd this (by decide)
    refine b_ext (fun i hi => ?_)
    rw [b_sshr n (by omega) x hi, b_0]
    split
    · exact hb _ (by omega) (by omega)
    · exact hb _ (by omega) (by omega)
  · intro h
    refine b_ext (fun i hi => ?_)
    rw [b_and, b_xor, b_all n h8 i hi, b_m1 i hi, b_0]
    by_cases c : i < n
    · rw [decide_eq_true c]
      cases bt x i <;> rfl
    · have := congrArg (fun y => bt y (i - n)) h
      try dsimp only at this
      rw [b_sshr n (by omega) x (by omega), b_0, if_pos (by omega), show n + (i - n) = i by omega] at this
      rw [this]
      rfl
theorem r_set0 {x : Int32} {n : Nat} (h8 : n ≤ 8) (h : x >>> (nI n &&& 31) = 0) : ¬ x < 0 := by
  intro c
  have h1 := b_neg c
  have := congrArg (fun y => bt y 31) h
  try dsimp only at this
  rw [b_sshr n (by omega) x (by omega), b_0] at this
  split at this
  · rename_i q
    have : n = 0 := by omega
    subst this
    rw [h1] at this
    exact absurd this (by decide)
  · rw [h1] at this
    exact absurd this (by decide)
section
variable {d : Nat} {I : zMI} {rl rs : Option (Nat × Nat)} {Q : zPQ} {G : zMR} {n k t : Nat} {C : List zCl}
set_option maxHeartbeats 4000000 in
set_option maxRecDepth 100000 in
theorem m_isSet {x : Int32} (hm : I 40 0 0 = nI n) (h8 : n ≤ 8) (h1 : x >>> (nI n &&& 31) = 0 → Q (some (zi 1)) I (zRR rl rs)) (h0 : ¬ x >>> (nI n &&& 31) = 0 → Q (some (zi 0)) I (zRR rl rs)) : zWm d 151 [zr 10 0, zi x] I (zRR rl rs) Q := by
  refine z_auto rfl ?_
  refine z_br rfl (fun c => ?_) (fun c => ?_)
  · refine z_auto rfl ?_
    refine z_jp rfl ?_
    refine z_auto rfl ?_
    exact z_rt rfl (h0 (fun q => r_set0 h8 q c))
  · refine z_auto rfl ?_
    refine z_ald (k := 0) rfl rfl (by decide) ?_
    rw [hm]
    refine z_auto rfl ?_
    refine z_br rfl (fun c2 => ?_) (fun c2 => ?_)
    · refine z_auto rfl ?_
      refine z_jp rfl ?_
      refine z_auto rfl ?_
      exact z_rt rfl (h0 c2)
    · refine z_auto rfl ?_
      refine z_jp rfl ?_
      refine z_auto rfl ?_
      exact z_rt rfl (h1 (Classical.not_not.mp c2))
set_option maxHeartbeats 4000000 in
set_option maxRecDepth 100000 in
theorem p_failed (x1 x2 : Int32) : zPr 80 152 [zi x1, zi x2] := by
  intro d I rl rs hR
  obtain ⟨C, n, k, t, hS, h14, h15⟩ := r_st hR
  have hn := hS.1.1.1
  have hm := hS.1.1.2.1
  have h8 := hS.1.1.2.2.1
  rcases n_cases x1 3 (by decide) with ⟨a, ha, rfl⟩ | hx1
  · refine z_auto rfl ?_
    refine z_cl rfl (c_isSide_y ha ?_)
    refine z_auto rfl ?_
    refine z_jp rfl ?_
    refine z_auto rfl ?_
    refine z_cl rfl (s_allBits ?_)
    refine z_auto rfl ?_
    rw [hn]
    refine z_auto rfl ?_
    refine z_br rfl (fun c => ?_) (fun c => ?_)
    · obtain ⟨b, hb⟩ : ∃ b : Nat → Int32, b = fun i => (fAll I C n t (nI i) (nI a) 0 0).2.1.2.2 := ⟨_, rfl⟩
      have mrun : ∀ J, zFr I J → ∀ rl' rs', zWm (d + 12) 152 [zr 10 0, zi (nI a), zi x2] J (zRR rl' rs') (fun v2 I2 G2 => some (zi (fMk b x2 21)) = v2 ∧ zRel I2 ∧ ∃ rl2 rs2, G2 = zRR rl2 rs2) := by
        intro J hJ rl' rs'
        have loop : ∀ q i, i + q = 21 → ∀ K, zFM J K → zW (d + 12) kX10_failed (zblk kX10_failed 3) [some (zr 10 0), some (zi (nI a)), some (zi x2), some (zi (fMk b x2 i)), some (zi (nI i))] [] K (zRR rl' rs') (fun v2 I2 G2 => some (zi (fMk b x2 21)) = v2 ∧ zRel I2 ∧ ∃ rl2 rs2, G2 = zRR rl2 rs2) := by
          intro q
          induction q with
          | zero =>
            intro i hi K hK
            have : i = 21 := by omega
            subst this
            refine z_auto rfl ?_
            refine z_jp rfl ?_
            refine z_auto rfl ?_
            exact z_rt rfl (zPr_o (zRel_M hK (zRel_r hJ hR)))
          | succ q ih =>
            intro i hi K hK
            refine z_auto rfl ?_
            refine z_br rfl (fun c1 => ?_) (fun c1 => ?_)
            · exact absurd c1 (Int32.not_lt.mpr (nI_le (b := 20) (by omega) (by decide)))
            · refine z_auto rfl ?_
              refine z_cl rfl (m_fa hS ((zFa.r hJ).tr (zFa.M hK)) (f := i) (by omega) (by decide : 0 ≤ 100) ((zFM_15 hK).trans ((zFr_15 hJ).trans h15)) ((zFM_14 hK).trans ((zFr_14 hJ).trans h14)) (fun L hL _ h16 _ => ?_))
              have h5 := ih (i + 1) (by omega) L (hK.tr hL)
              have e16 : L 10 0 16 = b i := by rw [hb]; exact h16
              rw [fMk, nI_succ] at h5
              refine z_auto rfl ?_
              rw [e16]
              refine z_auto rfl ?_
              refine z_br rfl (fun c2 => ?_) (fun c2 => ?_)
              · rw [if_neg c2] at h5
                refine z_auto rfl ?_
                refine z_jp rfl ?_
                refine z_auto rfl ?_
                rw [Int32.or_zero]
                refine z_auto rfl ?_
                refine z_jp rfl ?_
                exact h5
              · rw [if_pos (Classical.not_not.mp c2)] at h5
                refine z_auto rfl ?_
                refine z_jp rfl ?_
                refine z_auto rfl ?_
                refine z_jp rfl ?_
                exact h5
        have j0 : J 40 0 0 = nI n := (hJ 40 0 0 (by decide) (by decide) (Or.inl (by decide))).trans hm
        refine z_auto rfl ?_
        refine z_cl rfl (m_isSide_y ha ?_)
        refine z_auto rfl ?_
        refine z_jp rfl ?_
        refine z_auto rfl ?_
        refine z_cl rfl (m_isSet j0 h8 (fun _ => ?_) (fun q => absurd ((r_set h8).mp c) q))
        refine z_auto rfl ?_
        refine z_jp rfl ?_
        refine z_auto rfl ?_
        refine z_jp rfl ?_
        exact loop 21 0 rfl J zFM.rf
      have loop : ∀ q i, i + q = 21 → ∀ J, zFr I J → ∀ rl rs, zW (d + 12) kX9_failed (zblk kX9_failed 3) [some (zr 9 0), some (zi (nI a)), some (zi x2), some (zi (fMk b x2 i)), some (zi (nI i))] [] J (zRR rl rs) (fun v1 I1 G1 => ∃ rl1 rs1, G1 = zRR rl1 rs1 ∧ zWm (d + 12) 152 [zr 10 0, zi (nI a), zi x2] I1 G1 (fun v2 I2 G2 => v1 = v2 ∧ zRel I2 ∧ ∃ rl2 rs2, G2 = zRR rl2 rs2)) := by
        intro q
        induction q with
        | zero =>
          intro i hi J hJ rl rs
          have : i = 21 := by omega
          subst this
          refine z_auto rfl ?_
          refine z_jp rfl ?_
          refine z_auto rfl ?_
          exact z_rt rfl (zPr_i (mrun J hJ))
        | succ q ih =>
          intro i hi J hJ rl rs
          refine z_auto rfl ?_
          refine z_br rfl (fun c1 => ?_) (fun c1 => ?_)
          · exact absurd c1 (Int32.not_lt.mpr (nI_le (b := 20) (by omega) (by decide)))
          · refine z_auto rfl ?_
            refine z_cl rfl (s_letFall (zCu_fr hJ hS.2.1) (fun K hK _ => ?_))
            have h5 := ih (i + 1) (by omega) K (hJ.tr hK.1) (some (4, 0)) rs
            have e2 : K 3 0 2 = b i := by
              rw [hb, hK.2.2.2.2.1, fAll_fr hJ]
            rw [fMk, nI_succ] at h5
            refine z_auto rfl ?_
            rw [e2]
            refine z_auto rfl ?_
            refine z_br rfl (fun c2 => ?_) (fun c2 => ?_)
            · rw [if_neg c2] at h5
              refine z_auto rfl ?_
              refine z_jp rfl ?_
              exact h5
            · rw [if_pos (Classical.not_not.mp c2)] at h5
              refine z_auto rfl ?_
              refine z_jp rfl ?_
              refine z_auto rfl ?_
              refine z_jp rfl ?_
              exact h5
      refine z_auto rfl ?_
      refine z_jp rfl ?_
      exact loop 21 0 rfl I zFr.rf rl rs
    · refine z_auto rfl ?_
      refine z_rt rfl (zPr_i (fun rl' rs' => ?_))
      refine z_auto rfl ?_
      refine z_cl rfl (m_isSide_y ha ?_)
      refine z_auto rfl ?_
      refine z_jp rfl ?_
      refine z_auto rfl ?_
      refine z_cl rfl (m_isSet hm h8 (fun q => absurd ((r_set h8).mpr q) c) (fun q => ?_))
      refine z_auto rfl ?_
      refine z_st rfl ?_
      refine z_auto rfl ?_
      exact z_rt rfl (zPr_o hR)
  · refine z_auto rfl ?_
    refine z_cl rfl (c_isSide_n hx1 ?_)
    refine z_auto rfl ?_
    refine z_st rfl ?_
    refine z_auto rfl ?_
    refine z_rt rfl (zPr_i (fun rl' rs' => ?_))
    refine z_auto rfl ?_
    refine z_cl rfl (m_isSide_n hx1 ?_)
    refine z_auto rfl ?_
    refine z_st rfl ?_
    refine z_auto rfl ?_
    exact z_rt rfl (zPr_o hR)
end
