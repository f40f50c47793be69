/-! mean, odds -/
def fSm (g : Nat → Nat) : Nat → Nat
  | 0 => 0
  | m + 1 => fSm g m + g m
theorem fSm_le {g : Nat → Nat} {M : Nat} (h : ∀ a, g a ≤ M) : ∀ m, fSm g m ≤ M * m
  | 0 => Nat.zero_le _
  | m + 1 => by
    have h1 := fSm_le h m
    have h2 := h m
    rw [fSm, Nat.mul_succ]
    omega
section
set_option maxHeartbeats 4000000 in
set_option maxRecDepth 100000 in
theorem p_mean (x1 x2 : Int32) : zPr 84 158 [zi x1, zi x2] := by
  intro d I rl rs hR
  rcases n_cases x1 20 (by decide) with ⟨f, hf, rfl⟩ | hx1
  · rcases n_cases x2 1 (by decide) with ⟨w, hw, rfl⟩ | hx2
    · obtain ⟨C, n, k, t, hS, h14, h15⟩ := r_st hR
      obtain ⟨g, hg⟩ : ∃ g : Nat → Nat, ∀ a, g a ≤ 2000 ∧ fFo I C n t (nI f) (nI a) 0 0 = nI (g a) := ⟨fun a => Classical.choose (fFo_le hS hf (by decide : 0 ≤ 100) (a := nI a) (out := 0)), fun a => Classical.choose_spec (fFo_le hS hf (by decide : 0 ≤ 100) (a := nI a) (out := 0))⟩
      have hs := fSm_le (fun a => (hg a).1)
      have mrun : ∀ J, zFr I J → ∀ rl' rs', zWm (d + 12) 158 [zr 10 0, zi (nI f), zi (nI w)] J (zRR rl' rs') (fun v2 I2 G2 => some (zl (nL ((if w = 0 then fSm g 4 else 4) / Nat.gcd (fSm g 4) 4))) = v2 ∧ zRel I2 ∧ ∃ rl2 rs2, G2 = zRR rl2 rs2) := by
        intro J hJ rl' rs'
        have loop : ∀ m i, i + m = 4 → ∀ K, zFM J K → zW (d + 12) kX10_mean (zblk kX10_mean 3) [some (zr 10 0), some (zi (nI f)), some (zi (nI w)), some (zl (nL (fSm g i))), none, some (zi (nI i))] [] K (zRR rl' rs') (fun v2 I2 G2 => some (zl (nL ((if w = 0 then fSm g 4 else 4) / Nat.gcd (fSm g 4) 4))) = v2 ∧ zRel I2 ∧ ∃ rl2 rs2, G2 = zRR rl2 rs2) := by
          intro m
          induction m with
          | zero =>
            intro i hi K hK
            have : i = 4 := by omega
            subst this
            have h4 := hs 4
            refine z_auto rfl ?_
            refine z_jp rfl ?_
            refine z_auto rfl ?_
            refine z_cl rfl (m_lowest (a := fSm g 4) (b := 4) (by omega) (by decide) (by decide) hw ?_)
            refine z_auto rfl ?_
            exact z_rt rfl (zPr_o (zRel_M hK (zRel_r hJ hR)))
          | succ m ih =>
            intro i hi K hK
            refine z_auto rfl ?_
            refine z_br rfl (fun c => ?_) (fun c => ?_)
            · exact absurd c (Int32.not_le.mpr (nI_lt (a := i) (b := 4) (by omega) (by decide)))
            · refine z_auto rfl ?_
              refine z_cl rfl (m_fa hS ((zFa.r hJ).tr (zFa.M hK)) hf (by decide : 0 ≤ 100) ((zFM_15 hK).trans ((zFr_15 hJ).trans h15)) ((zFM_14 hK).trans ((zFr_14 hJ).trans h14)) (fun L hL _ _ _ => ?_))
              have h5 := ih (i + 1) (by omega) L (hK.tr hL)
              have h6 := hs i
              have h7 := (hg i).1
              rw [fSm, nI_succ] at h5
              rw [show fFo I C n t (nI f) (nI i) (nI 0) 0 = nI (g i) from (hg i).2]
              refine z_auto rfl ?_
              rw [nL_add (by omega)]
              refine z_auto rfl ?_
              refine z_jp rfl ?_
              exact h5
        refine z_auto rfl ?_
        refine z_cl rfl (m_isFloor_y hf ?_)
        refine z_auto rfl ?_
        refine z_st rfl ?_
        refine z_auto rfl ?_
        refine z_cl rfl (m_in_y (lo := 0) (hi := 1) (Nat.zero_le _) hw (by decide) ?_)
        refine z_auto rfl ?_
        refine z_jp rfl ?_
        refine z_auto rfl ?_
        refine z_jp rfl ?_
        exact loop 4 0 rfl J zFM.rf
      have loop : ∀ m i, i + m = 4 → ∀ J, zFr I J → ∀ rl rs, zW (d + 12) kX9_mean (zblk kX9_mean 3) [some (zr 9 0), some (zi (nI f)), some (zi (nI w)), some (zi (nI (fSm g i))), some (zi (nI i))] [] J (zRR rl rs) (fun v1 I1 G1 => ∃ rl1 rs1, G1 = zRR rl1 rs1 ∧ zWm (d + 12) 158 [zr 10 0, zi (nI f), zi (nI w)] I1 G1 (fun v2 I2 G2 => v1 = v2 ∧ zRel I2 ∧ ∃ rl2 rs2, G2 = zRR rl2 rs2)) := by
        intro m
        induction m with
        | zero =>
          intro i hi J hJ rl rs
          have : i = 4 := by omega
          subst this
          have h4 := hs 4
          refine z_auto rfl ?_
          refine z_jp rfl ?_
          refine z_auto rfl ?_
          refine z_cl rfl (s_lowest (a := fSm g 4) (b := 4) (by omega) (by decide) (by decide) hw ?_)
          refine z_auto rfl ?_
          exact z_rt rfl (zPr_i (mrun J hJ))
        | succ m ih =>
          intro i hi J hJ rl rs
          refine z_auto rfl ?_
          refine z_br rfl (fun c => ?_) (fun c => ?_)
          · exact absurd c (Int32.not_le.mpr (nI_lt (a := i) (b := 4) (by omega) (by decide)))
          · refine z_auto rfl ?_
            refine z_cl rfl (s_forceOf (zCu_fr hJ hS.2.1) (fun K hK => ?_))
            have h5 := ih (i + 1) (by omega) K (hJ.tr hK.1) (some (4, 0)) rs
            rw [fSm, nI_succ] at h5
            rw [fFo_fr hJ, (hg i).2]
            refine z_auto rfl ?_
            rw [nI_add]
            refine z_auto rfl ?_
            refine z_jp rfl ?_
            exact h5
      refine z_auto rfl ?_
      refine z_cl rfl (c_isFloor_y hf ?_)
      refine z_auto rfl ?_
      refine z_st rfl ?_
      refine z_auto rfl ?_
      refine z_br rfl (fun c => ?_) (fun c => ?_)
      · exact absurd c (nI_pos (by omega))
      · refine z_auto rfl ?_
        refine z_br rfl (fun c2 => ?_) (fun c2 => ?_)
        · refine z_auto rfl ?_
          refine z_jp rfl ?_
          exact loop 4 0 rfl I zFr.rf rl rs
        · exact absurd (nI_le (b := 1) hw (by decide)) c2
    · refine z_auto rfl ?_
      refine z_cl rfl (c_isFloor_y hf ?_)
      refine z_auto rfl ?_
      refine z_st rfl ?_
      have mrun : ∀ rl' rs', zWm (d + 12) 158 [zr 10 0, zi (nI f), zi x2] I (zRR rl' rs') (fun v2 I2 G2 => some (zl (-9223372036854775808)) = v2 ∧ zRel I2 ∧ ∃ rl2 rs2, G2 = zRR rl2 rs2) := by
        intro rl' rs'
        refine z_auto rfl ?_
        refine z_cl rfl (m_isFloor_y hf ?_)
        refine z_auto rfl ?_
        refine z_st rfl ?_
        refine z_auto rfl ?_
        refine z_cl rfl (m_in_n hx2 ?_)
        refine z_auto rfl ?_
        refine z_st rfl ?_
        refine z_auto rfl ?_
        refine z_jp rfl ?_
        refine z_auto rfl ?_
        exact z_rt rfl (zPr_o hR)
      refine z_auto rfl ?_
      refine z_br rfl (fun c => ?_) (fun c => ?_)
      · refine z_auto rfl ?_
        exact z_rt rfl (zPr_i mrun)
      · refine z_auto rfl ?_
        refine z_br rfl (fun c2 => ?_) (fun c2 => ?_)
        · exact absurd hx2 (fun q => q.elim c (fun q => absurd q (Int32.not_lt.mpr c2)))
        · refine z_auto rfl ?_
          refine z_jp rfl ?_
          refine z_auto rfl ?_
          exact z_rt rfl (zPr_i mrun)
  · refine z_auto rfl ?_
    refine z_cl rfl (c_isFloor_n hx1 ?_)
    refine z_auto rfl ?_
    refine z_jp rfl ?_
    refine z_auto rfl ?_
    refine z_rt rfl (zPr_i (fun rl' rs' => ?_))
    refine z_auto rfl ?_
    refine z_cl rfl (m_isFloor_n hx1 ?_)
    refine z_auto rfl ?_
    refine z_jp rfl ?_
    refine z_auto rfl ?_
    exact z_rt rfl (zPr_o hR)
end
