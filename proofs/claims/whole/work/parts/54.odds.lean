/-! odds -/
section
set_option maxHeartbeats 4000000 in
set_option maxRecDepth 100000 in
theorem p_odds (x1 x2 : Int32) : zPr 83 157 [zi x1, zi x2] := by
  intro d I rl rs hR
  rcases n_cases x1 20 (by decide) with ⟨f, hf, rfl⟩ | hx1
  · rcases n_cases x2 1 (by decide) with ⟨w, hw, rfl⟩ | hx2
    · obtain ⟨C, n, k, t, hS, h14, h15⟩ := r_st hR
      obtain ⟨g, hg1, hg2, hg0⟩ : ∃ g : Nat → Nat, (∀ a, g a ≤ 1) ∧ (∀ a, fWh I C n t (nI f) (nI (a / 10)) (nI (a % 10)) 0 → g a = 1) ∧ (∀ a, ¬ fWh I C n t (nI f) (nI (a / 10)) (nI (a % 10)) 0 → g a = 0) := ⟨fun a => @ite Nat (fWh I C n t (nI f) (nI (a / 10)) (nI (a % 10)) 0) (Classical.propDecidable _) 1 0, fun a => by
        dsimp only
        split <;> decide, fun a h => if_pos h, fun a h => if_neg h⟩
      have hs := fSm_le hg1
      have mrun : ∀ J, zFr I J → ∀ rl' rs', zWm (d + 12) 157 [zr 10 0, zi (nI f), zi (nI w)] J (zRR rl' rs') (fun v2 I2 G2 => some (zl (nL ((if w = 0 then fSm g 40 else 40) / Nat.gcd (fSm g 40) 40))) = v2 ∧ zRel I2 ∧ ∃ rl2 rs2, G2 = zRR rl2 rs2) := by
        intro J hJ rl' rs'
        have loop : ∀ m i, i + m = 40 → ∀ K, zFa J K → K 10 0 14 = 0 → zW (d + 12) kX10_odds (zblk kX10_odds 3) [some (zr 10 0), some (zi (nI f)), some (zi (nI w)), some (zl (nL (fSm g i))), none, some (zi (nI i))] [] K (zRR rl' rs') (fun v2 I2 G2 => some (zl (nL ((if w = 0 then fSm g 40 else 40) / Nat.gcd (fSm g 40) 40))) = v2 ∧ zRel I2 ∧ ∃ rl2 rs2, G2 = zRR rl2 rs2) := by
          intro m
          induction m with
          | zero =>
            intro i hi K hK k14
            have : i = 40 := by omega
            subst this
            have h4 := hs 40
            have e14 : (zup K 10 0 15 0) 10 0 14 = 0 := by rw [zup_k (by decide)]; exact k14
            refine z_auto rfl ?_
            refine z_jp rfl ?_
            refine z_auto rfl ?_
            refine z_cl rfl (m_lowest (a := fSm g 40) (b := 40) (by omega) (by decide) (by decide) hw ?_)
            refine z_auto rfl ?_
            exact z_rt rfl (zPr_o (zRel_fr (I := I) (((zFa.r hJ).tr hK).tr (fun c i k a1 a2 a3 a4 a5 a6 a7 a8 => by rw [zup_ne (by omega)])) e14 zup_eq hR))
          | succ m ih =>
            intro i hi K hK k14
            refine z_auto rfl ?_
            refine z_br rfl (fun c => ?_) (fun c => ?_)
            · exact absurd c (Int32.not_le.mpr (nI_lt (a := i) (b := 40) (by omega) (by decide)))
            · refine z_auto rfl ?_
              first | refine z_st rfl ?_ | refine z_ck rfl (by decide) ?_
              rw [show nI i - nI i / 10 * 10 = nI (i % 10) from pk_rem (a := i) (d := 10) (by omega) (by omega) (by omega)]
              refine z_auto rfl ?_
              first | refine z_st rfl ?_ | refine z_ck rfl (by decide) ?_
              rw [show nI i / 10 = nI (i / 10) from pk_div (a := i) (d := 10) (by omega) (by omega) (by omega)]
              have hm := Nat.mod_lt i (show 10 > 0 by decide)
              have hK2 : zFa J (zup K 10 0 15 (nI (i % 10))) := hK.tr (fun c i k a1 a2 a3 a4 a5 a6 a7 a8 => by rw [zup_ne (by omega)])
              have e14 : (zup K 10 0 15 (nI (i % 10))) 10 0 14 = 0 := by rw [zup_k (by decide)]; exact k14
              have h6 := hs i
              have h5 : ∀ L, zFM (zup K 10 0 15 (nI (i % 10))) L → zW (d + 12) kX10_odds (zblk kX10_odds 3) [some (zr 10 0), some (zi (nI f)), some (zi (nI w)), some (zl (nL (fSm g i + g i))), none, some (zi (nI i + 1))] [] L (zRR rl' rs') (fun v2 I2 G2 => some (zl (nL ((if w = 0 then fSm g 40 else 40) / Nat.gcd (fSm g 40) 40))) = v2 ∧ zRel I2 ∧ ∃ rl2 rs2, G2 = zRR rl2 rs2) := fun L hL => by
                have h7 := ih (i + 1) (by omega) L (hK2.tr (zFa.M hL)) ((zFM_14 hL).trans e14)
                rw [fSm, nI_succ] at h7
                exact h7
              refine z_auto rfl ?_
              refine z_cl rfl (m_sw hS ((zFa.r hJ).tr hK2) hf (show i % 10 ≤ 100 by omega) zup_eq e14 (fun L x hL h18 hw => ?_) (fun L x hL h18 hw => ?_))
              · have h8 := h5 L hL
                rw [hg2 i hw] at h8
                refine z_auto rfl ?_
                rw [h18]
                refine z_auto rfl ?_
                refine z_st rfl ?_
                refine z_auto rfl ?_
                refine z_jp rfl ?_
                refine z_auto rfl ?_
                rw [show nL (fSm g i) + Int32.toInt64 1 = nL (fSm g i + 1) from nL_add (b := 1) (by omega)]
                refine z_auto rfl ?_
                refine z_jp rfl ?_
                exact h8
              · have h8 := h5 L hL
                rw [hg0 i hw] at h8
                refine z_auto rfl ?_
                rw [h18]
                refine z_auto rfl ?_
                refine z_jp rfl ?_
                refine z_auto rfl ?_
                refine z_jp rfl ?_
                refine z_auto rfl ?_
                rw [show nL (fSm g i) + Int32.toInt64 0 = nL (fSm g i + 0) from nL_add (b := 0) (by omega)]
                refine z_auto rfl ?_
                refine z_jp rfl ?_
                exact h8
        refine z_auto rfl ?_
        refine z_cl rfl (m_isFloor_y hf ?_)
        refine z_auto rfl ?_
        refine z_st rfl ?_
        refine z_auto rfl ?_
        refine z_cl rfl (m_in_y (lo := 0) (hi := 1) (Nat.zero_le _) hw (by decide) ?_)
        refine z_auto rfl ?_
        refine z_jp rfl ?_
        refine z_auto rfl ?_
        refine z_jp rfl ?_
        exact loop 40 0 rfl J zFa.rf ((zFr_14 hJ).trans h14)
      have loop : ∀ m i, i + m = 40 → ∀ J, zFr I J → ∀ rl rs, zW (d + 12) kX9_odds (zblk kX9_odds 3) [some (zr 9 0), some (zi (nI f)), some (zi (nI w)), some (zi (nI (fSm g i))), some (zi (nI i))] [] J (zRR rl rs) (fun v1 I1 G1 => ∃ rl1 rs1, G1 = zRR rl1 rs1 ∧ zWm (d + 12) 157 [zr 10 0, zi (nI f), zi (nI w)] I1 G1 (fun v2 I2 G2 => v1 = v2 ∧ zRel I2 ∧ ∃ rl2 rs2, G2 = zRR rl2 rs2)) := by
        intro m
        induction m with
        | zero =>
          intro i hi J hJ rl rs
          have : i = 40 := by omega
          subst this
          have h4 := hs 40
          refine z_auto rfl ?_
          refine z_jp rfl ?_
          refine z_auto rfl ?_
          refine z_cl rfl (s_lowest (a := fSm g 40) (b := 40) (by omega) (by decide) (by decide) hw ?_)
          refine z_auto rfl ?_
          exact z_rt rfl (zPr_i (mrun J hJ))
        | succ m ih =>
          intro i hi J hJ rl rs
          refine z_auto rfl ?_
          refine z_br rfl (fun c => ?_) (fun c => ?_)
          · exact absurd c (Int32.not_le.mpr (nI_lt (a := i) (b := 40) (by omega) (by decide)))
          · refine z_auto rfl ?_
            first | refine z_st rfl ?_ | refine z_ck rfl (by decide) ?_
            rw [show nI i / 10 = nI (i / 10) from pk_div (a := i) (d := 10) (by omega) (by omega) (by omega)]
            refine z_auto rfl ?_
            first | refine z_st rfl ?_ | refine z_ck rfl (by decide) ?_
            rw [show nI i - nI i / 10 * 10 = nI (i % 10) from pk_rem (a := i) (d := 10) (by omega) (by omega) (by omega)]
            have h5 : ∀ L, zFr I L → ∀ rl rs, zW (d + 12) kX9_odds (zblk kX9_odds 3) [some (zr 9 0), some (zi (nI f)), some (zi (nI w)), some (zi (nI (fSm g i + g i))), some (zi (nI i + 1))] [] L (zRR rl rs) (fun v1 I1 G1 => ∃ rl1 rs1, G1 = zRR rl1 rs1 ∧ zWm (d + 12) 157 [zr 10 0, zi (nI f), zi (nI w)] I1 G1 (fun v2 I2 G2 => v1 = v2 ∧ zRel I2 ∧ ∃ rl2 rs2, G2 = zRR rl2 rs2)) := fun L hL rl rs => by
              have h7 := ih (i + 1) (by omega) L hL rl rs
              rw [fSm, nI_succ] at h7
              exact h7
            refine z_auto rfl ?_
            refine z_cl rfl (c_sw hS hJ (fun L hL hw => ?_) (fun L hL hw => ?_))
            · have h8 := h5 L hL (some (4, 0)) rs
              rw [hg2 i hw, nI_succ] at h8
              refine z_auto rfl ?_
              refine z_st rfl ?_
              refine z_auto rfl ?_
              refine z_jp rfl ?_
              refine z_auto rfl ?_
              refine z_jp rfl ?_
              exact h8
            · have h8 := h5 L hL (some (4, 0)) rs
              rw [hg0 i hw] at h8
              refine z_auto rfl ?_
              refine z_jp rfl ?_
              refine z_auto rfl ?_
              refine z_jp rfl ?_
              exact h8
      refine z_auto rfl ?_
      refine z_cl rfl (c_isFloor_y hf ?_)
      refine z_auto rfl ?_
      refine z_st rfl ?_
      refine z_auto rfl ?_
      refine z_br rfl (fun c => ?_) (fun c => ?_)
      · exact absurd c (nI_pos (by omega))
      · refine z_auto rfl ?_
        refine z_br rfl (fun c2 => ?_) (fun c2 => ?_)
        · refine z_auto rfl ?_
          refine z_jp rfl ?_
          exact loop 40 0 rfl I zFr.rf rl rs
        · exact absurd (nI_le (b := 1) hw (by decide)) c2
    · refine z_auto rfl ?_
      refine z_cl rfl (c_isFloor_y hf ?_)
      refine z_auto rfl ?_
      refine z_st rfl ?_
      have mrun : ∀ rl' rs', zWm (d + 12) 157 [zr 10 0, zi (nI f), zi x2] I (zRR rl' rs') (fun v2 I2 G2 => some (zl (-9223372036854775808)) = v2 ∧ zRel I2 ∧ ∃ rl2 rs2, G2 = zRR rl2 rs2) := by
        intro rl' rs'
        refine z_auto rfl ?_
        refine z_cl rfl (m_isFloor_y hf ?_)
        refine z_auto rfl ?_
        refine z_st rfl ?_
        refine z_auto rfl ?_
        refine z_cl rfl (m_in_n hx2 ?_)
        refine z_auto rfl ?_
        refine z_st rfl ?_
        refine z_auto rfl ?_
        refine z_jp rfl ?_
        refine z_auto rfl ?_
        exact z_rt rfl (zPr_o hR)
      refine z_auto rfl ?_
      refine z_br rfl (fun c => ?_) (fun c => ?_)
      · refine z_auto rfl ?_
        exact z_rt rfl (zPr_i mrun)
      · refine z_auto rfl ?_
        refine z_br rfl (fun c2 => ?_) (fun c2 => ?_)
        · exact absurd hx2 (fun q => q.elim c (fun q => absurd q (Int32.not_lt.mpr c2)))
        · refine z_auto rfl ?_
          refine z_jp rfl ?_
          refine z_auto rfl ?_
          exact z_rt rfl (zPr_i mrun)
  · refine z_auto rfl ?_
    refine z_cl rfl (c_isFloor_n hx1 ?_)
    refine z_auto rfl ?_
    refine z_jp rfl ?_
    refine z_auto rfl ?_
    refine z_rt rfl (zPr_i (fun rl' rs' => ?_))
    refine z_auto rfl ?_
    refine z_cl rfl (m_isFloor_n hx1 ?_)
    refine z_auto rfl ?_
    refine z_jp rfl ?_
    refine z_auto rfl ?_
    exact z_rt rfl (zPr_o hR)
end
