/-! best: the pair -/
section
set_option maxHeartbeats 4000000 in
set_option maxRecDepth 100000 in
theorem p_best (x1 x2 : Int32) : zPr 76 147 [zi x1, zi x2] := by
  intro d I rl rs hR
  rcases n_cases x1 20 (by decide) with ⟨f, hf, rfl⟩ | hx1
  · rcases n_cases x2 1 (by decide) with ⟨w, hw, rfl⟩ | hx2
    · obtain ⟨C, n, k, t, hS, h14, h15⟩ := r_st hR
      obtain ⟨g, hg⟩ : ∃ g : Nat → Int32, g = fun a => fFo I C n t (nI f) (nI a) 0 0 := ⟨_, rfl⟩
      have mrun : ∀ J, zFr I J → ∀ v : Int32, v = (if w = 0 then nI (fBs g 4).1 else (fBs g 4).2) → ∀ rl' rs', zWm (d + 12) 147 [zr 10 0, zi (nI f), zi (nI w)] J (zRR rl' rs') (fun v2 I2 G2 => some (zi v) = v2 ∧ zRel I2 ∧ ∃ rl2 rs2, G2 = zRR rl2 rs2) := by
        intro J hJ v hv rl' rs'
        subst hg
        exact m_best hS hJ h14 h15 hf hw (fun K hK => zPr_o2 (by rw [hv]) (zRel_M hK (zRel_r hJ hR)))
      have loop : ∀ m i, i + m = 4 → ∀ J, zFr I J → ∀ rl rs u6, zW (d + 12) kX9_best (zblk kX9_best 3) [some (zr 9 0), some (zi (nI f)), some (zi (nI w)), some (zi (nI (fBs g i).1)), some (zi (fBs g i).2), some (zi (nI i)), u6] [] J (zRR rl rs) (fun v1 I1 G1 => ∃ rl1 rs1, G1 = zRR rl1 rs1 ∧ zWm (d + 12) 147 [zr 10 0, zi (nI f), zi (nI w)] I1 G1 (fun v2 I2 G2 => v1 = v2 ∧ zRel I2 ∧ ∃ rl2 rs2, G2 = zRR rl2 rs2)) := by
        intro m
        induction m with
        | zero =>
          intro i hi J hJ rl rs u6
          have : i = 4 := by omega
          subst this
          refine z_auto rfl ?_
          refine z_jp rfl ?_
          rcases w with _ | _ | w
          · refine z_auto rfl ?_
            refine z_st rfl ?_
            refine z_auto rfl ?_
            refine z_jp rfl ?_
            refine z_auto rfl ?_
            exact z_rt rfl (zPr_i (mrun J hJ _ rfl))
          · refine z_auto rfl ?_
            refine z_jp rfl ?_
            refine z_auto rfl ?_
            refine z_jp rfl ?_
            refine z_auto rfl ?_
            exact z_rt rfl (zPr_i (mrun J hJ _ rfl))
          · omega
        | succ m ih =>
          intro i hi J hJ rl rs u6
          refine z_auto rfl ?_
          refine z_br rfl (fun c => ?_) (fun c => ?_)
          · exact absurd c (Int32.not_le.mpr (nI_lt (a := i) (b := 4) (by omega) (by decide)))
          · refine z_auto rfl ?_
            refine z_cl rfl (s_forceOf (zCu_fr hJ hS.2.1) (fun K hK => ?_))
            have h5 := ih (i + 1) (by omega) K (hJ.tr hK.1) (some (4, 0)) rs
            rw [fFo_fr hJ, show fFo I C n t (nI f) (nI i) 0 0 = g i by rw [hg]]
            rw [fBs, nI_succ] at h5
            refine z_auto rfl ?_
            refine z_br rfl (fun c2 => ?_) (fun c2 => ?_)
            · simp only [if_neg (show ¬ g i < (fBs g i).2 from Int32.not_lt.mpr c2)] at h5
              refine z_auto rfl ?_
              refine z_jp rfl ?_
              exact h5 _
            · simp only [if_pos (show g i < (fBs g i).2 from Int32.not_le.mp c2)] at h5
              refine z_auto rfl ?_
              refine z_jp rfl ?_
              refine z_auto rfl ?_
              refine z_jp rfl ?_
              exact h5 _
      refine z_auto rfl ?_
      refine z_cl rfl (c_isFloor_y hf ?_)
      refine z_auto rfl ?_
      refine z_st rfl ?_
      refine z_auto rfl ?_
      refine z_br rfl (fun c => ?_) (fun c => ?_)
      · exact absurd c (nI_pos (by omega))
      · refine z_auto rfl ?_
        refine z_br rfl (fun c2 => ?_) (fun c2 => ?_)
        · refine z_auto rfl ?_
          refine z_cl rfl (s_forceOf hS.2.1 (fun J hJ => ?_))
          have h5 := loop 3 1 rfl J hJ.1 (some (4, 0)) rs none
          have e : fBs g 1 = (0, fFo I C n t (nI f) 0 0 0) := by
            obtain ⟨y, hy, e⟩ := fFo_le hS hf (by decide : 0 ≤ 100) (a := 0) (out := 0)
            have e2 : fFo I C n t (nI f) 0 0 0 = nI y := e
            rw [fBs, fBs]
            have e3 : g 0 = nI y := by rw [hg]; exact e
            rw [if_pos (show g 0 < ((0 : Nat), (100000 : Int32)).2 from by rw [e3]; exact nI_lt (a := y) (b := 100000) (by omega) (by decide)), e3, e2]
          rw [e] at h5
          refine z_auto rfl ?_
          refine z_jp rfl ?_
          exact h5
        · exact absurd (nI_le (b := 1) hw (by decide)) c2
    · refine z_auto rfl ?_
      refine z_cl rfl (c_isFloor_y hf ?_)
      refine z_auto rfl ?_
      refine z_st rfl ?_
      have mrun : ∀ rl' rs', zWm (d + 12) 147 [zr 10 0, zi (nI f), zi x2] I (zRR rl' rs') (fun v2 I2 G2 => some (zi (-1)) = v2 ∧ zRel I2 ∧ ∃ rl2 rs2, G2 = zRR rl2 rs2) := by
        intro rl' rs'
        refine z_auto rfl ?_
        refine z_cl rfl (m_isFloor_y hf ?_)
        refine z_auto rfl ?_
        refine z_st rfl ?_
        refine z_auto rfl ?_
        refine z_cl rfl (m_in_n hx2 ?_)
        refine z_auto rfl ?_
        refine z_st rfl ?_
        refine z_auto rfl ?_
        refine z_jp rfl ?_
        refine z_auto rfl ?_
        exact z_rt rfl (zPr_o hR)
      refine z_auto rfl ?_
      refine z_br rfl (fun c => ?_) (fun c => ?_)
      · refine z_auto rfl ?_
        exact z_rt rfl (zPr_i mrun)
      · refine z_auto rfl ?_
        refine z_br rfl (fun c2 => ?_) (fun c2 => ?_)
        · exact absurd hx2 (fun q => q.elim c (fun q => absurd q (Int32.not_lt.mpr c2)))
        · refine z_auto rfl ?_
          refine z_jp rfl ?_
          refine z_auto rfl ?_
          exact z_rt rfl (zPr_i mrun)
  · refine z_auto rfl ?_
    refine z_cl rfl (c_isFloor_n hx1 ?_)
    refine z_auto rfl ?_
    refine z_jp rfl ?_
    refine z_auto rfl ?_
    refine z_rt rfl (zPr_i (fun rl' rs' => ?_))
    refine z_auto rfl ?_
    refine z_cl rfl (m_isFloor_n hx1 ?_)
    refine z_auto rfl ?_
    refine z_jp rfl ?_
    refine z_auto rfl ?_
    exact z_rt rfl (zPr_o hR)
end
