/-! CALLS, ONE BY ONE: both sides answer the same -/
def zPr (m1 m2 : Nat) (a : List zAV) : Prop := ∀ (d : Nat) (I : zMI) (rl rs : Option (Nat × Nat)), zRel I → zWm (d + 12) m1 (zr 9 0 :: a) I (zRR rl rs) (fun v1 I1 G1 => ∃ rl1 rs1, G1 = zRR rl1 rs1 ∧ zWm (d + 12) m2 (zr 10 0 :: a) I1 G1 (fun v2 I2 G2 => v1 = v2 ∧ zRel I2 ∧ ∃ rl2 rs2, G2 = zRR rl2 rs2))
theorem zPr_i {d m2 : Nat} {a : List zAV} {v : Option zAV} {J : zMI} {rl rs : Option (Nat × Nat)} (h : ∀ rl' rs', zWm (d + 12) m2 (zr 10 0 :: a) J (zRR rl' rs') (fun v2 I2 G2 => v = v2 ∧ zRel I2 ∧ ∃ rl2 rs2, G2 = zRR rl2 rs2)) : ∃ rl1 rs1, zRR rl rs = zRR rl1 rs1 ∧ zWm (d + 12) m2 (zr 10 0 :: a) J (zRR rl rs) (fun v2 I2 G2 => v = v2 ∧ zRel I2 ∧ ∃ rl2 rs2, G2 = zRR rl2 rs2) := ⟨rl, rs, rfl, h rl rs⟩
theorem zPr_o {v : Option zAV} {J : zMI} {rl rs : Option (Nat × Nat)} (h : zRel J) : v = v ∧ zRel J ∧ ∃ rl2 rs2, zRR rl rs = zRR rl2 rs2 := ⟨rfl, h, rl, rs, rfl⟩
theorem zPr_o2 {v w : Option zAV} {J : zMI} {rl rs : Option (Nat × Nat)} (e : v = w) (h : zRel J) : v = w ∧ zRel J ∧ ∃ rl2 rs2, zRR rl rs = zRR rl2 rs2 := ⟨e, h, rl, rs, rfl⟩
set_option maxHeartbeats 4000000 in
set_option maxRecDepth 100000 in
theorem p_fall (x1 x2 x3 : Int32) : zPr 74 145 [zi x1, zi x2, zi x3] := by
  intro d I rl rs hR
  rcases n_cases x1 20 (by decide) with ⟨f, hf, rfl⟩ | hx1
  · rcases n_cases x2 3 (by decide) with ⟨a, ha, rfl⟩ | hx2
    · obtain ⟨C, n, k, t, hS, h14, h15⟩ := r_st hR
      refine z_auto rfl ?_
      refine z_cl rfl (c_isFloor_y hf ?_)
      refine z_auto rfl ?_
      refine z_st rfl ?_
      refine z_auto rfl ?_
      refine z_cl rfl (c_isSide_y ha ?_)
      refine z_auto rfl ?_
      refine z_jp rfl ?_
      refine z_auto rfl ?_
      refine z_cl rfl (s_letFall hS.2.1 (fun J hJ hE => ?_))
      have hRJ := zRel_r hJ.1 hR
      have j14 : J 10 0 14 = 0 := (hJ.1 10 0 14 (by decide) (by decide) (Or.inl (by decide))).trans h14
      have j15 : J 10 0 15 = nI 0 := (hJ.1 10 0 15 (by decide) (by decide) (Or.inl (by decide))).trans h15
      have hw01 : (fEg I C n t (nI f) (nI a) 0 0 (zlast C 0 20) (I 2 0 0, I 2 0 1)).2 = 0 ∨ (fEg I C n t (nI f) (nI a) 0 0 (zlast C 0 20) (I 2 0 0, I 2 0 1)).2 = 1 := fEg_01 hS.2.1.2.2.2.2.2.2.2
      have mrun : ∀ (w : Nat), w ≤ 4 → ∀ v : Int32, (v = (if w = 0 then fFo I C n t (nI f) (nI a) 0 0 else if w = 1 then (fAll I C n t (nI f) (nI a) 0 0).1 else if w = 2 then (fEg I C n t (nI f) (nI a) 0 0 (zlast C 0 20) (I 2 0 0, I 2 0 1)).2 else if w = 3 then (fEg I C n t (nI f) (nI a) 0 0 (zlast C 0 20) (I 2 0 0, I 2 0 1)).1 else (fAll I C n t (nI f) (nI a) 0 0).2.1.2.2)) → ∀ rl' rs', zWm (d + 12) 145 [zr 10 0, zi (nI f), zi (nI a), zi (nI w)] J (zRR rl' rs') (fun v2 I2 G2 => some (zi v) = v2 ∧ zRel I2 ∧ ∃ rl2 rs2, G2 = zRR rl2 rs2) := by
        intro w hw v hv rl' rs'
        refine z_auto rfl ?_
        refine z_cl rfl (m_isFloor_y hf ?_)
        refine z_auto rfl ?_
        refine z_st rfl ?_
        refine z_auto rfl ?_
        refine z_cl rfl (m_isSide_y ha ?_)
        refine z_auto rfl ?_
        refine z_st rfl ?_
        refine z_auto rfl ?_
        refine z_cl rfl (m_in_y (lo := 0) (hi := 4) (Nat.zero_le _) hw (by decide) ?_)
        refine z_auto rfl ?_
        refine z_jp rfl ?_
        refine z_auto rfl ?_
        refine z_cl rfl (m_fa hS (zFa.r hJ.1) hf (by decide) j15 j14 (fun K hK k19 k16 k17 => ?_))
        have hRK := zRel_M hK hRJ
        have k17a : K 10 0 17 = (fEg I C n t (nI f) (nI a) 0 0 (zlast C 0 20) (I 2 0 0, I 2 0 1)).1 := congrArg Prod.fst k17
        have k18a : K 10 0 18 = (fEg I C n t (nI f) (nI a) 0 0 (zlast C 0 20) (I 2 0 0, I 2 0 1)).2 := congrArg Prod.snd k17
        rcases w with _ | _ | _ | _ | _ | w
        · refine z_auto rfl ?_
          refine z_st rfl ?_
          refine z_auto rfl ?_
          refine z_jp rfl ?_
          refine z_auto rfl ?_
          exact z_rt rfl (zPr_o2 (by rw [hv]; rfl) hRK)
        · refine z_auto rfl ?_
          refine z_jp rfl ?_
          refine z_auto rfl ?_
          refine z_st rfl ?_
          refine z_auto rfl ?_
          refine z_jp rfl ?_
          refine z_auto rfl ?_
          exact z_rt rfl (zPr_o2 (by rw [hv, k19]; rfl) hRK)
        · refine z_auto rfl ?_
          refine z_jp rfl ?_
          refine z_auto rfl ?_
          refine z_jp rfl ?_
          refine z_auto rfl ?_
          refine z_st rfl ?_
          refine z_auto rfl ?_
          refine z_br rfl (fun c => ?_) (fun c => ?_)
          · have hz : v = 0 := by
              rw [hv]
              exact k18a.symm.trans c
            refine z_auto rfl ?_
            refine z_jp rfl ?_
            refine z_auto rfl ?_
            exact z_rt rfl (zPr_o2 (by rw [hz]) hRK)
          · have hz : v = 1 := by
              rw [hv]
              exact hw01.elim (fun q => absurd (k18a.trans q) c) id
            refine z_auto rfl ?_
            refine z_jp rfl ?_
            refine z_auto rfl ?_
            exact z_rt rfl (zPr_o2 (by rw [hz]) hRK)
        · refine z_auto rfl ?_
          refine z_jp rfl ?_
          refine z_auto rfl ?_
          refine z_jp rfl ?_
          refine z_auto rfl ?_
          refine z_jp rfl ?_
          refine z_auto rfl ?_
          refine z_st rfl ?_
          refine z_auto rfl ?_
          refine z_jp rfl ?_
          refine z_auto rfl ?_
          exact z_rt rfl (zPr_o2 (by rw [hv, k17a]; rfl) hRK)
        · refine z_auto rfl ?_
          refine z_jp rfl ?_
          refine z_auto rfl ?_
          refine z_jp rfl ?_
          refine z_auto rfl ?_
          refine z_jp rfl ?_
          refine z_auto rfl ?_
          refine z_jp rfl ?_
          refine z_auto rfl ?_
          refine z_jp rfl ?_
          refine z_auto rfl ?_
          exact z_rt rfl (zPr_o2 (by rw [hv, k16]; rfl) hRK)
        · omega
      have e21 : J 2 2 0 = (fEg I C n t (nI f) (nI a) 0 0 (zlast C 0 20) (I 2 0 0, I 2 0 1)).1 := congrArg Prod.fst hE
      have e22 : J 2 2 1 = (fEg I C n t (nI f) (nI a) 0 0 (zlast C 0 20) (I 2 0 0, I 2 0 1)).2 := congrArg Prod.snd hE
      obtain ⟨-, g1, g7, g8, g2, -⟩ := hJ
      rcases n_cases x3 4 (by decide) with ⟨w, hw, rfl⟩ | hx3
      · rcases w with _ | _ | _ | _ | _ | w
        · refine z_auto rfl ?_
          refine z_jp rfl ?_
          refine z_auto rfl ?_
          refine z_cl rfl (s_force ?_)
          refine z_auto rfl ?_
          exact z_rt rfl (zPr_i (mrun 0 (by decide) _ (by rw [g7, g8]; rfl)))
        · refine z_auto rfl ?_
          refine z_jp rfl ?_
          refine z_auto rfl ?_
          exact z_rt rfl (zPr_i (mrun 1 (by decide) _ (by rw [g1]; rfl)))
        · refine z_auto rfl ?_
          refine z_jp rfl ?_
          refine z_auto rfl ?_
          refine z_br rfl (fun c => ?_) (fun c => ?_)
          · refine z_auto rfl ?_
            refine z_jp rfl ?_
            refine z_auto rfl ?_
            exact z_rt rfl (zPr_i (mrun 2 (by decide) _ (by exact c.symm.trans e22)))
          · refine z_auto rfl ?_
            refine z_jp rfl ?_
            refine z_auto rfl ?_
            exact z_rt rfl (zPr_i (mrun 2 (by decide) _ (by exact (hw01.elim (fun q => absurd (e22.trans q) c) id).symm)))
        · refine z_auto rfl ?_
          refine z_jp rfl ?_
          refine z_auto rfl ?_
          exact z_rt rfl (zPr_i (mrun 3 (by decide) _ (by rw [e21]; rfl)))
        · refine z_auto rfl ?_
          refine z_jp rfl ?_
          refine z_auto rfl ?_
          exact z_rt rfl (zPr_i (mrun 4 (by decide) _ (by rw [g2]; rfl)))
        · omega
      · refine z_auto rfl ?_
        refine z_sw rfl (fun q hq hx => ?_) (fun hn => ?_)
        · exfalso
          have hq : q ∈ [((0 : Int32), 3), (1, 4), (2, 5), (3, 8), (4, 9)] := hq
          simp only [List.mem_cons, List.not_mem_nil, or_false] at hq
          rcases hq with rfl | rfl | rfl | rfl | rfl <;> (subst hx; revert hx3; decide)
        · refine z_auto rfl ?_
          refine z_rt rfl (zPr_i (fun rl' rs' => ?_))
          refine z_auto rfl ?_
          refine z_cl rfl (m_isFloor_y hf ?_)
          refine z_auto rfl ?_
          refine z_st rfl ?_
          refine z_auto rfl ?_
          refine z_cl rfl (m_isSide_y ha ?_)
          refine z_auto rfl ?_
          refine z_st rfl ?_
          refine z_auto rfl ?_
          refine z_cl rfl (m_in_n hx3 ?_)
          refine z_auto rfl ?_
          refine z_st rfl ?_
          refine z_auto rfl ?_
          refine z_jp rfl ?_
          refine z_auto rfl ?_
          exact z_rt rfl (zPr_o hRJ)
    · refine z_auto rfl ?_
      refine z_cl rfl (c_isFloor_y hf ?_)
      refine z_auto rfl ?_
      refine z_st rfl ?_
      refine z_auto rfl ?_
      refine z_cl rfl (c_isSide_n hx2 ?_)
      refine z_auto rfl ?_
      refine z_st rfl ?_
      refine z_auto rfl ?_
      refine z_jp rfl ?_
      refine z_auto rfl ?_
      refine z_rt rfl (zPr_i (fun rl' rs' => ?_))
      refine z_auto rfl ?_
      refine z_cl rfl (m_isFloor_y hf ?_)
      refine z_auto rfl ?_
      refine z_st rfl ?_
      refine z_auto rfl ?_
      refine z_cl rfl (m_isSide_n hx2 ?_)
      refine z_auto rfl ?_
      refine z_jp rfl ?_
      refine z_auto rfl ?_
      exact z_rt rfl (zPr_o hR)
  · refine z_auto rfl ?_
    refine z_cl rfl (c_isFloor_n hx1 ?_)
    refine z_auto rfl ?_
    refine z_jp rfl ?_
    refine z_auto rfl ?_
    refine z_rt rfl (zPr_i (fun rl' rs' => ?_))
    refine z_auto rfl ?_
    refine z_cl rfl (m_isFloor_n hx1 ?_)
    refine z_auto rfl ?_
    refine z_jp rfl ?_
    refine z_auto rfl ?_
    exact z_rt rfl (zPr_o hR)
