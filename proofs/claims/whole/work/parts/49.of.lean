/-! of -/
section
set_option maxHeartbeats 4000000 in
set_option maxRecDepth 100000 in
theorem p_of (x1 x2 : Int32) : zPr 67 131 [zi x1, zi x2] := by
  intro d I rl rs hR
  obtain ⟨C, n, k, t, hS, h14, h15⟩ := r_st hR
  obtain ⟨⟨b1, b2, b3, b4, b5, b6⟩, hC, hH⟩ := hS
  have hS : zSt8 I C n k t := ⟨⟨b1, b2, b3, b4, b5, b6⟩, hC, hH⟩
  have hn := b1.1
  have hm := b1.2.1
  have h8 := b1.2.2.1
  rcases n_lay x1 n h8 with ⟨l, hl, rfl⟩ | hx1
  · obtain ⟨kd, v, th, w, sd, q, ⟨p0, p1, p2, p3, p4⟩, r1, r2, r3, r4, r5⟩ := b1.2.2.2.1 l hl
    refine z_auto rfl ?_
    refine z_cl rfl (c_has_y hn h8 hl ?_)
    refine z_auto rfl ?_
    refine z_jp rfl ?_
    have mrun : ∀ w : Nat, w ≤ 4 → ∀ v : Int32, v = I 40 0 (10 + 8 * w + l) → ∀ rl' rs', zWm (d + 12) 131 [zr 10 0, zi (nI l), zi (nI w)] I (zRR rl' rs') (fun v2 I2 G2 => some (zi v) = v2 ∧ zRel I2 ∧ ∃ rl2 rs2, G2 = zRR rl2 rs2) := by
      intro w hw v hv rl' rs'
      refine z_auto rfl ?_
      refine z_cl rfl (m_isLayer_y hm h8 hl ?_)
      refine z_auto rfl ?_
      refine z_jp rfl ?_
      refine z_auto rfl ?_
      refine z_br rfl (fun c => ?_) (fun c => ?_)
      · refine z_auto rfl ?_
        refine z_br rfl (fun c2 => ?_) (fun c2 => ?_)
        · refine z_auto rfl ?_
          refine z_cl rfl (m_in_y (lo := 0) (hi := 4) (Nat.zero_le _) hw (by decide) ?_)
          refine z_auto rfl ?_
          refine z_st rfl ?_
          have hix : (10 : Int32) + 8 * nI w + nI l = nI (10 + 8 * w + l) := by
            rw [Int32.mul_comm 8 (nI w), show nI w * 8 = nI (8 * w) by rw [show nI w * 8 = nI (w * 8) from pk_mul w 8, Nat.mul_comm], show (10 : Int32) + nI (8 * w) = nI (10 + 8 * w) from nI_add 10 (8 * w)]
            exact nI_add _ _
          refine z_auto rfl ?_
          refine z_ald (k := (10 + 8 * w + l)) rfl hix (by show 10 + 8 * w + l < 937; omega) ?_
          refine z_auto rfl ?_
          refine z_jp rfl ?_
          refine z_auto rfl ?_
          exact z_rt rfl (zPr_o2 (by rw [hv]) hR)
        · exact absurd ((nI_eq (a := w) (b := 6) (by omega) (by decide)).mp (Classical.not_not.mp c2)) (by omega)
      · exact absurd ((nI_eq (a := w) (b := 5) (by omega) (by decide)).mp (Classical.not_not.mp c)) (by omega)
    rcases n_cases x2 6 (by decide) with ⟨w2, hw, rfl⟩ | hx
    · rcases w2 with _ | _ | _ | _ | _ | _ | _ | w2
      · refine z_auto rfl ?_
        refine z_jp rfl ?_
        refine z_auto rfl ?_
        refine z_ald (k := l) rfl rfl (by show l < 8; omega) ?_
        refine z_auto rfl ?_
        exact z_rt rfl (zPr_i (mrun 0 (by decide) _ (p0.trans r1.symm)))
      · refine z_auto rfl ?_
        refine z_jp rfl ?_
        refine z_auto rfl ?_
        refine z_ald (k := l) rfl rfl (by show l < 8; omega) ?_
        refine z_auto rfl ?_
        exact z_rt rfl (zPr_i (mrun 1 (by decide) _ (p1.trans r2.symm)))
      · refine z_auto rfl ?_
        refine z_jp rfl ?_
        refine z_auto rfl ?_
        refine z_ald (k := l) rfl rfl (by show l < 8; omega) ?_
        refine z_auto rfl ?_
        exact z_rt rfl (zPr_i (mrun 2 (by decide) _ (p2.trans r3.symm)))
      · refine z_auto rfl ?_
        refine z_jp rfl ?_
        refine z_auto rfl ?_
        refine z_ald (k := l) rfl rfl (by show l < 8; omega) ?_
        refine z_auto rfl ?_
        exact z_rt rfl (zPr_i (mrun 3 (by decide) _ (p3.trans r4.symm)))
      · refine z_auto rfl ?_
        refine z_jp rfl ?_
        refine z_auto rfl ?_
        refine z_ald (k := l) rfl rfl (by show l < 8; omega) ?_
        refine z_auto rfl ?_
        exact z_rt rfl (zPr_i (mrun 4 (by decide) _ (p4.trans r5.symm)))
      · have mr5 : ∀ v : Int32, v = (I 40 0 9 >>> (nI l &&& 31)) &&& 1 → ∀ rl' rs', zWm (d + 12) 131 [zr 10 0, zi (nI l), zi (nI 5)] I (zRR rl' rs') (fun v2 I2 G2 => some (zi v) = v2 ∧ zRel I2 ∧ ∃ rl2 rs2, G2 = zRR rl2 rs2) := by
          intro v hv rl' rs'
          refine z_auto rfl ?_
          refine z_cl rfl (m_isLayer_y hm h8 hl ?_)
          refine z_auto rfl ?_
          refine z_jp rfl ?_
          refine z_auto rfl ?_
          refine z_st rfl ?_
          refine z_auto rfl ?_
          refine z_ald (k := 9) rfl rfl (by decide) ?_
          refine z_auto rfl ?_
          refine z_jp rfl ?_
          refine z_auto rfl ?_
          exact z_rt rfl (zPr_o2 (by rw [hv]) hR)
        have g7 := b1.2.2.2.2.2.2.1
        refine z_auto rfl ?_
        refine z_jp rfl ?_
        refine z_auto rfl ?_
        refine z_cl rfl (s_isBroken (fun c => ?_) (fun c => ?_))
        · refine z_auto rfl ?_
          refine z_st rfl ?_
          refine z_auto rfl ?_
          refine z_jp rfl ?_
          refine z_auto rfl ?_
          exact z_rt rfl (zPr_i (mr5 _ (by rw [← g7, c])))
        · refine z_auto rfl ?_
          refine z_jp rfl ?_
          refine z_auto rfl ?_
          refine z_jp rfl ?_
          refine z_auto rfl ?_
          exact z_rt rfl (zPr_i (mr5 _ (by
            rw [← g7]
            rw [b_a1] at c ⊢
            split
            · rename_i c2
              rw [if_pos c2] at c
              exact absurd rfl c
            · rfl)))
      · refine z_auto rfl ?_
        refine z_jp rfl ?_
        refine z_auto rfl ?_
        refine z_cl rfl (s_price hC hl (fun J hJ => ?_))
        refine z_auto rfl ?_
        refine z_rt rfl (zPr_i (fun rl' rs' => ?_))
        have hmJ : J 40 0 0 = nI n := (hJ 40 0 0 (by decide) (by decide) (Or.inl (by decide))).trans hm
        refine z_auto rfl ?_
        refine z_cl rfl (m_isLayer_y hmJ h8 hl ?_)
        refine z_auto rfl ?_
        refine z_jp rfl ?_
        refine z_auto rfl ?_
        refine z_jp rfl ?_
        refine z_auto rfl ?_
        refine z_st rfl ?_
        refine z_auto rfl ?_
        refine z_cl rfl (m_priceOf hS (zFa.r hJ) hl (fun K hK => ?_))
        refine z_auto rfl ?_
        refine z_jp rfl ?_
        refine z_auto rfl ?_
        exact z_rt rfl (zPr_o (zRel_M hK (zRel_r hJ hR)))
      · omega
    · refine z_auto rfl ?_
      refine z_sw rfl (fun q hq hx2 => ?_) (fun hn => ?_)
      · exfalso
        have hq : q ∈ [((0 : Int32), 2), (1, 3), (2, 4), (3, 5), (4, 6), (5, 7), (6, 10)] := hq
        simp only [List.mem_cons, List.not_mem_nil, or_false] at hq
        rcases hq with rfl | rfl | rfl | rfl | rfl | rfl | rfl <;> (subst hx2; revert hx; decide)
      · refine z_auto rfl ?_
        refine z_rt rfl (zPr_i (fun rl' rs' => ?_))
        refine z_auto rfl ?_
        refine z_cl rfl (m_isLayer_y hm h8 hl ?_)
        refine z_auto rfl ?_
        refine z_jp rfl ?_
        refine z_auto rfl ?_
        refine z_br rfl (fun c => ?_) (fun c => ?_)
        · refine z_auto rfl ?_
          refine z_br rfl (fun c2 => ?_) (fun c2 => ?_)
          · refine z_auto rfl ?_
            refine z_cl rfl (m_in_n (hx.imp id (fun q => Int32.lt_trans (by decide) q)) ?_)
            refine z_auto rfl ?_
            refine z_jp rfl ?_
            refine z_auto rfl ?_
            refine z_jp rfl ?_
            refine z_auto rfl ?_
            exact z_rt rfl (zPr_o hR)
          · have c2 := Classical.not_not.mp c2
            subst c2
            exact absurd hx (by decide)
        · have c := Classical.not_not.mp c
          subst c
          exact absurd hx (by decide)
  · refine z_auto rfl ?_
    refine z_cl rfl (c_has_n hn h8 hx1 ?_)
    refine z_auto rfl ?_
    refine z_st rfl ?_
    refine z_auto rfl ?_
    refine z_rt rfl (zPr_i (fun rl' rs' => ?_))
    refine z_auto rfl ?_
    refine z_cl rfl (m_isLayer_n hm h8 hx1 ?_)
    refine z_auto rfl ?_
    refine z_st rfl ?_
    refine z_auto rfl ?_
    exact z_rt rfl (zPr_o hR)
end
