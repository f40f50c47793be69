/-! row -/
set_option maxHeartbeats 4000000 in
set_option maxRecDepth 100000 in
theorem p_row (x1 x2 x3 : Int32) : zPr 70 134 [zi x1, zi x2, zi x3] := by
  intro d I rl rs hR
  have hR0 := hR
  obtain ⟨n, k, t, ⟨b1, b2, b3, b4, b5, b6⟩, -, -, -, -, -⟩ := hR0
  have hn := b1.1
  have hm := b1.2.1
  have h8 := b1.2.2.1
  rcases n_lay x1 n h8 with ⟨l, hl, rfl⟩ | hx1
  · obtain ⟨kd, v, th, w, sd, q, ⟨p0, -, -, -, -⟩, r1, -, -, -, -⟩ := b1.2.2.2.1 l hl
    refine z_auto rfl ?_
    refine z_cl rfl (c_has_y hn h8 hl ?_)
    refine z_auto rfl ?_
    refine z_st rfl ?_
    rcases n_cases x2 2 (by decide) with ⟨j, hj, rfl⟩ | hx2
    · obtain ⟨r0, hr0, w1, w2⟩ := b1.2.2.2.2.1 l j hl (by omega)
      refine z_auto rfl ?_
      refine z_br rfl (fun c => ?_) (fun c => ?_)
      · exact absurd c (nI_pos (by omega))
      · refine z_auto rfl ?_
        refine z_br rfl (fun c2 => ?_) (fun c2 => ?_)
        · rcases n_cases x3 9 (by decide) with ⟨r, hr, rfl⟩ | hx3
          · refine z_auto rfl ?_
            refine z_br rfl (fun c3 => ?_) (fun c3 => ?_)
            · exact absurd c3 (nI_pos (by omega))
            · refine z_auto rfl ?_
              refine z_br rfl (fun c4 => ?_) (fun c4 => ?_)
              · refine z_auto rfl ?_
                refine z_ald (k := l) rfl rfl (by show l < 8; omega) ?_
                refine z_auto rfl ?_
                refine z_br rfl (fun c5 => ?_) (fun c5 => ?_)
                · have ha : nI l * 3 + nI j = nI (l * 3 + j) := by rw [show nI l * 3 = nI (l * 3) from pk_mul l 3, nI_add]
                  have hb : (50 : Int32) + 3 * nI l + nI j = nI (50 + l * 3 + j) := by
                    rw [Int32.mul_comm 3 (nI l), show nI l * 3 = nI (l * 3) from pk_mul l 3, show (50 : Int32) + nI (l * 3) = nI (50 + l * 3) from nI_add 50 (l * 3)]
                    exact nI_add _ _
                  refine z_auto rfl ?_
                  refine z_ald (k := (l * 3 + j)) rfl ha (by show l * 3 + j < 24; omega) ?_
                  refine z_auto rfl ?_
                  refine z_ast (k := (l * 3 + j)) rfl ha (by show l * 3 + j < 24; omega) ?_
                  refine z_auto rfl ?_
                  refine z_rt rfl (zPr_i (fun rl' rs' => ?_))
                  refine z_auto rfl ?_
                  refine z_cl rfl (m_isLayer_y (by rw [zup_c (by decide)]; exact hm) h8 hl ?_)
                  refine z_auto rfl ?_
                  refine z_st rfl ?_
                  refine z_auto rfl ?_
                  refine z_cl rfl (m_in_y (lo := 0) (hi := 2) (Nat.zero_le _) hj (by decide) ?_)
                  refine z_auto rfl ?_
                  refine z_jp rfl ?_
                  refine z_auto rfl ?_
                  refine z_cl rfl (m_in_y (lo := 0) (hi := 9) (Nat.zero_le _) hr (by decide) ?_)
                  refine z_auto rfl ?_
                  refine z_jp rfl ?_
                  refine z_auto rfl ?_
                  refine z_ald (k := (10 + l)) rfl (nI_add 10 l) (by show 10 + l < 937; omega) ?_
                  rw [zup_c (by decide), r1, ← p0]
                  refine z_auto rfl ?_
                  refine z_br rfl (fun c6 => ?_) (fun c6 => ?_)
                  · refine z_auto rfl ?_
                    refine z_ald (k := (50 + l * 3 + j)) rfl hb (by show 50 + l * 3 + j < 937; omega) ?_
                    rw [zup_c (by decide)]
                    refine z_auto rfl ?_
                    refine z_ast (k := (50 + l * 3 + j)) rfl hb (by show 50 + l * 3 + j < 937; omega) ?_
                    refine z_auto rfl ?_
                    refine z_rt rfl (zPr_o2 (by rw [w1, w2]) (zRel_L hR ?_ ?_))
                    · intro c i k h1 h2
                      unfold zup
                      rw [if_neg (by omega), if_neg (by omega)]
                    · intro n' hL
                      obtain ⟨g1, g2, g3, g4, g5, g6, g7, g8⟩ := hL
                      have hln : l < n' := by
                        have := g1.symm.trans hn
                        rw [(nI_eq (a := n') (b := n) (by omega) (by omega)).mp this]
                        exact hl
                      obtain ⟨J, hJ⟩ : ∃ J, J = zup (zup I 25 0 (l * 3 + j) (nI r)) 40 0 (50 + l * 3 + j) (nI r) := ⟨_, rfl⟩
                      rw [← hJ]
                      have A : ∀ c i k, c ≠ 25 → c ≠ 40 → J c i k = I c i k := fun c i k h1 h2 => by rw [hJ, zup_c h2, zup_c h1]
                      have B : ∀ k, k ≠ 50 + l * 3 + j → J 40 0 k = I 40 0 k := fun k h1 => by rw [hJ, zup_k h1, zup_c (by decide)]
                      have B1 : J 40 0 (50 + l * 3 + j) = nI r := by rw [hJ, zup_eq]
                      have D : ∀ i, i ≠ l * 3 + j → J 25 0 i = I 25 0 i := fun i h1 => by rw [hJ, zup_c (by decide), zup_k h1]
                      have D1 : J 25 0 (l * 3 + j) = nI r := by rw [hJ, zup_c (by decide), zup_eq]
                      clear hJ
                      refine ⟨n', (A 4 0 7 (by decide) (by decide)).trans g1, (B 0 (by omega)).trans g2, g3, fun i hi => ?_, fun i x hi hx => ?_, fun x h1 h2 => (D x (by omega)).trans (g6 x h1 h2), ?_, fun i hi => ?_⟩
                      · rw [A 20 0 i (by decide) (by decide), A 21 0 i (by decide) (by decide), A 22 0 i (by decide) (by decide), A 23 0 i (by decide) (by decide), A 24 0 i (by decide) (by decide), B (10 + i) (by omega), B (18 + i) (by omega), B (26 + i) (by omega), B (34 + i) (by omega), B (42 + i) (by omega)]
                        exact g4 i hi
                      · by_cases e : i * 3 + x = l * 3 + j
                        · rw [e, D1, show 50 + i * 3 + x = 50 + l * 3 + j by omega, B1]
                          exact ⟨r, hr, rfl, rfl⟩
                        · rw [D _ e, B _ (by omega)]
                          exact g5 i x hi hx
                      · rw [A 4 0 6 (by decide) (by decide), B 9 (by omega)]
                        exact g7
                      · rw [B 9 (by omega)]
                        exact g8 i hi
                  · exact absurd c5 c6
                · refine z_auto rfl ?_
                  refine z_rt rfl (zPr_i (fun rl' rs' => ?_))
                  refine z_auto rfl ?_
                  refine z_cl rfl (m_isLayer_y hm h8 hl ?_)
                  refine z_auto rfl ?_
                  refine z_st rfl ?_
                  refine z_auto rfl ?_
                  refine z_cl rfl (m_in_y (lo := 0) (hi := 2) (Nat.zero_le _) hj (by decide) ?_)
                  refine z_auto rfl ?_
                  refine z_jp rfl ?_
                  refine z_auto rfl ?_
                  refine z_cl rfl (m_in_y (lo := 0) (hi := 9) (Nat.zero_le _) hr (by decide) ?_)
                  refine z_auto rfl ?_
                  refine z_jp rfl ?_
                  refine z_auto rfl ?_
                  refine z_ald (k := (10 + l)) rfl (nI_add 10 l) (by show 10 + l < 937; omega) ?_
                  rw [r1, ← p0]
                  refine z_auto rfl ?_
                  refine z_br rfl (fun c6 => ?_) (fun c6 => ?_)
                  · exact absurd c6 c5
                  · refine z_auto rfl ?_
                    exact z_rt rfl (zPr_o hR)
              · exact absurd (nI_le (a := r) (b := 9) hr (by decide)) c4
          · have mr : ∀ rl' rs', zWm (d + 12) 134 [zr 10 0, zi (nI l), zi (nI j), zi x3] I (zRR rl' rs') (fun v2 I2 G2 => some (zi (-2)) = v2 ∧ zRel I2 ∧ ∃ rl2 rs2, G2 = zRR rl2 rs2) := by
              intro rl' rs'
              refine z_auto rfl ?_
              refine z_cl rfl (m_isLayer_y hm h8 hl ?_)
              refine z_auto rfl ?_
              refine z_st rfl ?_
              refine z_auto rfl ?_
              refine z_cl rfl (m_in_y (lo := 0) (hi := 2) (Nat.zero_le _) hj (by decide) ?_)
              refine z_auto rfl ?_
              refine z_jp rfl ?_
              refine z_auto rfl ?_
              refine z_cl rfl (m_in_n hx3 ?_)
              refine z_auto rfl ?_
              refine z_st rfl ?_
              refine z_auto rfl ?_
              exact z_rt rfl (zPr_o hR)
            refine z_auto rfl ?_
            refine z_br rfl (fun c3 => ?_) (fun c3 => ?_)
            · refine z_auto rfl ?_
              exact z_rt rfl (zPr_i mr)
            · refine z_auto rfl ?_
              refine z_br rfl (fun c4 => ?_) (fun c4 => ?_)
              · rcases hx3 with q | q
                · exact absurd q c3
                · exact absurd q (Int32.not_lt.mpr c4)
              · refine z_auto rfl ?_
                refine z_jp rfl ?_
                refine z_auto rfl ?_
                exact z_rt rfl (zPr_i mr)
        · exact absurd (nI_lt (a := j) (b := 3) (by omega) (by decide)) c2
    · have mr : ∀ rl' rs', zWm (d + 12) 134 [zr 10 0, zi (nI l), zi x2, zi x3] I (zRR rl' rs') (fun v2 I2 G2 => some (zi (-1)) = v2 ∧ zRel I2 ∧ ∃ rl2 rs2, G2 = zRR rl2 rs2) := by
        intro rl' rs'
        refine z_auto rfl ?_
        refine z_cl rfl (m_isLayer_y hm h8 hl ?_)
        refine z_auto rfl ?_
        refine z_st rfl ?_
        refine z_auto rfl ?_
        refine z_cl rfl (m_in_n hx2 ?_)
        refine z_auto rfl ?_
        refine z_st rfl ?_
        refine z_auto rfl ?_
        refine z_jp rfl ?_
        refine z_auto rfl ?_
        exact z_rt rfl (zPr_o hR)
      refine z_auto rfl ?_
      refine z_br rfl (fun c => ?_) (fun c => ?_)
      · refine z_auto rfl ?_
        exact z_rt rfl (zPr_i mr)
      · refine z_auto rfl ?_
        refine z_br rfl (fun c2 => ?_) (fun c2 => ?_)
        · rcases hx2 with q | q
          · exact absurd q c
          · exact absurd c2 (Int32.not_lt.mpr (n_ge (n := 2) (by decide) q))
        · refine z_auto rfl ?_
          refine z_jp rfl ?_
          refine z_auto rfl ?_
          exact z_rt rfl (zPr_i mr)
  · refine z_auto rfl ?_
    refine z_cl rfl (c_has_n hn h8 hx1 ?_)
    refine z_auto rfl ?_
    refine z_jp rfl ?_
    refine z_auto rfl ?_
    refine z_rt rfl (zPr_i (fun rl' rs' => ?_))
    refine z_auto rfl ?_
    refine z_cl rfl (m_isLayer_n hm h8 hx1 ?_)
    refine z_auto rfl ?_
    refine z_jp rfl ?_
    refine z_auto rfl ?_
    exact z_rt rfl (zPr_o hR)
