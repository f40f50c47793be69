/-! layer -/
section
variable {d : Nat} {I : zMI} {rl rs : Option (Nat × Nat)} {Q : zPQ} {G : zMR}
set_option maxHeartbeats 4000000 in
set_option maxRecDepth 100000 in
theorem m_in_c {x lo hi : Int32} (h1 : ¬ x < lo → ¬ hi < x → Q (some (zi 1)) I G) (h0 : (x < lo ∨ hi < x) → Q (some (zi 0)) I G) : zWm d 109 [zi x, zi lo, zi hi] I G Q := by
  refine z_auto rfl ?_
  refine z_br rfl (fun c => ?_) (fun c => ?_)
  · refine z_auto rfl ?_
    refine z_jp rfl ?_
    refine z_auto rfl ?_
    exact z_rt rfl (h0 (Or.inl c))
  · refine z_auto rfl ?_
    refine z_br rfl (fun c2 => ?_) (fun c2 => ?_)
    · refine z_auto rfl ?_
      refine z_jp rfl ?_
      refine z_auto rfl ?_
      exact z_rt rfl (h0 (Or.inr c2))
    · refine z_auto rfl ?_
      refine z_jp rfl ?_
      refine z_auto rfl ?_
      exact z_rt rfl (h1 c c2)
theorem r_clr {x : Int32} {n : Nat} (hn : n < 32) (h : bt x n = false) : x &&& ((1 <<< (nI n &&& 31)) ^^^ (-1)) = x := by
  refine b_ext (fun i hi => ?_)
  rw [b_and, b_xor, b_sh1 n hn hi, b_m1 i hi]
  by_cases c : i = n
  · subst c
    rw [h]
    rfl
  · rw [decide_eq_false c]
    cases bt x i <;> rfl
theorem zRel_lay {I M J : zMI} (hR : zRel I) {n kd v th w sd : Nat} (hn : I 40 0 0 = nI n) (h8 : n < 8) (hq : kd < 7 ∧ v ≤ 9 ∧ 1 ≤ th ∧ th ≤ 9 ∧ w ≤ 20 ∧ sd < 4) {B : Int32} (hB : bt (I 40 0 9) n = false → B = I 40 0 9)
    (hM : M = zup (zup (zup (zup (zup (zup I 20 0 n (nI kd)) 21 0 n (nI v)) 22 0 n (nI th)) 23 0 n (nI w)) 24 0 n (nI sd)) 4 0 7 (nI (n + 1)))
    (hJ : J = zup (zup (zup (zup (zup (zup (zup (zup (zup (zup M 40 0 (10 + n) (nI kd)) 40 0 (18 + n) (nI v)) 40 0 (26 + n) (nI th)) 40 0 (34 + n) (nI w)) 40 0 (42 + n) (nI sd)) 40 0 9 B) 40 0 (50 + n * 3 + 0) 0) 40 0 (50 + n * 3 + 1) 0) 40 0 (50 + n * 3 + 2) 0) 40 0 0 (nI (n + 1))) : zRel J := by
  have A : ∀ c i k, c ≠ 40 → J c i k = M c i k := fun c i k h1 => by
    rw [hJ]
    repeat rw [zup_c h1]
  have B0 : ∀ k, k ≠ 0 → k ≠ 9 → k ≠ 10 + n → k ≠ 18 + n → k ≠ 26 + n → k ≠ 34 + n → k ≠ 42 + n → ¬ (50 + n * 3 ≤ k ∧ k < 50 + n * 3 + 3) → J 40 0 k = I 40 0 k := fun k a1 a2 a3 a4 a5 a6 a7 a8 => by
    rw [hJ, hM]
    repeat rw [zup_ne (by omega)]
  have v0 : J 40 0 0 = nI (n + 1) := by rw [hJ, zup_eq]
  have v9 : J 40 0 9 = B := by
    rw [hJ]
    repeat (first | rw [zup_eq] | rw [zup_ne (by omega)])
  have va : J 40 0 (10 + n) = nI kd := by
    rw [hJ]
    repeat (first | rw [zup_eq] | rw [zup_ne (by omega)])
  have vb : J 40 0 (18 + n) = nI v := by
    rw [hJ]
    repeat (first | rw [zup_eq] | rw [zup_ne (by omega)])
  have vc : J 40 0 (26 + n) = nI th := by
    rw [hJ]
    repeat (first | rw [zup_eq] | rw [zup_ne (by omega)])
  have vd : J 40 0 (34 + n) = nI w := by
    rw [hJ]
    repeat (first | rw [zup_eq] | rw [zup_ne (by omega)])
  have ve : J 40 0 (42 + n) = nI sd := by
    rw [hJ]
    repeat (first | rw [zup_eq] | rw [zup_ne (by omega)])
  have vf : ∀ x, x < 3 → J 40 0 (50 + n * 3 + x) = nI 0 := by
    intro x hx
    rw [hJ]
    rcases (show x = 0 ∨ x = 1 ∨ x = 2 by omega) with rfl | rfl | rfl
    · repeat (first | rw [zup_eq] | rw [zup_ne (by omega)])
      rfl
    · repeat (first | rw [zup_eq] | rw [zup_ne (by omega)])
      rfl
    · repeat (first | rw [zup_eq] | rw [zup_ne (by omega)])
      rfl
  have C0 : ∀ c i k, c ≠ 40 → ¬ (c = 4 ∧ i = 0 ∧ k = 7) → ¬ (20 ≤ c ∧ c ≤ 24 ∧ i = 0 ∧ k = n) → J c i k = I c i k := fun c i k a1 a2 a3 => by
    rw [A c i k a1, hM]
    repeat rw [zup_ne (by omega)]
  have w4 : J 4 0 7 = nI (n + 1) := by rw [A _ _ _ (by decide), hM, zup_eq]
  have w20 : J 20 0 n = nI kd := by
    rw [A _ _ _ (by decide), hM]
    repeat (first | rw [zup_eq] | rw [zup_ne (by omega)])
  have w21 : J 21 0 n = nI v := by
    rw [A _ _ _ (by decide), hM]
    repeat (first | rw [zup_eq] | rw [zup_ne (by omega)])
  have w22 : J 22 0 n = nI th := by
    rw [A _ _ _ (by decide), hM]
    repeat (first | rw [zup_eq] | rw [zup_ne (by omega)])
  have w23 : J 23 0 n = nI w := by
    rw [A _ _ _ (by decide), hM]
    repeat (first | rw [zup_eq] | rw [zup_ne (by omega)])
  have w24 : J 24 0 n = nI sd := by
    rw [A _ _ _ (by decide), hM]
    repeat (first | rw [zup_eq] | rw [zup_ne (by omega)])
  have Z0 : ∀ i k, i ≠ 0 → J 40 i k = I 40 i k := fun i k h1 => by
    rw [hJ, hM]
    repeat rw [zup_ne (by omega)]
  clear hJ hM
  refine zRel_L hR (fun c i k h1 h2 => ?_) (fun n' hL => ?_)
  · by_cases c40 : c = 40
    · subst c40
      by_cases i0 : i = 0
      · subst i0
        exact B0 k (by omega) (by omega) (by omega) (by omega) (by omega) (by omega) (by omega) (by omega)
      · exact Z0 i k i0
    · exact C0 c i k c40 (by omega) (by omega)
  · obtain ⟨g1, g2, g3, g4, g5, g6, g7, g8⟩ := hL
    have hnn : n' = n := (nI_eq (a := n') (b := n) (by omega) (by omega)).mp (g2.symm.trans hn)
    subst hnn
    refine ⟨n' + 1, w4, v0, by omega, fun i hi => ?_, fun i x hi hx => ?_, fun x h1 h2 => ?_, ?_, fun i hi => ?_⟩
    · by_cases e : i = n'
      · subst e
        exact ⟨kd, v, th, w, sd, hq, ⟨w20, w21, w22, w23, w24⟩, va, vb, vc, vd, ve⟩
      · rw [C0 20 0 i (by decide) (by omega) (by omega), C0 21 0 i (by decide) (by omega) (by omega), C0 22 0 i (by decide) (by omega) (by omega), C0 23 0 i (by decide) (by omega) (by omega), C0 24 0 i (by decide) (by omega) (by omega)]
        rw [B0 (10 + i) (by omega) (by omega) (by omega) (by omega) (by omega) (by omega) (by omega) (by omega), B0 (18 + i) (by omega) (by omega) (by omega) (by omega) (by omega) (by omega) (by omega) (by omega), B0 (26 + i) (by omega) (by omega) (by omega) (by omega) (by omega) (by omega) (by omega) (by omega), B0 (34 + i) (by omega) (by omega) (by omega) (by omega) (by omega) (by omega) (by omega) (by omega), B0 (42 + i) (by omega) (by omega) (by omega) (by omega) (by omega) (by omega) (by omega) (by omega)]
        exact g4 i (by omega)
    · rw [C0 25 0 _ (by decide) (by omega) (by omega)]
      by_cases e : i = n'
      · subst e
        exact ⟨0, by decide, (g6 _ (by omega) (by omega)), vf x hx⟩
      · rw [B0 (50 + i * 3 + x) (by omega) (by omega) (by omega) (by omega) (by omega) (by omega) (by omega) (by omega)]
        exact g5 i x (by omega) hx
    · rw [C0 25 0 _ (by decide) (by omega) (by omega)]
      exact g6 x (by omega) h2
    · rw [C0 4 0 6 (by decide) (by omega) (by omega), v9, hB (g8 _ (Nat.le_refl _))]
      exact g7
    · rw [v9, hB (g8 _ (Nat.le_refl _))]
      exact g8 i (by omega)
set_option maxHeartbeats 4000000 in
set_option maxRecDepth 100000 in
theorem p_layer (x1 x2 x3 x4 x5 : Int32) : zPr 66 130 [zi x1, zi x2, zi x3, zi x4, zi x5] := by
  intro d I rl rs hR
  have hR0 := hR
  obtain ⟨n, k, t, ⟨b1, b2, b3, b4, b5, b6⟩, -, -, -, -, -⟩ := hR0
  have hn := b1.1
  have hm := b1.2.1
  have h8 := b1.2.2.1
  have g8 := b1.2.2.2.2.2.2.2
  rcases n_cases x1 6 (by decide) with ⟨kd, hkd, rfl⟩ | hx1
  · refine z_auto rfl ?_
    refine z_cl rfl (c_isKind_y hkd ?_)
    refine z_auto rfl ?_
    refine z_st rfl ?_
    rcases n_cases x5 3 (by decide) with ⟨sd, hsd, rfl⟩ | hx5
    · refine z_auto rfl ?_
      refine z_cl rfl (c_isSide_y hsd ?_)
      refine z_auto rfl ?_
      refine z_jp rfl ?_
      have mbad : (x2 < 0 ∨ 9 < x2 ∨ x3 < 1 ∨ 9 < x3 ∨ x4 < 0 ∨ 20 < x4) → ∀ rl' rs', zWm (d + 12) 130 [zr 10 0, zi (nI kd), zi x2, zi x3, zi x4, zi (nI sd)] I (zRR rl' rs') (fun v2 I2 G2 => some (zi (-2)) = v2 ∧ zRel I2 ∧ ∃ rl2 rs2, G2 = zRR rl2 rs2) := by
        intro hb rl' rs'
        refine z_auto rfl ?_
        refine z_cl rfl (m_in_y (lo := 0) (hi := 6) (Nat.zero_le _) hkd (by decide) ?_)
        refine z_auto rfl ?_
        refine z_st rfl ?_
        refine z_auto rfl ?_
        refine z_cl rfl (m_isSide_y hsd ?_)
        refine z_auto rfl ?_
        refine z_jp rfl ?_
        refine z_auto rfl ?_
        refine z_cl rfl (m_in_c (fun q1 q2 => ?_) (fun q => ?_))
        · refine z_auto rfl ?_
          refine z_st rfl ?_
          refine z_auto rfl ?_
          refine z_cl rfl (m_in_c (fun q3 q4 => ?_) (fun q => ?_))
          · refine z_auto rfl ?_
            refine z_st rfl ?_
            refine z_auto rfl ?_
            refine z_cl rfl (m_in_c (fun q5 q6 => ?_) (fun q => ?_))
            · exfalso
              rcases hb with q | q | q | q | q | q
              · exact q1 q
              · exact q2 q
              · exact q3 q
              · exact q4 q
              · exact q5 q
              · exact q6 q
            · refine z_auto rfl ?_
              refine z_st rfl ?_
              refine z_auto rfl ?_
              refine z_jp rfl ?_
              refine z_auto rfl ?_
              exact z_rt rfl (zPr_o hR)
          · refine z_auto rfl ?_
            refine z_jp rfl ?_
            refine z_auto rfl ?_
            exact z_rt rfl (zPr_o hR)
        · refine z_auto rfl ?_
          refine z_jp rfl ?_
          refine z_auto rfl ?_
          exact z_rt rfl (zPr_o hR)
      refine z_auto rfl ?_
      refine z_br rfl (fun c1 => ?_) (fun c1 => ?_)
      · refine z_auto rfl ?_
        exact z_rt rfl (zPr_i (mbad (by simp only [c1, true_or])))
      · refine z_auto rfl ?_
        refine z_br rfl (fun c2 => ?_) (fun c2 => ?_)
        · refine z_auto rfl ?_
          exact z_rt rfl (zPr_i (mbad (by simp only [c2, true_or, or_true])))
        · refine z_auto rfl ?_
          refine z_br rfl (fun c3 => ?_) (fun c3 => ?_)
          · refine z_auto rfl ?_
            exact z_rt rfl (zPr_i (mbad (by simp only [c3, true_or, or_true])))
          · refine z_auto rfl ?_
            refine z_br rfl (fun c4 => ?_) (fun c4 => ?_)
            · refine z_auto rfl ?_
              exact z_rt rfl (zPr_i (mbad (by simp only [c4, true_or, or_true])))
            · refine z_auto rfl ?_
              refine z_br rfl (fun c5 => ?_) (fun c5 => ?_)
              · refine z_auto rfl ?_
                exact z_rt rfl (zPr_i (mbad (by simp only [c5, true_or, or_true])))
              · refine z_auto rfl ?_
                refine z_br rfl (fun c6 => ?_) (fun c6 => ?_)
                · rcases n_cases x2 9 (by decide) with ⟨v, hv, rfl⟩ | q
                  · rcases n_cases x3 9 (by decide) with ⟨th, hth, rfl⟩ | q
                    · rcases n_cases x4 20 (by decide) with ⟨w, hw, rfl⟩ | q
                      · have hth1 : 1 ≤ th := by
                          rcases Nat.eq_zero_or_pos th with q | q
                          · subst q
                            exact absurd (by decide) c3
                          · exact q
                        refine z_auto rfl ?_
                        refine z_cl rfl (s_add hn h8 (fun e => ?_) (fun hlt => ?_))
                        · refine z_auto rfl ?_
                          refine z_rt rfl (zPr_i (fun rl' rs' => ?_))
                          refine z_auto rfl ?_
                          refine z_cl rfl (m_in_y (lo := 0) (hi := 6) (Nat.zero_le _) hkd (by decide) ?_)
                          refine z_auto rfl ?_
                          refine z_st rfl ?_
                          refine z_auto rfl ?_
                          refine z_cl rfl (m_isSide_y hsd ?_)
                          refine z_auto rfl ?_
                          refine z_jp rfl ?_
                          refine z_auto rfl ?_
                          refine z_cl rfl (m_in_y (lo := 0) (hi := 9) (Nat.zero_le _) hv (by decide) ?_)
                          refine z_auto rfl ?_
                          refine z_st rfl ?_
                          refine z_auto rfl ?_
                          refine z_cl rfl (m_in_y (lo := 1) (hi := 9) hth1 hth (by decide) ?_)
                          refine z_auto rfl ?_
                          refine z_st rfl ?_
                          refine z_auto rfl ?_
                          refine z_cl rfl (m_in_y (lo := 0) (hi := 20) (Nat.zero_le _) hw (by decide) ?_)
                          refine z_auto rfl ?_
                          refine z_jp rfl ?_
                          refine z_auto rfl ?_
                          refine z_ald (k := 0) rfl rfl (by decide) ?_
                          rw [hm, e]
                          refine z_auto rfl ?_
                          refine z_st rfl ?_
                          refine z_auto rfl ?_
                          exact z_rt rfl (zPr_o hR)
                        · refine z_auto rfl ?_
                          refine z_rt rfl (zPr_i (fun rl' rs' => ?_))
                          obtain ⟨M, hM⟩ : ∃ M, M = zup (zup (zup (zup (zup (zup I 20 0 n (nI kd)) 21 0 n (nI v)) 22 0 n (nI th)) 23 0 n (nI w)) 24 0 n (nI sd)) 4 0 7 (nI (n + 1)) := ⟨_, rfl⟩
                          rw [← hM]
                          have m0 : M 40 0 0 = nI n := by
                            rw [hM]
                            repeat rw [zup_c (by decide)]
                            exact hm
                          have m9 : M 40 0 9 = I 40 0 9 := by
                            rw [hM]
                            repeat rw [zup_c (by decide)]
                          have ix : ∀ j : Nat, (50 : Int32) + 3 * nI n + nI j = nI (50 + n * 3 + j) := fun j => by
                            rw [Int32.mul_comm 3 (nI n), show nI n * 3 = nI (n * 3) from pk_mul n 3, show (50 : Int32) + nI (n * 3) = nI (50 + n * 3) from nI_add 50 (n * 3)]
                            exact nI_add _ _
                          refine z_auto rfl ?_
                          refine z_cl rfl (m_in_y (lo := 0) (hi := 6) (Nat.zero_le _) hkd (by decide) ?_)
                          refine z_auto rfl ?_
                          refine z_st rfl ?_
                          refine z_auto rfl ?_
                          refine z_cl rfl (m_isSide_y hsd ?_)
                          refine z_auto rfl ?_
                          refine z_jp rfl ?_
                          refine z_auto rfl ?_
                          refine z_cl rfl (m_in_y (lo := 0) (hi := 9) (Nat.zero_le _) hv (by decide) ?_)
                          refine z_auto rfl ?_
                          refine z_st rfl ?_
                          refine z_auto rfl ?_
                          refine z_cl rfl (m_in_y (lo := 1) (hi := 9) hth1 hth (by decide) ?_)
                          refine z_auto rfl ?_
                          refine z_st rfl ?_
                          refine z_auto rfl ?_
                          refine z_cl rfl (m_in_y (lo := 0) (hi := 20) (Nat.zero_le _) hw (by decide) ?_)
                          refine z_auto rfl ?_
                          refine z_jp rfl ?_
                          refine z_auto rfl ?_
                          refine z_ald (k := 0) rfl rfl (by decide) ?_
                          rw [m0]
                          refine z_auto rfl ?_
                          refine z_br rfl (fun c7 => ?_) (fun c7 => ?_)
                          · refine z_auto rfl ?_
                            refine z_ald (k := 0) rfl rfl (by decide) ?_
                            rw [m0]
                            refine z_auto rfl ?_
                            refine z_ast (k := (10 + n)) rfl (nI_add 10 n) (by show 10 + n < 937; omega) ?_
                            refine z_auto rfl ?_
                            refine z_ast (k := (18 + n)) rfl (nI_add 18 n) (by show 18 + n < 937; omega) ?_
                            refine z_auto rfl ?_
                            refine z_ast (k := (26 + n)) rfl (nI_add 26 n) (by show 26 + n < 937; omega) ?_
                            refine z_auto rfl ?_
                            refine z_ast (k := (34 + n)) rfl (nI_add 34 n) (by show 34 + n < 937; omega) ?_
                            refine z_auto rfl ?_
                            refine z_ast (k := (42 + n)) rfl (nI_add 42 n) (by show 42 + n < 937; omega) ?_
                            refine z_auto rfl ?_
                            refine z_ald (k := 9) rfl rfl (by decide) ?_
                            rw [zup_ne (by omega), zup_ne (by omega), zup_ne (by omega), zup_ne (by omega), zup_ne (by omega), m9]
                            refine z_auto rfl ?_
                            refine z_ast (k := 9) rfl rfl (by decide) ?_
                            refine z_auto rfl ?_
                            refine z_jp rfl ?_
                            refine z_auto rfl ?_
                            refine z_st rfl ?_
                            refine z_auto rfl ?_
                            refine z_ast (k := (50 + n * 3 + 0)) rfl (ix 0) (by show 50 + n * 3 + 0 < 937; omega) ?_
                            refine z_auto rfl ?_
                            refine z_jp rfl ?_
                            refine z_auto rfl ?_
                            refine z_st rfl ?_
                            refine z_auto rfl ?_
                            refine z_ast (k := (50 + n * 3 + 1)) rfl (ix 1) (by show 50 + n * 3 + 1 < 937; omega) ?_
                            refine z_auto rfl ?_
                            refine z_jp rfl ?_
                            refine z_auto rfl ?_
                            refine z_st rfl ?_
                            refine z_auto rfl ?_
                            refine z_ast (k := (50 + n * 3 + 2)) rfl (ix 2) (by show 50 + n * 3 + 2 < 937; omega) ?_
                            refine z_auto rfl ?_
                            refine z_jp rfl ?_
                            refine z_auto rfl ?_
                            refine z_jp rfl ?_
                            refine z_auto rfl ?_
                            refine z_ald (k := 0) rfl rfl (by decide) ?_
                            rw [zup_ne (by omega), zup_ne (by omega), zup_ne (by omega), zup_ne (by omega), zup_ne (by omega), zup_ne (by omega), zup_ne (by omega), zup_ne (by omega), zup_ne (by omega), m0]
                            refine z_auto rfl ?_
                            rw [show nI n + 1 = nI (n + 1) from (nI_succ n).symm]
                            refine z_auto rfl ?_
                            refine z_ast (k := 0) rfl rfl (by decide) ?_
                            refine z_auto rfl ?_
                            exact z_rt rfl (zPr_o2 rfl (zRel_lay hR hm hlt ⟨by omega, hv, hth1, hth, hw, by omega⟩ (fun hb => r_clr (by omega) hb) hM rfl))
                          · exact absurd ((nI_eq (a := n) (b := 8) (by omega) (by decide)).mp (Classical.not_not.mp c7)) (by omega)
                      · exact absurd q (fun q => q.elim c5 (fun q => absurd q (Int32.not_lt.mpr c6)))
                    · exact absurd q (fun q => q.elim (fun q => c3 (Int32.lt_trans q (by decide))) c4)
                  · exact absurd q (fun q => q.elim c1 c2)
                · refine z_auto rfl ?_
                  refine z_jp rfl ?_
                  refine z_auto rfl ?_
                  exact z_rt rfl (zPr_i (mbad (by simp only [show 20 < x4 from Int32.not_le.mp c6, or_true])))
    · refine z_auto rfl ?_
      refine z_cl rfl (c_isSide_n hx5 ?_)
      refine z_auto rfl ?_
      refine z_st rfl ?_
      refine z_auto rfl ?_
      refine z_jp rfl ?_
      refine z_auto rfl ?_
      refine z_rt rfl (zPr_i (fun rl' rs' => ?_))
      refine z_auto rfl ?_
      refine z_cl rfl (m_in_y (lo := 0) (hi := 6) (Nat.zero_le _) hkd (by decide) ?_)
      refine z_auto rfl ?_
      refine z_st rfl ?_
      refine z_auto rfl ?_
      refine z_cl rfl (m_isSide_n hx5 ?_)
      refine z_auto rfl ?_
      refine z_st rfl ?_
      refine z_auto rfl ?_
      refine z_jp rfl ?_
      refine z_auto rfl ?_
      exact z_rt rfl (zPr_o hR)
  · refine z_auto rfl ?_
    refine z_cl rfl (c_isKind_n hx1 ?_)
    refine z_auto rfl ?_
    refine z_jp rfl ?_
    refine z_auto rfl ?_
    refine z_rt rfl (zPr_i (fun rl' rs' => ?_))
    refine z_auto rfl ?_
    refine z_cl rfl (m_in_n hx1 ?_)
    refine z_auto rfl ?_
    refine z_jp rfl ?_
    refine z_auto rfl ?_
    exact z_rt rfl (zPr_o hR)
end
