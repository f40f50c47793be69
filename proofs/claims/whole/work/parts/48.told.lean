/-! prices on the model's side; told, of, as -/
section
variable {d : Nat} {I : zMI} {rl rs : Option (Nat × Nat)} {Q : zPQ} {G : zMR} {n k t : Nat} {C : List zCl}
theorem fPr_fa {I J : zMI} (h : zFa I J) (C : List zCl) (l : Nat) : fPr J C l = fPr I C l := by
  have g : ∀ c i k, (c = 1 ∨ c = 2 ∨ c = 4 ∨ c = 6 ∨ c = 7 ∨ c = 8 ∨ (20 ≤ c ∧ c ≤ 33)) → (c = 2 → i ≠ 2) → J c i k = I c i k := zFa_k h
  unfold fPr
  rw [g 24 0 l (by omega) (by omega), g 20 0 l (by omega) (by omega), g 22 0 l (by omega) (by omega), g 1 0 6 (by omega) (by omega)]
theorem fPs_fa {I J : zMI} (h : zFa I J) (C : List zCl) : ∀ l, fPs J C l = fPs I C l := by
  intro l
  induction l with
  | zero => rfl
  | succ l ih => rw [fPs, fPs, ih, fPr_fa h]
set_option maxHeartbeats 4000000 in
set_option maxRecDepth 100000 in
theorem m_priceOf {J : zMI} (hS : zSt8 I C n k t) (hJ : zFa I J) {l : Nat} (hl : l < n) (h : ∀ K, zFM J K → Q (some (zi (nI (fPr I C l)))) K (zRR rl rs)) : zWm (d + 2) 129 [zr 10 0, zi (nI l)] J (zRR rl rs) Q := by
  obtain ⟨h1, h2, h3⟩ := zSt8_fr hJ hS
  have h8 := h2.2.2.2.2.1
  obtain ⟨kd, v, th, w, sd, q, ⟨p0, p1, p2, p3, p4⟩, r1, r2, r3, r4, r5⟩ := h1.1.2.2.2.1 l hl
  have e6 := h1.2.2.2.2.2.1.trans h1.2.2.2.2.2.2.1.symm
  refine z_auto rfl ?_
  refine z_ald (k := (42 + l)) rfl (nI_add 42 l) (by show 42 + l < 937; omega) ?_
  refine z_auto rfl ?_
  refine z_ald (k := (10 + l)) rfl (nI_add 10 l) (by show 10 + l < 937; omega) ?_
  refine z_auto rfl ?_
  refine z_ald (k := (26 + l)) rfl (nI_add 26 l) (by show 26 + l < 937; omega) ?_
  rw [r5, r1, r3]
  refine z_auto rfl ?_
  refine z_cl rfl (m_looks h3 (fun K hK _ h12 => ?_))
  have e : K 10 0 12 = nI (fPr I C l) := by
    rw [h12, ← fPr_fa hJ, fPr, p4, p0, p2, e6]
  refine z_auto rfl ?_
  rw [e]
  refine z_auto rfl ?_
  exact z_rt rfl (h K (zFM.of hK))
set_option maxHeartbeats 4000000 in
set_option maxRecDepth 100000 in
theorem m_prices {J : zMI} (hS : zSt8 I C n k t) (hJ : zFa I J) (h : ∀ K, zFM J K → Q (some (zi (nI (fPs I C n)))) K (zRR rl rs)) : zWm (d + 3) 137 [zr 10 0] J (zRR rl rs) Q := by
  have h8 := hS.2.1.2.2.2.2.1
  have loop : ∀ m i, i + m = n → ∀ K, zFM J K → zW (d + 3) kX10_prices (zblk kX10_prices 1) [some (zr 10 0), some (zi (nI (fPs I C i))), some (zi (nI i))] [] K (zRR rl rs) Q := by
    intro m
    induction m with
    | zero =>
      intro i hi K hK
      have hn := (zSt8_fr (hJ.tr (zFa.M hK)) hS).1.1.2.1
      have : i = n := by omega
      subst this
      refine z_auto rfl ?_
      refine z_ald (k := 0) rfl rfl (by decide) ?_
      rw [hn]
      refine z_auto rfl ?_
      refine z_br rfl (fun c => ?_) (fun c => ?_)
      · refine z_auto rfl ?_
        exact z_rt rfl (h K hK)
      · exact absurd (nI_le (Nat.le_refl _) (by omega)) c
    | succ m ih =>
      intro i hi K hK
      have hn := (zSt8_fr (hJ.tr (zFa.M hK)) hS).1.1.2.1
      refine z_auto rfl ?_
      refine z_ald (k := 0) rfl rfl (by decide) ?_
      rw [hn]
      refine z_auto rfl ?_
      refine z_br rfl (fun c => ?_) (fun c => ?_)
      · exact absurd c (nI_ge (by omega) (by omega))
      · refine z_auto rfl ?_
        refine z_cl rfl (m_priceOf hS (hJ.tr (zFa.M hK)) (l := i) (by omega) (fun L hL => ?_))
        have h2 := ih (i + 1) (by omega) L (hK.tr hL)
        rw [fPs, nI_succ] at h2
        refine z_auto rfl ?_
        rw [nI_add]
        refine z_auto rfl ?_
        refine z_jp rfl ?_
        exact h2
  refine z_auto rfl ?_
  refine z_jp rfl ?_
  exact loop n 0 (by omega) J zFM.rf
set_option maxHeartbeats 4000000 in
set_option maxRecDepth 100000 in
theorem p_told (x1 : Int32) : zPr 72 138 [zi x1] := by
  intro d I rl rs hR
  obtain ⟨C, n, k, t, hS, h14, h15⟩ := r_st hR
  obtain ⟨⟨b1, b2, b3, b4, b5, b6⟩, hC, hH⟩ := hS
  have hS : zSt8 I C n k t := ⟨⟨b1, b2, b3, b4, b5, b6⟩, hC, hH⟩
  obtain ⟨e1, e2, e3, e4, e5⟩ := b6
  rcases n_cases x1 7 (by decide) with ⟨w, hw, rfl⟩ | hx
  · rcases w with _ | _ | _ | _ | _ | _ | _ | _ | w
    · refine z_auto rfl ?_
      refine z_jp rfl ?_
      refine z_auto rfl ?_
      refine z_rt rfl (zPr_i (fun rl' rs' => ?_))
      refine z_auto rfl ?_
      refine z_jp rfl ?_
      refine z_auto rfl ?_
      refine z_ald (k := 6) rfl rfl (by decide) ?_
      refine z_auto rfl ?_
      exact z_rt rfl (zPr_o2 (by rw [e1, e2]) hR)
    · refine z_auto rfl ?_
      refine z_jp rfl ?_
      refine z_auto rfl ?_
      refine z_cl rfl (s_bear hC ?_)
      refine z_auto rfl ?_
      refine z_rt rfl (zPr_i (fun rl' rs' => ?_))
      refine z_auto rfl ?_
      refine z_jp rfl ?_
      refine z_auto rfl ?_
      refine z_cl rfl (m_tells0 hH ?_)
      refine z_auto rfl ?_
      exact z_rt rfl (zPr_o hR)
    · refine z_auto rfl ?_
      refine z_jp rfl ?_
      refine z_auto rfl ?_
      refine z_cl rfl (s_holding hC.1 hC.2.1 ?_)
      refine z_auto rfl ?_
      refine z_cl rfl (s_last (w := 1) hC.2.2.1 (by omega) ?_)
      refine z_auto rfl ?_
      refine z_rt rfl (zPr_i (fun rl' rs' => ?_))
      refine z_auto rfl ?_
      refine z_jp rfl ?_
      refine z_auto rfl ?_
      refine z_cl rfl (m_tells1 hH ?_)
      refine z_auto rfl ?_
      exact z_rt rfl (zPr_o hR)
    · refine z_auto rfl ?_
      refine z_jp rfl ?_
      refine z_auto rfl ?_
      refine z_rt rfl (zPr_i (fun rl' rs' => ?_))
      refine z_auto rfl ?_
      refine z_jp rfl ?_
      refine z_auto rfl ?_
      refine z_ald (k := 7) rfl rfl (by decide) ?_
      refine z_auto rfl ?_
      exact z_rt rfl (zPr_o2 (by rw [e4]) hR)
    · refine z_auto rfl ?_
      refine z_jp rfl ?_
      have mrun : ∀ v : Int32, v = 1 - I 40 0 8 → ∀ rl' rs', zWm (d + 12) 138 [zr 10 0, zi (nI 4)] I (zRR rl' rs') (fun v2 I2 G2 => some (zi v) = v2 ∧ zRel I2 ∧ ∃ rl2 rs2, G2 = zRR rl2 rs2) := by
        intro v hv rl' rs'
        refine z_auto rfl ?_
        refine z_jp rfl ?_
        refine z_auto rfl ?_
        refine z_ald (k := 8) rfl rfl (by decide) ?_
        refine z_auto rfl ?_
        exact z_rt rfl (zPr_o2 (by rw [hv]) hR)
      rcases e5 with ⟨q1, q2⟩ | ⟨q1, q2⟩
      · refine z_auto rfl ?_
        refine z_br rfl (fun c => ?_) (fun c => ?_)
        · rw [q1] at c
          exact absurd c (by decide)
        · refine z_auto rfl ?_
          refine z_jp rfl ?_
          refine z_auto rfl ?_
          exact z_rt rfl (zPr_i (mrun _ (by rw [q2]; rfl)))
      · refine z_auto rfl ?_
        refine z_br rfl (fun c => ?_) (fun c => ?_)
        · refine z_auto rfl ?_
          refine z_jp rfl ?_
          refine z_auto rfl ?_
          exact z_rt rfl (zPr_i (mrun _ (by rw [q2]; rfl)))
        · exact absurd q1 c
    · refine z_auto rfl ?_
      refine z_jp rfl ?_
      refine z_auto rfl ?_
      refine z_cl rfl (s_weight hC.2.2.2.1 hC.2.2.2.2.1 ?_)
      refine z_auto rfl ?_
      refine z_rt rfl (zPr_i (fun rl' rs' => ?_))
      refine z_auto rfl ?_
      refine z_jp rfl ?_
      refine z_auto rfl ?_
      refine z_cl rfl (m_weight b1.2.1 b1.2.2.1 ?_)
      refine z_auto rfl ?_
      exact z_rt rfl (zPr_o2 (by
        rw [zww_cong n (fun k hk => by
          obtain ⟨kd, v, th, w, sd, q, ⟨p0, p1, p2, p3, p4⟩, r1, r2, r3, r4, r5⟩ := b1.2.2.2.1 k hk
          exact p3.trans r4.symm)]) hR)
    · refine z_auto rfl ?_
      refine z_jp rfl ?_
      refine z_auto rfl ?_
      refine z_cl rfl (s_prices hC (fun J hJ => ?_))
      refine z_auto rfl ?_
      refine z_rt rfl (zPr_i (fun rl' rs' => ?_))
      refine z_auto rfl ?_
      refine z_jp rfl ?_
      refine z_auto rfl ?_
      refine z_cl rfl (m_prices hS (zFa.r hJ) (fun K hK => ?_))
      refine z_auto rfl ?_
      exact z_rt rfl (zPr_o (zRel_M hK (zRel_r hJ hR)))
    · refine z_auto rfl ?_
      refine z_jp rfl ?_
      refine z_auto rfl ?_
      refine z_rt rfl (zPr_i (fun rl' rs' => ?_))
      refine z_auto rfl ?_
      refine z_jp rfl ?_
      refine z_auto rfl ?_
      refine z_ald (k := 9) rfl rfl (by decide) ?_
      refine z_auto rfl ?_
      exact z_rt rfl (zPr_o2 (by rw [b1.2.2.2.2.2.2.1]) hR)
    · omega
  · refine z_auto rfl ?_
    refine z_sw rfl (fun q hq hx2 => ?_) (fun hn => ?_)
    · exfalso
      have hq : q ∈ [((0 : Int32), 1), (1, 2), (2, 3), (3, 4), (4, 5), (5, 8), (6, 9), (7, 10)] := hq
      simp only [List.mem_cons, List.not_mem_nil, or_false] at hq
      rcases hq with rfl | rfl | rfl | rfl | rfl | rfl | rfl | rfl <;> (subst hx2; revert hx; decide)
    · refine z_auto rfl ?_
      refine z_rt rfl (zPr_i (fun rl' rs' => ?_))
      refine z_auto rfl ?_
      refine z_sw rfl (fun q hq hx2 => ?_) (fun hn => ?_)
      · exfalso
        have hq : q ∈ [((0 : Int32), 1), (1, 2), (2, 3), (3, 4), (4, 5), (5, 6), (6, 7), (7, 8)] := hq
        simp only [List.mem_cons, List.not_mem_nil, or_false] at hq
        rcases hq with rfl | rfl | rfl | rfl | rfl | rfl | rfl | rfl <;> (subst hx2; revert hx; decide)
      · refine z_auto rfl ?_
        exact z_rt rfl (zPr_o hR)
end
