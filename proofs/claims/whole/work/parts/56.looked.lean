/-! looked, failed -/
section
set_option maxHeartbeats 4000000 in
set_option maxRecDepth 100000 in
theorem p_looked : zPr 86 160 [] := by
  intro d I rl rs hR
  obtain ⟨C, n, k, t, hS, h14, h15⟩ := r_st hR
  have hS0 := hS
  obtain ⟨⟨b1, b2, b3, ⟨m, b4⟩, b5, b6⟩, -, -⟩ := hS0
  obtain ⟨h1, h2, h3, h4⟩ := b4
  have h1 : I 7 1 3 = nI m := h1
  have h4 : ∀ i, i < m → ∃ f sd x : Nat, (f ≤ 20 ∧ sd < 4 ∧ x ≤ 9999) ∧ (I 26 1 i = nI f ∧ I 27 1 i = nI sd ∧ I 28 1 i = nI x) ∧ I 40 0 (98 + i) = nI f ∧ I 40 0 (98 + 8 + i) = nI sd ∧ I 40 0 (98 + 16 + i) = nI x := h4
  obtain ⟨e, he, hb, hl⟩ : ∃ e, e ≤ m ∧ (e = m ∨ ¬ fFo I C n t (I 26 1 e) (I 27 1 e) 0 0 = I 28 1 e) ∧ ∀ g, g < e → fFo I C n t (I 26 1 g) (I 27 1 g) 0 0 = I 28 1 g := by
    rcases n_first (fun g => fFo I C n t (I 26 1 g) (I 27 1 g) 0 0 = I 28 1 g) m with h | ⟨f, h1, h2, h3⟩
    · exact ⟨m, Nat.le_refl _, Or.inl rfl, h⟩
    · exact ⟨f, by omega, Or.inr h2, h3⟩
  have mrun : ∀ J, zFr I J → ∀ v : Int32, (v = if e = m then -5 else nI e) → ∀ rl' rs', zWm (d + 12) 160 [zr 10 0] J (zRR rl' rs') (fun v2 I2 G2 => some (zi v) = v2 ∧ zRel I2 ∧ ∃ rl2 rs2, G2 = zRR rl2 rs2) := by
    intro J hJ v hv rl' rs'
    have loop : ∀ q i, i + q = e → ∀ K, zFM J K → zW (d + 12) kX10_looked (zblk kX10_looked 1) [some (zr 10 0), some (zi (nI i))] [] K (zRR rl' rs') (fun v2 I2 G2 => some (zi v) = v2 ∧ zRel I2 ∧ ∃ rl2 rs2, G2 = zRR rl2 rs2) := by
      intro q
      induction q with
      | zero =>
        intro i hi K hK
        have : i = e := by omega
        subst this
        have k40 : ∀ x, K 40 0 x = I 40 0 x := fun x => (hK 40 0 x (by decide) (by decide) (Or.inl (by decide))).trans (hJ 40 0 x (by decide) (by decide) (Or.inl (by decide)))
        refine z_auto rfl ?_
        refine z_ald (k := 3) rfl rfl (by decide) ?_
        rw [k40, h2]
        refine z_auto rfl ?_
        refine z_br rfl (fun c => ?_) (fun c => ?_)
        · have : i = m := by
            apply Classical.byContradiction
            intro q
            exact absurd c (Int32.not_le.mpr (nI_lt (a := i) (b := m) (by omega) (by omega)))
          refine z_auto rfl ?_
          exact z_rt rfl (zPr_o2 (by rw [hv, if_pos this]) (zRel_M hK (zRel_r hJ hR)))
        · have him : i < m := by
            apply Classical.byContradiction
            intro q
            have : i = m := by omega
            subst this
            exact c (Int32.le_refl _)
          obtain ⟨f, sd, x, ⟨q1, q2, q3⟩, ⟨p0, p1, p2⟩, r1, r2, r3⟩ := h4 i him
          have hne : ¬ fFo I C n t (nI f) (nI sd) 0 0 = nI x := by
            rcases hb with q | q
            · omega
            · rw [p0, p1, p2] at q
              exact q
          refine z_auto rfl ?_
          refine z_ald (k := (98 + i)) rfl (nI_add 98 i) (by show 98 + i < 937; omega) ?_
          refine z_auto rfl ?_
          refine z_ald (k := (106 + i)) rfl (nI_add 106 i) (by show 106 + i < 937; omega) ?_
          rw [k40, k40, r1, r2]
          refine z_auto rfl ?_
          refine z_cl rfl (m_fa hS ((zFa.r hJ).tr (zFa.M hK)) q1 (by decide : 0 ≤ 100) ((zFM_15 hK).trans ((zFr_15 hJ).trans h15)) ((zFM_14 hK).trans ((zFr_14 hJ).trans h14)) (fun L hL _ _ _ => ?_))
          have l40 : L 40 0 (114 + i) = nI x := (hL 40 0 _ (by decide) (by decide) (Or.inl (by decide))).trans ((k40 _).trans r3)
          refine z_auto rfl ?_
          refine z_ald (k := (114 + i)) rfl (nI_add 114 i) (by show 114 + i < 937; omega) ?_
          rw [l40]
          refine z_auto rfl ?_
          refine z_br rfl (fun c2 => ?_) (fun c2 => ?_)
          · exact absurd c2 hne
          · refine z_auto rfl ?_
            exact z_rt rfl (zPr_o2 (by rw [hv, if_neg (by omega)]) (zRel_M (hK.tr hL) (zRel_r hJ hR)))
      | succ q ih =>
        intro i hi K hK
        have k40 : ∀ x, K 40 0 x = I 40 0 x := fun x => (hK 40 0 x (by decide) (by decide) (Or.inl (by decide))).trans (hJ 40 0 x (by decide) (by decide) (Or.inl (by decide)))
        obtain ⟨f, sd, x, ⟨q1, q2, q3⟩, ⟨p0, p1, p2⟩, r1, r2, r3⟩ := h4 i (by omega)
        have heq := hl i (by omega)
        rw [p0, p1, p2] at heq
        refine z_auto rfl ?_
        refine z_ald (k := 3) rfl rfl (by decide) ?_
        rw [k40, h2]
        refine z_auto rfl ?_
        refine z_br rfl (fun c => ?_) (fun c => ?_)
        · exact absurd c (Int32.not_le.mpr (nI_lt (by omega) (by omega)))
        · refine z_auto rfl ?_
          refine z_ald (k := (98 + i)) rfl (nI_add 98 i) (by show 98 + i < 937; omega) ?_
          refine z_auto rfl ?_
          refine z_ald (k := (106 + i)) rfl (nI_add 106 i) (by show 106 + i < 937; omega) ?_
          rw [k40, k40, r1, r2]
          refine z_auto rfl ?_
          refine z_cl rfl (m_fa hS ((zFa.r hJ).tr (zFa.M hK)) q1 (by decide : 0 ≤ 100) ((zFM_15 hK).trans ((zFr_15 hJ).trans h15)) ((zFM_14 hK).trans ((zFr_14 hJ).trans h14)) (fun L hL _ _ _ => ?_))
          have l40 : L 40 0 (114 + i) = nI x := (hL 40 0 _ (by decide) (by decide) (Or.inl (by decide))).trans ((k40 _).trans r3)
          refine z_auto rfl ?_
          refine z_ald (k := (114 + i)) rfl (nI_add 114 i) (by show 114 + i < 937; omega) ?_
          rw [l40]
          have h5 := ih (i + 1) (by omega) L (hK.tr hL)
          rw [nI_succ] at h5
          refine z_auto rfl ?_
          refine z_br rfl (fun c2 => ?_) (fun c2 => ?_)
          · refine z_auto rfl ?_
            refine z_jp rfl ?_
            exact h5
          · exact absurd heq c2
    refine z_auto rfl ?_
    refine z_jp rfl ?_
    exact loop e 0 (Nat.zero_add _) J zFM.rf
  have loop : ∀ q i, i + q = e → ∀ J, zFr I J → ∀ rl rs, zW (d + 12) kX9_looked (zblk kX9_looked 1) [some (zr 9 0), some (zr 7 1), some (zi (nI i))] [] J (zRR rl rs) (fun v1 I1 G1 => ∃ rl1 rs1, G1 = zRR rl1 rs1 ∧ zWm (d + 12) 160 [zr 10 0] I1 G1 (fun v2 I2 G2 => v1 = v2 ∧ zRel I2 ∧ ∃ rl2 rs2, G2 = zRR rl2 rs2)) := by
    intro q
    induction q with
    | zero =>
      intro i hi J hJ rl rs
      have : i = e := by omega
      subst this
      have j7 : J 7 1 3 = nI m := (hJ 7 1 3 (by decide) (by decide) (Or.inl (by decide))).trans h1
      refine z_auto rfl ?_
      rw [j7]
      refine z_auto rfl ?_
      refine z_br rfl (fun c => ?_) (fun c => ?_)
      · have : i = m := by
          apply Classical.byContradiction
          intro q
          exact absurd c (Int32.not_le.mpr (nI_lt (a := i) (b := m) (by omega) (by omega)))
        refine z_auto rfl ?_
        exact z_rt rfl (zPr_i (mrun J hJ _ (by rw [if_pos this])))
      · have him : i < m := by
          apply Classical.byContradiction
          intro q
          have : i = m := by omega
          subst this
          exact c (Int32.le_refl _)
        obtain ⟨f, sd, x, ⟨q1, q2, q3⟩, ⟨p0, p1, p2⟩, r1, r2, r3⟩ := h4 i him
        have hne : ¬ fFo I C n t (nI f) (nI sd) 0 0 = nI x := by
          rcases hb with q | q
          · omega
          · rw [p0, p1, p2] at q
            exact q
        have j26 : J 26 1 i = nI f := (hJ 26 1 i (by decide) (by decide) (Or.inl (by decide))).trans p0
        have j27 : J 27 1 i = nI sd := (hJ 27 1 i (by decide) (by decide) (Or.inl (by decide))).trans p1
        refine z_auto rfl ?_
        refine z_br rfl (fun c1 => ?_) (fun c1 => ?_)
        · exact absurd c1 (Int32.not_le.mpr (nI_lt (a := i) (b := 8) (by omega) (by decide)))
        · refine z_auto rfl ?_
          refine z_ald (k := i) rfl rfl (by show i < 8; omega) ?_
          refine z_auto rfl ?_
          refine z_ald (k := i) rfl rfl (by show i < 8; omega) ?_
          rw [j26, j27]
          refine z_auto rfl ?_
          refine z_cl rfl (s_forceOf (zCu_fr hJ hS.2.1) (fun K hK => ?_))
          have k28 : K 28 1 i = nI x := (hK.1 28 1 i (by decide) (by decide) (Or.inl (by decide))).trans ((hJ 28 1 i (by decide) (by decide) (Or.inl (by decide))).trans p2)
          refine z_auto rfl ?_
          refine z_ald (k := i) rfl rfl (by show i < 8; omega) ?_
          rw [k28, fFo_fr hJ]
          refine z_auto rfl ?_
          refine z_br rfl (fun c2 => ?_) (fun c2 => ?_)
          · exact absurd c2 hne
          · refine z_auto rfl ?_
            exact z_rt rfl (zPr_i (mrun K (hJ.tr hK.1) _ (by rw [if_neg (by omega)])))
    | succ q ih =>
      intro i hi J hJ rl rs
      have j7 : J 7 1 3 = nI m := (hJ 7 1 3 (by decide) (by decide) (Or.inl (by decide))).trans h1
      obtain ⟨f, sd, x, ⟨q1, q2, q3⟩, ⟨p0, p1, p2⟩, r1, r2, r3⟩ := h4 i (by omega)
      have heq := hl i (by omega)
      rw [p0, p1, p2] at heq
      have j26 : J 26 1 i = nI f := (hJ 26 1 i (by decide) (by decide) (Or.inl (by decide))).trans p0
      have j27 : J 27 1 i = nI sd := (hJ 27 1 i (by decide) (by decide) (Or.inl (by decide))).trans p1
      refine z_auto rfl ?_
      rw [j7]
      refine z_auto rfl ?_
      refine z_br rfl (fun c => ?_) (fun c => ?_)
      · exact absurd c (Int32.not_le.mpr (nI_lt (by omega) (by omega)))
      · refine z_auto rfl ?_
        refine z_br rfl (fun c1 => ?_) (fun c1 => ?_)
        · exact absurd c1 (Int32.not_le.mpr (nI_lt (a := i) (b := 8) (by omega) (by decide)))
        · refine z_auto rfl ?_
          refine z_ald (k := i) rfl rfl (by show i < 8; omega) ?_
          refine z_auto rfl ?_
          refine z_ald (k := i) rfl rfl (by show i < 8; omega) ?_
          rw [j26, j27]
          refine z_auto rfl ?_
          refine z_cl rfl (s_forceOf (zCu_fr hJ hS.2.1) (fun K hK => ?_))
          have k28 : K 28 1 i = nI x := (hK.1 28 1 i (by decide) (by decide) (Or.inl (by decide))).trans ((hJ 28 1 i (by decide) (by decide) (Or.inl (by decide))).trans p2)
          refine z_auto rfl ?_
          refine z_ald (k := i) rfl rfl (by show i < 8; omega) ?_
          rw [k28, fFo_fr hJ]
          have h5 := ih (i + 1) (by omega) K (hJ.tr hK.1) (some (4, 0)) rs
          rw [nI_succ] at h5
          refine z_auto rfl ?_
          refine z_br rfl (fun c2 => ?_) (fun c2 => ?_)
          · refine z_auto rfl ?_
            refine z_jp rfl ?_
            exact h5
          · exact absurd heq c2
  refine z_auto rfl ?_
  refine z_jp rfl ?_
  exact loop e 0 (Nat.zero_add _) I zFr.rf rl rs
end
