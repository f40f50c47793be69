/-! image, undo: the pairs -/
/-- the model's row cd is now the row cs -/
def zPm (I J : zMI) (cs cd m : Nat) : Prop := (∀ c i k, ¬ (c = cd ∧ i = 0) → J c i k = I c i k) ∧ ∀ k, k < m → J cd 0 k = I cs 0 k
theorem zPm_0 {I : zMI} {cs cd : Nat} : zPm I I cs cd 0 := ⟨fun _ _ _ _ => rfl, fun k hk => absurd hk (Nat.not_lt_zero k)⟩
theorem zPm_s {I J : zMI} {cs cd m : Nat} (hne : cs ≠ cd) (h : zPm I J cs cd m) : zPm I (zup J cd 0 m (J cs 0 m)) cs cd (m + 1) := by
  obtain ⟨h1, h2⟩ := h
  refine ⟨fun c i k q => ?_, fun k hk => ?_⟩
  · rw [zup_ne (by omega)]
    exact h1 c i k q
  · by_cases e : k = m
    · subst e
      rw [zup_eq]
      exact h1 cs 0 k (by omega)
    · rw [zup_k e]
      exact h2 k (by omega)
set_option maxHeartbeats 4000000 in
set_option maxRecDepth 100000 in
theorem p_image : zPr 90 172 [] := by
  intro d I rl rs hR
  have hR0 := hR
  obtain ⟨n, k, t, hb, hE, h3, h4, h5, h6⟩ := hR0
  have hw : I 2 0 1 = 0 ∨ I 2 0 1 = 1 := by
    rcases hb.2.2.2.2.2.2.2.2.2 with q | q
    · exact Or.inr q.1
    · exact Or.inl q.1
  refine z_auto rfl ?_
  refine z_cl rfl (s_cp1 (b := 1) (b' := 0) (by decide) hw (fun J hJ => ?_))
  refine z_auto rfl ?_
  refine z_ck rfl (show (1 : Int32) = 0 ∨ (1 : Int32) = 1 from Or.inr rfl) ?_
  have j4 : J 4 0 7 = nI n := (hJ.2.2 4 0 7 (by decide) (by decide)).trans hb.1.1
  refine z_auto rfl ?_
  rw [zup_c (by decide), j4]
  refine z_auto rfl ?_
  refine z_rt rfl (zPr_i (fun rl' rs' => ?_))
  obtain ⟨M, hM⟩ : ∃ M, M = zup J 9 0 2 1 := ⟨_, rfl⟩
  rw [← hM]
  have fM : ∀ c i k, ¬ (c = 9 ∧ i = 0 ∧ k = 2) → M c i k = J c i k := fun c i k h1 => by rw [hM, zup_ne h1]
  have m9 : M 9 0 2 = 1 := by rw [hM, zup_eq]
  clear hM
  have loop : ∀ q i, i + q = 937 → ∀ K, zPm M K 40 41 i → zW (d + 12) kX10_image (zblk kX10_image 1) [some (zr 10 0), some (zi (nI i))] [] K (zRR rl' rs') (fun v2 I2 G2 => some (zi (nI n)) = v2 ∧ zRel I2 ∧ ∃ rl2 rs2, G2 = zRR rl2 rs2) := by
    intro q
    induction q with
    | zero =>
      intro i hi K hK
      have : i = 937 := by omega
      subst this
      refine z_auto rfl ?_
      refine z_jp rfl ?_
      refine z_auto rfl ?_
      refine z_ck rfl (show (1 : Int32) = 0 ∨ (1 : Int32) = 1 from Or.inr rfl) ?_
      have f0 : ∀ c i k, ¬ (c = 41 ∧ i = 0) → ¬ (c = 10 ∧ i = 0 ∧ k = 3) → ¬ (c = 9 ∧ i = 0 ∧ k = 2) → zup K 10 0 3 1 c i k = J c i k := fun c i k h1 h2 h3 => by
        rw [zup_ne h2, hK.1 c i k h1, fM c i k h3]
      have hs0 : ∀ k, zup K 10 0 3 1 40 0 k = I 40 0 k := fun k => (f0 40 0 k (by omega) (by omega) (by omega)).trans (hJ.2.2 40 0 k (by omega) (by omega))
      have hs1 : ∀ k, k < 937 → zup K 10 0 3 1 41 0 k = I 40 0 k := fun k hk => by
        rw [zup_ne (by omega), hK.2 k hk, fM _ _ _ (by omega)]
        exact hJ.2.2 40 0 k (by omega) (by omega)
      have q9 : zup K 10 0 3 1 9 0 2 = 1 := by rw [zup_ne (by omega), hK.1 _ _ _ (by omega), m9]
      have q3 : zup K 10 0 3 1 10 0 3 = 1 := zup_eq
      obtain ⟨F, hF⟩ : ∃ F, F = zup K 10 0 3 1 := ⟨_, rfl⟩
      rw [← hF] at f0 hs0 hs1 q9 q3
      rw [← hF]
      clear hF
      have fI : ∀ c i k, c ≠ 41 → ¬ (c = 10 ∧ i = 0 ∧ k = 3) → ¬ (c = 9 ∧ i = 0 ∧ k = 2) → ¬ ((c = 1 ∨ c = 2 ∨ c = 4 ∨ c = 8 ∨ (20 ≤ c ∧ c ≤ 25) ∨ c = 29) ∧ i = 1) → ¬ ((c = 7 ∨ (26 ≤ c ∧ c ≤ 28)) ∧ (i = 2 ∨ i = 3)) → F c i k = I c i k := fun c i k h1 h2 h3 h4 h5 => (f0 c i k (by omega) h2 h3).trans (hJ.2.2 c i k (by omega) (by omega))
      refine z_auto rfl ?_
      refine z_ald (k := 0) rfl rfl (by decide) ?_
      rw [hs0 0, hb.1.2.1]
      refine z_auto rfl ?_
      refine z_rt rfl (zPr_o2 rfl ⟨n, k, t, ?_, ?_, Or.inr ⟨q9, q3, n, k, t, ?_, Nat.le_refl k⟩, ?_, ?_, ?_⟩)
      · exact zbx_id (fun c i k hc => fI c i k (by omega) (by omega) (by omega) (by omega) (by omega)) (fun k _ => hs0 k) hb
      · exact zES_fr (fun c k hc => fI c _ k (by omega) (by omega) (by omega) (by omega) (by omega)) hE
      · exact zbx_id (fun c i k hc => f0 c i k (by omega) (by omega) (by omega)) (fun _ _ => rfl) (zPy_bx hJ hs1 hb)
      · obtain ⟨r, r1, r2, r3, r4⟩ := h4
        refine ⟨r, r1, (fI 0 0 1 (by omega) (by omega) (by omega) (by omega) (by omega)).trans r2, (fI 10 0 22 (by omega) (by omega) (by omega) (by omega) (by omega)).trans r3, fun i hi1 hi2 => ?_⟩
        rw [fI 35 0 i (by omega) (by omega) (by omega) (by omega) (by omega), fI 45 0 i (by omega) (by omega) (by omega) (by omega) (by omega)]
        exact r4 i hi1 hi2
      · exact (fI 10 0 14 (by omega) (by omega) (by omega) (by omega) (by omega)).trans h5
      · exact (fI 10 0 15 (by omega) (by omega) (by omega) (by omega) (by omega)).trans h6
    | succ q ih =>
      intro i hi K hK
      refine z_auto rfl ?_
      refine z_br rfl (fun c => ?_) (fun c => ?_)
      · exact absurd c (Int32.not_le.mpr (nI_lt (a := i) (b := 937) (by omega) (by decide)))
      · refine z_auto rfl ?_
        refine z_ald (k := i) rfl rfl (by show i < 937; omega) ?_
        refine z_auto rfl ?_
        refine z_ast (k := i) rfl rfl (by show i < 937; omega) ?_
        have h5 := ih (i + 1) (by omega) _ (zPm_s (by decide) hK)
        rw [nI_succ] at h5
        refine z_auto rfl ?_
        refine z_jp rfl ?_
        exact h5
  refine z_auto rfl ?_
  refine z_jp rfl ?_
  exact loop 937 0 (Nat.zero_add _) M zPm_0
set_option maxHeartbeats 4000000 in
set_option maxRecDepth 100000 in
theorem p_undo : zPr 91 173 [] := by
  intro d I rl rs hR
  have hR0 := hR
  obtain ⟨n, k, t, hb, hE, h3, h4, h5, h6⟩ := hR0
  rcases h3 with ⟨q1, q2⟩ | ⟨q1, q2, n', k', t', hb', hk⟩
  · refine z_auto rfl ?_
    rw [q1]
    refine z_auto rfl ?_
    refine z_st rfl ?_
    refine z_auto rfl ?_
    refine z_rt rfl (zPr_i (fun rl' rs' => ?_))
    refine z_auto rfl ?_
    rw [q2]
    refine z_auto rfl ?_
    refine z_st rfl ?_
    refine z_auto rfl ?_
    exact z_rt rfl (zPr_o hR)
  · have hw : I 2 1 1 = 0 ∨ I 2 1 1 = 1 := by
      rcases hb'.2.2.2.2.2.2.2.2.2 with q | q
      · exact Or.inr q.1
      · exact Or.inl q.1
    refine z_auto rfl ?_
    rw [q1]
    refine z_auto rfl ?_
    refine z_jp rfl ?_
    refine z_auto rfl ?_
    refine z_cl rfl (s_cp1 (b := 0) (b' := 1) (by decide) hw (fun J hJ => ?_))
    have j4 : J 4 0 7 = nI n' := (hJ.1 4 7 (by omega)).trans hb'.1.1
    have j3 : J 10 0 3 = 1 := (hJ.2.2 10 0 3 (by decide) (by decide)).trans q2
    refine z_auto rfl ?_
    rw [j4]
    refine z_auto rfl ?_
    refine z_rt rfl (zPr_i (fun rl' rs' => ?_))
    refine z_auto rfl ?_
    rw [j3]
    refine z_auto rfl ?_
    refine z_jp rfl ?_
    have loop : ∀ q i, i + q = 937 → ∀ K, zPm J K 41 40 i → zW (d + 12) kX10_undo (zblk kX10_undo 2) [some (zr 10 0), some (zi (nI i))] [] K (zRR rl' rs') (fun v2 I2 G2 => some (zi (nI n')) = v2 ∧ zRel I2 ∧ ∃ rl2 rs2, G2 = zRR rl2 rs2) := by
      intro q
      induction q with
      | zero =>
        intro i hi F hF
        have : i = 937 := by omega
        subst this
        have hs0 : ∀ k, k < 937 → F 40 0 k = I 41 0 k := fun k hk => (hF.2 k hk).trans (hJ.2.2 41 0 k (by omega) (by omega))
        have hs1 : ∀ k, F 41 0 k = I 41 0 k := fun k => (hF.1 41 0 k (by omega)).trans (hJ.2.2 41 0 k (by omega) (by omega))
        have fI : ∀ c i k, c ≠ 40 → ¬ ((c = 1 ∨ c = 2 ∨ c = 4 ∨ c = 8 ∨ (20 ≤ c ∧ c ≤ 25) ∨ c = 29) ∧ i = 0) → ¬ ((c = 7 ∨ (26 ≤ c ∧ c ≤ 28)) ∧ (i = 0 ∨ i = 1)) → F c i k = I c i k := fun c i k h1 h2 h3 => (hF.1 c i k (by omega)).trans (hJ.2.2 c i k (by omega) (by omega))
        refine z_auto rfl ?_
        refine z_jp rfl ?_
        refine z_auto rfl ?_
        refine z_ald (k := 0) rfl rfl (by decide) ?_
        rw [hs0 0 (by omega), hb'.1.2.1]
        refine z_auto rfl ?_
        refine z_rt rfl (zPr_o2 rfl ⟨n', k', t', ?_, ?_, Or.inr ⟨(fI 9 0 2 (by omega) (by omega) (by omega)).trans q1, (fI 10 0 3 (by omega) (by omega) (by omega)).trans q2, n', k', t', ?_, Nat.le_refl k'⟩, ?_, ?_, ?_⟩)
        · exact zbx_id (fun c i k hc => hF.1 c i k (by omega)) (fun _ _ => rfl) (zPy_bx hJ hs0 hb')
        · exact zES_fr (fun c k hc => fI c _ k (by omega) (by omega) (by omega)) hE
        · exact zbx_id (fun c i k hc => fI c i k (by omega) (by omega) (by omega)) (fun k _ => hs1 k) hb'
        · obtain ⟨r, r1, r2, r3, r4⟩ := h4
          refine ⟨r, r1, (fI 0 0 1 (by omega) (by omega) (by omega)).trans r2, (fI 10 0 22 (by omega) (by omega) (by omega)).trans r3, fun i hi1 hi2 => ?_⟩
          rw [fI 35 0 i (by omega) (by omega) (by omega), fI 45 0 i (by omega) (by omega) (by omega)]
          exact r4 i hi1 hi2
        · exact (fI 10 0 14 (by omega) (by omega) (by omega)).trans h5
        · exact (fI 10 0 15 (by omega) (by omega) (by omega)).trans h6
      | succ q ih =>
        intro i hi K hK
        refine z_auto rfl ?_
        refine z_br rfl (fun c => ?_) (fun c => ?_)
        · exact absurd c (Int32.not_le.mpr (nI_lt (a := i) (b := 937) (by omega) (by decide)))
        · refine z_auto rfl ?_
          refine z_ald (k := i) rfl rfl (by show i < 937; omega) ?_
          refine z_auto rfl ?_
          refine z_ast (k := i) rfl rfl (by show i < 937; omega) ?_
          have h5 := ih (i + 1) (by omega) _ (zPm_s (by decide) hK)
          rw [nI_succ] at h5
          refine z_auto rfl ?_
          refine z_jp rfl ?_
          exact h5
    refine z_auto rfl ?_
    refine z_jp rfl ?_
    exact loop 937 0 (Nat.zero_add _) J zPm_0
