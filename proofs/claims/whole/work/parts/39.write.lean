/-! writing the layers: zRel anew -/
theorem zMS_of {s s' : Nat → Int32} {a : Nat} {C : List zCl} (h : ∀ k, 222 ≤ k → s' k = s k) (hM : zMS s a C) : zMS s' a C := by
  obtain ⟨q1, q2, q3, q4, q5, q6⟩ := hM
  refine ⟨?_, q2, fun k x hk => ?_, ?_, ?_, q6⟩
  · rw [h _ (by omega)]; exact q1
  · rw [h _ (by omega)]; exact q3 k x hk
  · rw [h _ (by omega)]; exact q4
  · rw [h _ (by omega)]; exact q5
theorem zbH_of {a7 a26 a27 a28 s s' : Nat → Int32} {q o X n : Nat} (h0 : s' q = s q) (h : ∀ k, o ≤ k → k < o + 24 → s' k = s k) (hH : zbH a7 a26 a27 a28 s q o X n) : zbH a7 a26 a27 a28 s' q o X n := by
  obtain ⟨h1, h2, h3, h4⟩ := hH
  refine ⟨h1, h0.trans h2, h3, fun i hi => ?_⟩
  obtain ⟨f, sd, x, r1, r2, r3, r4, r5⟩ := h4 i hi
  exact ⟨f, sd, x, r1, r2, by rw [h _ (by omega) (by omega)]; exact r3, by rw [h _ (by omega) (by omega)]; exact r4, by rw [h _ (by omega) (by omega)]; exact r5⟩
theorem zbT_of {a8 a29 s s' : Nat → Int32} {n : Nat} (h0 : s' 4 = s 4) (h : ∀ k, 122 ≤ k → k < 222 → s' k = s k) (hT : zbT a8 a29 s n) : zbT a8 a29 s' n := by
  obtain ⟨h1, h2, h3, h4⟩ := hT
  refine ⟨h1, h0.trans h2, h3, fun i hi => ?_⟩
  obtain ⟨x, r1, r2, r3⟩ := h4 i hi
  exact ⟨x, r1, r2, by rw [h _ (by omega) (by omega)]; exact r3⟩
theorem zbS_of {I J : zMI} {b : Nat} {s s' : Nat → Int32} {k : Nat} (h15 : J 1 b 5 = I 1 b 5) (hE : ∀ c j k, (c = 6 ∨ c = 30 ∨ c = 31 ∨ c = 32 ∨ c = 33) → J c j k = I c j k) (h1 : s' 1 = s 1) (h5 : s' 5 = s 5) (h : ∀ k, 222 ≤ k → s' k = s k) (hS : zbS I b s k) : zbS J b s' k := by
  obtain ⟨g1, g2, g3, g4, g5⟩ := hS
  refine ⟨h15.trans g1, h1.trans g2, g3, h5.trans g4, fun j hj => ?_⟩
  obtain ⟨C, c1, c2⟩ := g5 j hj
  exact ⟨C, zES_fr (fun c k hc => hE c _ k hc) c1, zMS_of h c2⟩
/-- only layers, the class's and the model's, are written -/
theorem zRel_L {I J : zMI} (hR : zRel I) (h : ∀ c i k, ¬ ((c = 4 ∨ (20 ≤ c ∧ c ≤ 25)) ∧ i = 0) → ¬ (c = 40 ∧ (k = 0 ∨ (9 ≤ k ∧ k < 74))) → J c i k = I c i k)
    (hL : ∀ n, zbL (I 4 0) (I 20 0) (I 21 0) (I 22 0) (I 23 0) (I 24 0) (I 25 0) (I 40 0) n → ∃ n', zbL (J 4 0) (J 20 0) (J 21 0) (J 22 0) (J 23 0) (J 24 0) (J 25 0) (J 40 0) n') : zRel J := by
  obtain ⟨n, k, t, ⟨b1, b2, b3, b4, b5, b6⟩, h2, h3, h4, h5, h6⟩ := hR
  obtain ⟨n', b1'⟩ := hL n b1
  have e : ∀ c i, ¬ ((c = 4 ∨ (20 ≤ c ∧ c ≤ 25)) ∧ i = 0) → c ≠ 40 → J c i = I c i := fun c i h1 h2 => funext (fun k => h c i k h1 (fun q => h2 q.1))
  have es : ∀ k, ¬ (k = 0 ∨ (9 ≤ k ∧ k < 74)) → J 40 0 k = I 40 0 k := fun k hk => h 40 0 k (by omega) (fun q => hk q.2)
  refine ⟨n', k, t, ⟨b1', ?_, ?_, ?_, ?_, ?_⟩, ?_, ?_, ?_, ?_, ?_⟩
  · exact zbS_of (h 1 0 5 (by omega) (by omega)) (fun c j k hc => h c j k (by omega) (by omega)) (es 1 (by omega)) (es 5 (by omega)) (fun k hk => es k (by omega)) b2
  · rw [e 7 _ (by omega) (by omega), e 26 _ (by omega) (by omega), e 27 _ (by omega) (by omega), e 28 _ (by omega) (by omega)]
    obtain ⟨m, hm⟩ := b3
    exact ⟨m, zbH_of (es 2 (by omega)) (fun k _ _ => es k (by omega)) hm⟩
  · rw [e 7 _ (by omega) (by omega), e 26 _ (by omega) (by omega), e 27 _ (by omega) (by omega), e 28 _ (by omega) (by omega)]
    obtain ⟨m, hm⟩ := b4
    exact ⟨m, zbH_of (es 3 (by omega)) (fun k _ _ => es k (by omega)) hm⟩
  · rw [e 8 _ (by omega) (by omega), e 29 _ (by omega) (by omega)]
    obtain ⟨m, hm⟩ := b5
    exact ⟨m, zbT_of (es 4 (by omega)) (fun k _ _ => es k (by omega)) hm⟩
  · rw [e 1 _ (by omega) (by omega), e 2 _ (by omega) (by omega)]
    obtain ⟨q1, q2, q3, q4, q5⟩ := b6
    exact ⟨q1, (es 6 (by omega)).trans q2, q3, q4.trans (es 7 (by omega)).symm, by rw [es 8 (by omega)]; exact q5⟩
  · exact zES_fr (fun c k hc => h c _ k (by omega) (by omega)) h2
  · rw [e 9 0 (by omega) (by omega), e 10 0 (by omega) (by omega), e 41 0 (by omega) (by omega)]
    rcases h3 with q | ⟨q1, q2, n', k', t', ⟨d1, d2, d3, d4, d5, d6⟩, q4⟩
    · exact Or.inl q
    · refine Or.inr ⟨q1, q2, n', k', t', ⟨?_, zbS_of (h 1 1 5 (by omega) (by omega)) (fun c j k hc => h c j k (by omega) (by omega)) rfl rfl (fun _ _ => rfl) d2, ?_, ?_, ?_, ?_⟩, q4⟩
      · rw [e 4 1 (by omega) (by omega), e 20 1 (by omega) (by omega), e 21 1 (by omega) (by omega), e 22 1 (by omega) (by omega), e 23 1 (by omega) (by omega), e 24 1 (by omega) (by omega), e 25 1 (by omega) (by omega)]
        exact d1
      · rw [e 7 _ (by omega) (by omega), e 26 _ (by omega) (by omega), e 27 _ (by omega) (by omega), e 28 _ (by omega) (by omega)]
        exact d3
      · rw [e 7 _ (by omega) (by omega), e 26 _ (by omega) (by omega), e 27 _ (by omega) (by omega), e 28 _ (by omega) (by omega)]
        exact d4
      · rw [e 8 _ (by omega) (by omega), e 29 _ (by omega) (by omega)]
        exact d5
      · rw [e 1 _ (by omega) (by omega), e 2 _ (by omega) (by omega)]
        exact d6
  · rw [e 0 0 (by omega) (by omega), e 10 0 (by omega) (by omega), e 35 0 (by omega) (by omega), e 45 0 (by omega) (by omega)]
    exact h4
  · rw [e 10 0 (by omega) (by omega)]; exact h5
  · rw [e 10 0 (by omega) (by omega)]; exact h6
set_option maxHeartbeats 4000000 in
set_option maxRecDepth 100000 in
theorem p_side (x1 x2 : Int32) : zPr 68 132 [zi x1, zi x2] := by
  intro d I rl rs hR
  have hR0 := hR
  obtain ⟨n, k, t, ⟨b1, b2, b3, b4, b5, b6⟩, -, -, -, -, -⟩ := hR0
  have hn := b1.1
  have hm := b1.2.1
  have h8 := b1.2.2.1
  rcases n_lay x1 n h8 with ⟨l, hl, rfl⟩ | hx1
  · rcases n_cases x2 3 (by decide) with ⟨a, ha, rfl⟩ | hx2
    · obtain ⟨kd, v, th, w, sd, -, ⟨-, -, -, -, p4⟩, -, -, -, -, r5⟩ := b1.2.2.2.1 l hl
      refine z_auto rfl ?_
      refine z_cl rfl (c_has_y hn h8 hl ?_)
      refine z_auto rfl ?_
      refine z_st rfl ?_
      refine z_auto rfl ?_
      refine z_cl rfl (c_isSide_y ha ?_)
      refine z_auto rfl ?_
      refine z_jp rfl ?_
      refine z_auto rfl ?_
      refine z_ald (k := l) rfl rfl (by show l < 8; omega) ?_
      refine z_auto rfl ?_
      refine z_ast (k := l) rfl rfl (by show l < 8; omega) ?_
      refine z_auto rfl ?_
      refine z_rt rfl (zPr_i (fun rl' rs' => ?_))
      refine z_auto rfl ?_
      refine z_cl rfl (m_isLayer_y (by rw [zup_c (by decide)]; exact hm) h8 hl ?_)
      refine z_auto rfl ?_
      refine z_st rfl ?_
      refine z_auto rfl ?_
      refine z_cl rfl (m_isSide_y ha ?_)
      refine z_auto rfl ?_
      refine z_jp rfl ?_
      refine z_auto rfl ?_
      refine z_ald (k := (42 + l)) rfl (nI_add 42 l) (by show 42 + l < 937; omega) ?_
      refine z_auto rfl ?_
      refine z_ast (k := (42 + l)) rfl (nI_add 42 l) (by show 42 + l < 937; omega) ?_
      refine z_auto rfl ?_
      refine z_rt rfl (zPr_o2 (by rw [zup_c (by decide), p4, r5]) (zRel_L hR ?_ ?_))
      · intro c i k h1 h2
        unfold zup
        rw [if_neg (by omega), if_neg (by omega)]
      · intro n' hL
        obtain ⟨g1, g2, g3, g4, g5, g6, g7, g8⟩ := hL
        have hln : l < n' := by
          have := g1.symm.trans hn
          rw [(nI_eq (a := n') (b := n) (by omega) (by omega)).mp this]
          exact hl
        obtain ⟨J, hJ⟩ : ∃ J, J = zup (zup I 24 0 l (nI a)) 40 0 (42 + l) (nI a) := ⟨_, rfl⟩
        rw [← hJ]
        have A : ∀ c i k, c ≠ 24 → c ≠ 40 → J c i k = I c i k := fun c i k h1 h2 => by rw [hJ, zup_c h2, zup_c h1]
        have B : ∀ k, k ≠ 42 + l → J 40 0 k = I 40 0 k := fun k h1 => by rw [hJ, zup_k h1, zup_c (by decide)]
        have B1 : J 40 0 (42 + l) = nI a := by rw [hJ, zup_eq]
        have D : ∀ i, i ≠ l → J 24 0 i = I 24 0 i := fun i h1 => by rw [hJ, zup_c (by decide), zup_k h1]
        have D1 : J 24 0 l = nI a := by rw [hJ, zup_c (by decide), zup_eq]
        clear hJ
        refine ⟨n', (A 4 0 7 (by decide) (by decide)).trans g1, (B 0 (by omega)).trans g2, g3, fun i hi => ?_, fun i x hi hx => ?_, fun x h1 h2 => (A 25 0 x (by decide) (by decide)).trans (g6 x h1 h2), ?_, fun i hi => ?_⟩
        · obtain ⟨kd, v, th, w, sd, q, ⟨p0, p1, p2, p3, p4⟩, r1, r2, r3, r4, r5⟩ := g4 i hi
          rw [A 20 0 i (by decide) (by decide), A 21 0 i (by decide) (by decide), A 22 0 i (by decide) (by decide), A 23 0 i (by decide) (by decide), B (10 + i) (by omega), B (18 + i) (by omega), B (26 + i) (by omega), B (34 + i) (by omega)]
          by_cases e : i = l
          · subst e
            exact ⟨kd, v, th, w, a, by omega, ⟨p0, p1, p2, p3, D1⟩, r1, r2, r3, r4, B1⟩
          · rw [D i e, B (42 + i) (by omega)]
            exact ⟨kd, v, th, w, sd, q, ⟨p0, p1, p2, p3, p4⟩, r1, r2, r3, r4, r5⟩
        · rw [A 25 0 _ (by decide) (by decide), B _ (by omega)]
          exact g5 i x hi hx
        · rw [A 4 0 6 (by decide) (by decide), B 9 (by omega)]
          exact g7
        · rw [B 9 (by omega)]
          exact g8 i hi
    · refine z_auto rfl ?_
      refine z_cl rfl (c_has_y hn h8 hl ?_)
      refine z_auto rfl ?_
      refine z_st rfl ?_
      refine z_auto rfl ?_
      refine z_cl rfl (c_isSide_n hx2 ?_)
      refine z_auto rfl ?_
      refine z_st rfl ?_
      refine z_auto rfl ?_
      refine z_jp rfl ?_
      refine z_auto rfl ?_
      refine z_rt rfl (zPr_i (fun rl' rs' => ?_))
      refine z_auto rfl ?_
      refine z_cl rfl (m_isLayer_y hm h8 hl ?_)
      refine z_auto rfl ?_
      refine z_st rfl ?_
      refine z_auto rfl ?_
      refine z_cl rfl (m_isSide_n hx2 ?_)
      refine z_auto rfl ?_
      refine z_st rfl ?_
      refine z_auto rfl ?_
      refine z_jp rfl ?_
      refine z_auto rfl ?_
      exact z_rt rfl (zPr_o hR)
  · refine z_auto rfl ?_
    refine z_cl rfl (c_has_n hn h8 hx1 ?_)
    refine z_auto rfl ?_
    refine z_jp rfl ?_
    refine z_auto rfl ?_
    refine z_rt rfl (zPr_i (fun rl' rs' => ?_))
    refine z_auto rfl ?_
    refine z_cl rfl (m_isLayer_n hm h8 hx1 ?_)
    refine z_auto rfl ?_
    refine z_jp rfl ?_
    refine z_auto rfl ?_
    exact z_rt rfl (zPr_o hR)
