/-! writing egg, try, broken: zRel anew -/
theorem zRel_D {I J : zMI} (hR : zRel I) (h : ∀ c i k, ¬ (c = 2 ∧ i = 0) → ¬ (c = 1 ∧ i = 0 ∧ k = 6) → ¬ (c = 4 ∧ i = 0 ∧ k = 6) → ¬ (c = 40 ∧ 6 ≤ k ∧ k ≤ 9) → J c i k = I c i k)
    (hE : ∀ t, zbE (I 1 0) (I 2 0) (I 40 0) t → ∃ t', zbE (J 1 0) (J 2 0) (J 40 0) t')
    (hB : ∀ n, I 40 0 0 = nI n → n ≤ 8 → I 4 0 6 = I 40 0 9 → (∀ i, n ≤ i → bt (I 40 0 9) i = false) → J 4 0 6 = J 40 0 9 ∧ ∀ i, n ≤ i → bt (J 40 0 9) i = false) : zRel J := by
  obtain ⟨n, k, t, ⟨b1, b2, b3, b4, b5, b6⟩, h2, h3, h4, h5, h6⟩ := hR
  obtain ⟨t', b6'⟩ := hE t b6
  have e : ∀ c i, ¬ ((c = 1 ∨ c = 2 ∨ c = 4) ∧ i = 0) → c ≠ 40 → J c i = I c i := fun c i h1 h2 => funext (fun k => h c i k (by omega) (by omega) (by omega) (by omega))
  have es : ∀ k, ¬ (6 ≤ k ∧ k ≤ 9) → J 40 0 k = I 40 0 k := fun k hk => h 40 0 k (by omega) (by omega) (by omega) (fun q => hk q.2)
  refine ⟨n, k, t', ⟨?_, ?_, ?_, ?_, ?_, b6'⟩, ?_, ?_, ?_, ?_, ?_⟩
  · obtain ⟨g1, g2, g3, g4, g5, g6, g7, g8⟩ := b1
    obtain ⟨g7', g8'⟩ := hB n g2 g3 g7 g8
    rw [e 20 0 (by omega) (by omega), e 21 0 (by omega) (by omega), e 22 0 (by omega) (by omega), e 23 0 (by omega) (by omega), e 24 0 (by omega) (by omega), e 25 0 (by omega) (by omega)]
    refine ⟨(h 4 0 7 (by omega) (by omega) (by omega) (by omega)).trans g1, (es 0 (by omega)).trans g2, g3, fun i hi => ?_, fun i x hi hx => ?_, g6, g7', g8'⟩
    · rw [es _ (by omega), es _ (by omega), es _ (by omega), es _ (by omega), es _ (by omega)]
      exact g4 i hi
    · rw [es _ (by omega)]
      exact g5 i x hi hx
  · exact zbS_of (h 1 0 5 (by omega) (by omega) (by omega) (by omega)) (fun c j k hc => h c j k (by omega) (by omega) (by omega) (by omega)) (es 1 (by omega)) (es 5 (by omega)) (fun k hk => es k (by omega)) b2
  · rw [e 7 _ (by omega) (by omega), e 26 _ (by omega) (by omega), e 27 _ (by omega) (by omega), e 28 _ (by omega) (by omega)]
    obtain ⟨m, hm⟩ := b3
    exact ⟨m, zbH_of (es 2 (by omega)) (fun k _ _ => es k (by omega)) hm⟩
  · rw [e 7 _ (by omega) (by omega), e 26 _ (by omega) (by omega), e 27 _ (by omega) (by omega), e 28 _ (by omega) (by omega)]
    obtain ⟨m, hm⟩ := b4
    exact ⟨m, zbH_of (es 3 (by omega)) (fun k _ _ => es k (by omega)) hm⟩
  · rw [e 8 _ (by omega) (by omega), e 29 _ (by omega) (by omega)]
    obtain ⟨m, hm⟩ := b5
    exact ⟨m, zbT_of (es 4 (by omega)) (fun k _ _ => es k (by omega)) hm⟩
  · exact zES_fr (fun c k hc => h c _ k (by omega) (by omega) (by omega) (by omega)) h2
  · rw [e 9 0 (by omega) (by omega), e 10 0 (by omega) (by omega), e 41 0 (by omega) (by omega)]
    rcases h3 with q | ⟨q1, q2, n', k', t', ⟨d1, d2, d3, d4, d5, d6⟩, q4⟩
    · exact Or.inl q
    · refine Or.inr ⟨q1, q2, n', k', t', ⟨?_, zbS_of (h 1 1 5 (by omega) (by omega) (by omega) (by omega)) (fun c j k hc => h c j k (by omega) (by omega) (by omega) (by omega)) rfl rfl (fun _ _ => rfl) d2, ?_, ?_, ?_, ?_⟩, q4⟩
      · rw [e 4 1 (by omega) (by omega), e 20 1 (by omega) (by omega), e 21 1 (by omega) (by omega), e 22 1 (by omega) (by omega), e 23 1 (by omega) (by omega), e 24 1 (by omega) (by omega), e 25 1 (by omega) (by omega)]
        exact d1
      · rw [e 7 _ (by omega) (by omega), e 26 _ (by omega) (by omega), e 27 _ (by omega) (by omega), e 28 _ (by omega) (by omega)]
        exact d3
      · rw [e 7 _ (by omega) (by omega), e 26 _ (by omega) (by omega), e 27 _ (by omega) (by omega), e 28 _ (by omega) (by omega)]
        exact d4
      · rw [e 8 _ (by omega) (by omega), e 29 _ (by omega) (by omega)]
        exact d5
      · rw [e 1 _ (by omega) (by omega), e 2 _ (by omega) (by omega)]
        exact d6
  · rw [e 0 0 (by omega) (by omega), e 10 0 (by omega) (by omega), e 35 0 (by omega) (by omega), e 45 0 (by omega) (by omega)]
    exact h4
  · rw [e 10 0 (by omega) (by omega)]; exact h5
  · rw [e 10 0 (by omega) (by omega)]; exact h6
set_option maxHeartbeats 4000000 in
set_option maxRecDepth 100000 in
theorem p_egg : zPr 71 135 [] := by
  intro d I rl rs hR
  have hR0 := hR
  obtain ⟨n, k, t, ⟨-, -, -, -, -, ⟨e1, e2, e3, e4, e5⟩⟩, -, -, -, -, -⟩ := hR0
  have fin : zRel (zup (zup (zup (zup I 2 0 0 0) 2 0 1 1) 40 0 8 0) 40 0 7 0) := by
    refine zRel_D hR (fun c i k h1 h2 h3 h4 => ?_) (fun t hE => ?_) (fun n g1 g2 g3 g4 => ?_)
    · unfold zup
      rw [if_neg (by omega), if_neg (by omega), if_neg (by omega), if_neg (by omega)]
    · obtain ⟨e1, e2, e3, e4, e5⟩ := hE
      refine ⟨t, ?_, ?_, e3, ?_, Or.inl ⟨?_, ?_⟩⟩
      · rw [zup_c (by decide), zup_c (by decide), zup_c (by decide), zup_c (by decide)]; exact e1
      · rw [zup_k (by decide), zup_k (by decide), zup_c (by decide), zup_c (by decide)]; exact e2
      · rw [zup_c (by decide), zup_c (by decide), zup_k (by decide), zup_eq, zup_eq]
      · rw [zup_c (by decide), zup_c (by decide), zup_eq]
      · rw [zup_k (by decide), zup_eq]
    · rw [zup_c (by decide), zup_c (by decide), zup_c (by decide), zup_c (by decide), zup_k (by decide), zup_k (by decide), zup_c (by decide), zup_c (by decide)]
      exact ⟨g3, g4⟩
  have mrun : ∀ v : Int32, (v = if I 40 0 8 = 1 then -5 else I 40 0 7) → ∀ rl' rs', zWm (d + 12) 135 [zr 10 0] (zup (zup I 2 0 0 0) 2 0 1 1) (zRR rl' rs') (fun v2 I2 G2 => some (zi v) = v2 ∧ zRel I2 ∧ ∃ rl2 rs2, G2 = zRR rl2 rs2) := by
    intro v hv rl' rs'
    refine z_auto rfl ?_
    refine z_ald (k := 8) rfl rfl (by decide) ?_
    rw [zup_c (by decide), zup_c (by decide)]
    refine z_auto rfl ?_
    refine z_br rfl (fun c => ?_) (fun c => ?_)
    · refine z_auto rfl ?_
      refine z_ald (k := 7) rfl rfl (by decide) ?_
      rw [zup_c (by decide), zup_c (by decide)]
      refine z_auto rfl ?_
      refine z_jp rfl ?_
      refine z_auto rfl ?_
      refine z_ast (k := 8) rfl rfl (by decide) ?_
      refine z_auto rfl ?_
      refine z_ast (k := 7) rfl rfl (by decide) ?_
      refine z_auto rfl ?_
      exact z_rt rfl (zPr_o2 (by rw [hv, if_neg c]) fin)
    · refine z_auto rfl ?_
      refine z_jp rfl ?_
      refine z_auto rfl ?_
      refine z_ast (k := 8) rfl rfl (by decide) ?_
      refine z_auto rfl ?_
      refine z_ast (k := 7) rfl rfl (by decide) ?_
      refine z_auto rfl ?_
      exact z_rt rfl (zPr_o2 (by rw [hv, if_pos (Classical.not_not.mp c)]) fin)
  refine z_auto rfl ?_
  refine z_br rfl (fun c => ?_) (fun c => ?_)
  · refine z_auto rfl ?_
    refine z_jp rfl ?_
    refine z_auto rfl ?_
    refine z_cl rfl (s_renew ?_)
    refine z_auto rfl ?_
    exact z_rt rfl (zPr_i (mrun _ (by
      rcases e5 with q | q
      · rw [q.1] at c; exact absurd c (by decide)
      · rw [if_pos q.2])))
  · refine z_auto rfl ?_
    refine z_jp rfl ?_
    refine z_auto rfl ?_
    refine z_cl rfl (s_renew ?_)
    refine z_auto rfl ?_
    exact z_rt rfl (zPr_i (mrun _ (by
      rcases e5 with q | q
      · rw [q.2, if_neg (by decide), e4]
      · exact absurd q.1 c)))
