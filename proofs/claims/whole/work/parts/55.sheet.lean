/-! writing sheets and tape: zRel anew; feed, see, book -/
theorem zRel_S {I J : zMI} (hR : zRel I) (h : ∀ c i k, ¬ ((c = 7 ∨ c = 26 ∨ c = 27 ∨ c = 28) ∧ i ≤ 1) → ¬ ((c = 8 ∨ c = 29) ∧ i = 0) → ¬ (c = 40 ∧ ((2 ≤ k ∧ k ≤ 4) ∨ (74 ≤ k ∧ k < 222))) → J c i k = I c i k)
    (hA : (∃ m, zbH (I 7 0) (I 26 0) (I 27 0) (I 28 0) (I 40 0) 2 74 1 m) → ∃ m, zbH (J 7 0) (J 26 0) (J 27 0) (J 28 0) (J 40 0) 2 74 1 m)
    (hB : (∃ m, zbH (I 7 1) (I 26 1) (I 27 1) (I 28 1) (I 40 0) 3 98 9999 m) → ∃ m, zbH (J 7 1) (J 26 1) (J 27 1) (J 28 1) (J 40 0) 3 98 9999 m)
    (hT : (∃ m, zbT (I 8 0) (I 29 0) (I 40 0) m) → ∃ m, zbT (J 8 0) (J 29 0) (J 40 0) m) : zRel J := by
  obtain ⟨n, k, t, ⟨b1, b2, b3, b4, b5, b6⟩, h2, h3, h4, h5, h6⟩ := hR
  have e : ∀ c i, ¬ ((c = 7 ∨ c = 26 ∨ c = 27 ∨ c = 28) ∧ i ≤ 1) → ¬ ((c = 8 ∨ c = 29) ∧ i = 0) → c ≠ 40 → J c i = I c i := fun c i h1 h2 h3 => funext (fun k => h c i k h1 h2 (fun q => h3 q.1))
  have es : ∀ k, ¬ ((2 ≤ k ∧ k ≤ 4) ∨ (74 ≤ k ∧ k < 222)) → J 40 0 k = I 40 0 k := fun k hk => h 40 0 k (by omega) (by omega) (fun q => hk q.2)
  refine ⟨n, k, t, ⟨?_, ?_, hA b3, hB b4, hT b5, ?_⟩, ?_, ?_, ?_, ?_, ?_⟩
  · obtain ⟨g1, g2, g3, g4, g5, g6, g7, g8⟩ := b1
    rw [e 4 0 (by omega) (by omega) (by omega), e 20 0 (by omega) (by omega) (by omega), e 21 0 (by omega) (by omega) (by omega), e 22 0 (by omega) (by omega) (by omega), e 23 0 (by omega) (by omega) (by omega), e 24 0 (by omega) (by omega) (by omega), e 25 0 (by omega) (by omega) (by omega)]
    refine ⟨g1, (es 0 (by omega)).trans g2, g3, fun i hi => ?_, fun i x hi hx => ?_, g6, g7.trans (es 9 (by omega)).symm, fun i hi => by rw [es 9 (by omega)]; exact g8 i hi⟩
    · rw [es _ (by omega), es _ (by omega), es _ (by omega), es _ (by omega), es _ (by omega)]
      exact g4 i hi
    · rw [es _ (by omega)]
      exact g5 i x hi hx
  · exact zbS_of (h 1 0 5 (by omega) (by omega) (by omega)) (fun c j k hc => h c j k (by omega) (by omega) (by omega)) (es 1 (by omega)) (es 5 (by omega)) (fun k hk => es k (by omega)) b2
  · rw [e 1 _ (by omega) (by omega) (by omega), e 2 _ (by omega) (by omega) (by omega)]
    obtain ⟨q1, q2, q3, q4, q5⟩ := b6
    exact ⟨q1, (es 6 (by omega)).trans q2, q3, q4.trans (es 7 (by omega)).symm, by rw [es 8 (by omega)]; exact q5⟩
  · exact zES_fr (fun c k hc => h c _ k (by omega) (by omega) (by omega)) h2
  · rw [e 9 0 (by omega) (by omega) (by omega), e 10 0 (by omega) (by omega) (by omega), e 41 0 (by omega) (by omega) (by omega)]
    rcases h3 with q | ⟨q1, q2, n', k', t', ⟨d1, d2, d3, d4, d5, d6⟩, q4⟩
    · exact Or.inl q
    · refine Or.inr ⟨q1, q2, n', k', t', ⟨?_, zbS_of (h 1 1 5 (by omega) (by omega) (by omega)) (fun c j k hc => h c j k (by omega) (by omega) (by omega)) rfl rfl (fun _ _ => rfl) d2, ?_, ?_, ?_, ?_⟩, q4⟩
      · rw [e 4 1 (by omega) (by omega) (by omega), e 20 1 (by omega) (by omega) (by omega), e 21 1 (by omega) (by omega) (by omega), e 22 1 (by omega) (by omega) (by omega), e 23 1 (by omega) (by omega) (by omega), e 24 1 (by omega) (by omega) (by omega), e 25 1 (by omega) (by omega) (by omega)]
        exact d1
      · rw [e 7 _ (by omega) (by omega) (by omega), e 26 _ (by omega) (by omega) (by omega), e 27 _ (by omega) (by omega) (by omega), e 28 _ (by omega) (by omega) (by omega)]
        exact d3
      · rw [e 7 _ (by omega) (by omega) (by omega), e 26 _ (by omega) (by omega) (by omega), e 27 _ (by omega) (by omega) (by omega), e 28 _ (by omega) (by omega) (by omega)]
        exact d4
      · rw [e 8 _ (by omega) (by omega) (by omega), e 29 _ (by omega) (by omega) (by omega)]
        exact d5
      · rw [e 1 _ (by omega) (by omega) (by omega), e 2 _ (by omega) (by omega) (by omega)]
        exact d6
  · rw [e 0 0 (by omega) (by omega) (by omega), e 10 0 (by omega) (by omega) (by omega), e 35 0 (by omega) (by omega) (by omega), e 45 0 (by omega) (by omega) (by omega)]
    exact h4
  · rw [e 10 0 (by omega) (by omega) (by omega)]; exact h5
  · rw [e 10 0 (by omega) (by omega) (by omega)]; exact h6
theorem zRel_T {I J : zMI} (hR : zRel I) (h : ∀ c i k, ¬ ((c = 8 ∨ c = 29) ∧ i = 0) → ¬ (c = 40 ∧ (k = 4 ∨ (122 ≤ k ∧ k < 222))) → J c i k = I c i k) (hT : (∃ m, zbT (I 8 0) (I 29 0) (I 40 0) m) → ∃ m, zbT (J 8 0) (J 29 0) (J 40 0) m) : zRel J := by
  have e : ∀ c i, ¬ ((c = 8 ∨ c = 29) ∧ i = 0) → c ≠ 40 → J c i = I c i := fun c i h1 h2 => funext (fun k => h c i k h1 (fun q => h2 q.1))
  refine zRel_S hR (fun c i k a1 a2 a3 => h c i k (by omega) (by omega)) (fun ⟨m, hm⟩ => ⟨m, ?_⟩) (fun ⟨m, hm⟩ => ⟨m, ?_⟩) hT
  · rw [e 7 _ (by omega) (by omega), e 26 _ (by omega) (by omega), e 27 _ (by omega) (by omega), e 28 _ (by omega) (by omega)]
    exact zbH_of (h 40 0 2 (by omega) (by omega)) (fun k _ _ => h 40 0 k (by omega) (by omega)) hm
  · rw [e 7 _ (by omega) (by omega), e 26 _ (by omega) (by omega), e 27 _ (by omega) (by omega), e 28 _ (by omega) (by omega)]
    exact zbH_of (h 40 0 3 (by omega) (by omega)) (fun k _ _ => h 40 0 k (by omega) (by omega)) hm
theorem zRel_H {I J : zMI} (hR : zRel I) {i q o X : Nat} (hi : (i = 0 ∧ q = 2 ∧ o = 74 ∧ X = 1) ∨ (i = 1 ∧ q = 3 ∧ o = 98 ∧ X = 9999)) (h : ∀ c j k, ¬ ((c = 7 ∨ c = 26 ∨ c = 27 ∨ c = 28) ∧ j = i) → ¬ (c = 40 ∧ (k = q ∨ (o ≤ k ∧ k < o + 24))) → J c j k = I c j k)
    (hH : ∃ m, zbH (J 7 i) (J 26 i) (J 27 i) (J 28 i) (J 40 0) q o X m) : zRel J := by
  have e : ∀ c j, ¬ ((c = 7 ∨ c = 26 ∨ c = 27 ∨ c = 28) ∧ j = i) → c ≠ 40 → J c j = I c j := fun c j h1 h2 => funext (fun k => h c j k h1 (fun q => h2 q.1))
  have hT : (∃ m, zbT (I 8 0) (I 29 0) (I 40 0) m) → ∃ m, zbT (J 8 0) (J 29 0) (J 40 0) m := by
    rintro ⟨m, hm⟩
    rw [e 8 _ (by omega) (by omega), e 29 _ (by omega) (by omega)]
    exact ⟨m, zbT_of (h 40 0 4 (by omega) (by omega)) (fun k _ _ => h 40 0 k (by omega) (by omega)) hm⟩
  rcases hi with ⟨rfl, rfl, rfl, rfl⟩ | ⟨rfl, rfl, rfl, rfl⟩
  · refine zRel_S hR (fun c i k a1 a2 a3 => h c i k (by omega) (by omega)) (fun _ => hH) (fun ⟨m, hm⟩ => ⟨m, ?_⟩) hT
    rw [e 7 _ (by omega) (by omega), e 26 _ (by omega) (by omega), e 27 _ (by omega) (by omega), e 28 _ (by omega) (by omega)]
    exact zbH_of (h 40 0 3 (by omega) (by omega)) (fun k _ _ => h 40 0 k (by omega) (by omega)) hm
  · refine zRel_S hR (fun c i k a1 a2 a3 => h c i k (by omega) (by omega)) (fun ⟨m, hm⟩ => ⟨m, ?_⟩) (fun _ => hH) hT
    rw [e 7 _ (by omega) (by omega), e 26 _ (by omega) (by omega), e 27 _ (by omega) (by omega), e 28 _ (by omega) (by omega)]
    exact zbH_of (h 40 0 2 (by omega) (by omega)) (fun k _ _ => h 40 0 k (by omega) (by omega)) hm
/-- a row more, or none -/
theorem zRel_row {I J : zMI} (hR : zRel I) {i q o X n f a x : Nat} (hi : (i = 0 ∧ q = 2 ∧ o = 74 ∧ X = 1) ∨ (i = 1 ∧ q = 3 ∧ o = 98 ∧ X = 9999)) (hH : zbH (I 7 i) (I 26 i) (I 27 i) (I 28 i) (I 40 0) q o X n) (h8 : n < 8) (hf : f ≤ 20) (ha : a ≤ 3) (hx : x ≤ X)
    (hJ : J = zup (zup (zup (zup (zup (zup (zup (zup I 26 i n (nI f)) 27 i n (nI a)) 28 i n (nI x)) 7 i 3 (nI (n + 1))) 40 0 (o + n) (nI f)) 40 0 (o + 8 + n) (nI a)) 40 0 (o + 16 + n) (nI x)) 40 0 q (nI (n + 1))) : zRel J := by
  have A : ∀ c j k, ¬ ((c = 7 ∨ c = 26 ∨ c = 27 ∨ c = 28) ∧ j = i) → ¬ (c = 40 ∧ (k = q ∨ (o ≤ k ∧ k < o + 24))) → J c j k = I c j k := by
    intro c j k h1 h2
    rw [hJ]
    repeat rw [zup_ne (by omega)]
  have v7 : J 7 i 3 = nI (n + 1) := by
    rw [hJ]
    repeat (first | rw [zup_eq] | rw [zup_ne (by omega)])
  have vq : J 40 0 q = nI (n + 1) := by rw [hJ, zup_eq]
  have va : J 40 0 (o + n) = nI f := by
    rw [hJ]
    repeat (first | rw [zup_eq] | rw [zup_ne (by omega)])
  have vb : J 40 0 (o + 8 + n) = nI a := by
    rw [hJ]
    repeat (first | rw [zup_eq] | rw [zup_ne (by omega)])
  have vc : J 40 0 (o + 16 + n) = nI x := by
    rw [hJ]
    repeat (first | rw [zup_eq] | rw [zup_ne (by omega)])
  have w26 : J 26 i n = nI f := by
    rw [hJ]
    repeat (first | rw [zup_eq] | rw [zup_ne (by omega)])
  have w27 : J 27 i n = nI a := by
    rw [hJ]
    repeat (first | rw [zup_eq] | rw [zup_ne (by omega)])
  have w28 : J 28 i n = nI x := by
    rw [hJ]
    repeat (first | rw [zup_eq] | rw [zup_ne (by omega)])
  have B : ∀ c k, c ≠ 7 → c ≠ 40 → k ≠ n → J c i k = I c i k := by
    intro c k h1 h2 h3
    rw [hJ]
    repeat rw [zup_ne (by omega)]
  have D : ∀ k, k ≠ q → k ≠ o + n → k ≠ o + 8 + n → k ≠ o + 16 + n → J 40 0 k = I 40 0 k := by
    intro k h1 h2 h3 h4
    rw [hJ]
    repeat rw [zup_ne (by omega)]
  clear hJ
  refine zRel_H hR hi A ⟨n + 1, v7, vq, by omega, fun j hj => ?_⟩
  obtain ⟨h1, h2, h3, h4⟩ := hH
  by_cases e : j = n
  · subst e
    exact ⟨f, a, x, ⟨hf, by omega, hx⟩, ⟨w26, w27, w28⟩, va, vb, vc⟩
  · rw [B 26 j (by omega) (by omega) e, B 27 j (by omega) (by omega) e, B 28 j (by omega) (by omega) e, D (o + j) (by omega) (by omega) (by omega) (by omega), D (o + 8 + j) (by omega) (by omega) (by omega) (by omega), D (o + 16 + j) (by omega) (by omega) (by omega) (by omega)]
    exact h4 j (by omega)
theorem zRel_row0 {I : zMI} (hR : zRel I) {i q o X : Nat} (hi : (i = 0 ∧ q = 2 ∧ o = 74 ∧ X = 1) ∨ (i = 1 ∧ q = 3 ∧ o = 98 ∧ X = 9999)) : zRel (zup (zup I 7 i 3 0) 40 0 q 0) := by
  refine zRel_H hR hi (fun c j k h1 h2 => by rw [zup_ne (by omega), zup_ne (by omega)]) ⟨0, ?_, zup_eq, by omega, fun j hj => absurd hj (Nat.not_lt_zero j)⟩
  rw [zup_ne (by omega), zup_eq]
  rfl
section
variable {d : Nat} {I : zMI} {rl rs : Option (Nat × Nat)} {Q : zPQ} {G : zMR}
set_option maxHeartbeats 4000000 in
set_option maxRecDepth 100000 in
theorem s_write {i n : Nat} {x y z : Int32} (hn : I 7 i 3 = nI n) (h8 : n ≤ 8) (hm : x = -1 → Q (some (zi 0)) (zup I 7 i 3 0) (zRR rl rs)) (hb : ¬ x = -1 → ((x < 0 ∨ 20 < x) ∨ (∃ f, f ≤ 20 ∧ x = nI f) ∧ (y < 0 ∨ 3 < y)) → Q (some (zi (-1))) I (zRR rl rs)) (hf : ∀ f a, f ≤ 20 → a ≤ 3 → x = nI f → y = nI a → n = 8 → Q (some (zi (-4))) I (zRR rl rs))
    (h : ∀ f a, f ≤ 20 → a ≤ 3 → x = nI f → y = nI a → n < 8 → Q (some (zi (nI (n + 1)))) (zup (zup (zup (zup I 26 i n x) 27 i n y) 28 i n z) 7 i 3 (nI (n + 1))) (zRR rl rs)) : zWm (d + 1) 106 [zr 7 i, zi x, zi y, zi z] I (zRR rl rs) Q := by
  refine z_auto rfl ?_
  refine z_br rfl (fun c => ?_) (fun c => ?_)
  · rcases n_cases x 20 (by decide) with ⟨f, hf2, e⟩ | hx
    · subst e
      refine z_auto rfl ?_
      refine z_cl rfl (c_isFloor_y hf2 ?_)
      refine z_auto rfl ?_
      refine z_st rfl ?_
      rcases n_cases y 3 (by decide) with ⟨a, ha, e⟩ | hy
      · subst e
        refine z_auto rfl ?_
        refine z_cl rfl (c_isSide_y ha ?_)
        refine z_auto rfl ?_
        refine z_jp rfl ?_
        refine z_auto rfl ?_
        refine z_cl rfl (s_sadd hn h8 (fun e => ?_) (fun hlt => ?_))
        · refine z_auto rfl ?_
          refine z_jp rfl ?_
          refine z_auto rfl ?_
          refine z_jp rfl ?_
          refine z_auto rfl ?_
          exact z_rt rfl (hf f a hf2 ha rfl rfl e)
        · have e7 : (zup (zup (zup (zup I 26 i n (nI f)) 27 i n (nI a)) 28 i n z) 7 i 3 (nI (n + 1))) 7 i 3 = nI (n + 1) := zup_eq
          refine z_auto rfl ?_
          refine z_st rfl ?_
          refine z_auto rfl ?_
          rw [e7]
          refine z_auto rfl ?_
          refine z_jp rfl ?_
          refine z_auto rfl ?_
          exact z_rt rfl (h f a hf2 ha rfl rfl hlt)
      · refine z_auto rfl ?_
        refine z_cl rfl (c_isSide_n hy ?_)
        refine z_auto rfl ?_
        refine z_st rfl ?_
        refine z_auto rfl ?_
        refine z_jp rfl ?_
        refine z_auto rfl ?_
        exact z_rt rfl (hb c (Or.inr ⟨⟨f, hf2, rfl⟩, hy⟩))
    · refine z_auto rfl ?_
      refine z_cl rfl (c_isFloor_n hx ?_)
      refine z_auto rfl ?_
      refine z_jp rfl ?_
      refine z_auto rfl ?_
      exact z_rt rfl (hb c (Or.inl hx))
  · refine z_auto rfl ?_
    exact z_rt rfl (hm (Classical.not_not.mp c))
set_option maxHeartbeats 4000000 in
set_option maxRecDepth 100000 in
theorem p_feed (x1 : Int32) : zPr 64 113 [zi x1] := by
  intro d I rl rs hR
  have hR0 := hR
  obtain ⟨n0, k, t, ⟨b1, b2, b3, b4, ⟨n, b5⟩, b6⟩, -, -, -, -, -⟩ := hR0
  obtain ⟨h1, h2, h3, h4⟩ := b5
  rcases n_cases x1 127 (by decide) with ⟨x, hx, rfl⟩ | hx
  · refine z_auto rfl ?_
    refine z_br rfl (fun c => ?_) (fun c => ?_)
    · exact absurd c (nI_pos (by omega))
    · refine z_auto rfl ?_
      refine z_br rfl (fun c2 => ?_) (fun c2 => ?_)
      · refine z_auto rfl ?_
        refine z_cl rfl (s_put h1 h3 (fun e => ?_) (fun hlt => ?_))
        · refine z_auto rfl ?_
          refine z_jp rfl ?_
          refine z_auto rfl ?_
          refine z_jp rfl ?_
          refine z_auto rfl ?_
          refine z_rt rfl (zPr_i (fun rl' rs' => ?_))
          refine z_auto rfl ?_
          refine z_cl rfl (m_in_y (lo := 0) (hi := 127) (Nat.zero_le _) hx (by decide) ?_)
          refine z_auto rfl ?_
          refine z_jp rfl ?_
          refine z_auto rfl ?_
          refine z_ald (k := 4) rfl rfl (by decide) ?_
          rw [h2, e]
          refine z_auto rfl ?_
          refine z_st rfl ?_
          refine z_auto rfl ?_
          exact z_rt rfl (zPr_o hR)
        · have e1 : (zup (zup I 29 0 n (nI x)) 8 0 1 (nI (n + 1))) 8 0 1 = nI (n + 1) := zup_eq
          refine z_auto rfl ?_
          refine z_st rfl ?_
          refine z_auto rfl ?_
          rw [e1]
          refine z_auto rfl ?_
          refine z_jp rfl ?_
          refine z_auto rfl ?_
          refine z_rt rfl (zPr_i (fun rl' rs' => ?_))
          obtain ⟨M, hM⟩ : ∃ M, M = zup (zup I 29 0 n (nI x)) 8 0 1 (nI (n + 1)) := ⟨_, rfl⟩
          rw [← hM]
          have m4 : M 40 0 4 = nI n := by
            rw [hM]
            repeat rw [zup_c (by decide)]
            exact h2
          refine z_auto rfl ?_
          refine z_cl rfl (m_in_y (lo := 0) (hi := 127) (Nat.zero_le _) hx (by decide) ?_)
          refine z_auto rfl ?_
          refine z_jp rfl ?_
          refine z_auto rfl ?_
          refine z_ald (k := 4) rfl rfl (by decide) ?_
          rw [m4]
          refine z_auto rfl ?_
          refine z_br rfl (fun c3 => ?_) (fun c3 => ?_)
          · refine z_auto rfl ?_
            refine z_ald (k := 4) rfl rfl (by decide) ?_
            rw [m4]
            refine z_auto rfl ?_
            refine z_ast (k := (122 + n)) rfl (nI_add 122 n) (by show 122 + n < 937; omega) ?_
            refine z_auto rfl ?_
            refine z_ald (k := 4) rfl rfl (by decide) ?_
            rw [zup_ne (by omega), m4]
            refine z_auto rfl ?_
            rw [show nI n + 1 = nI (n + 1) from (nI_succ n).symm]
            refine z_auto rfl ?_
            refine z_ast (k := 4) rfl rfl (by decide) ?_
            refine z_auto rfl ?_
            refine z_ald (k := 4) rfl rfl (by decide) ?_
            rw [zup_eq]
            refine z_auto rfl ?_
            refine z_rt rfl (zPr_o2 rfl ?_)
            obtain ⟨J, hJ⟩ : ∃ J, J = zup (zup M 40 0 (122 + n) (nI x)) 40 0 4 (nI (n + 1)) := ⟨_, rfl⟩
            rw [← hJ]
            have A : ∀ c i k, ¬ ((c = 8 ∨ c = 29) ∧ i = 0) → ¬ (c = 40 ∧ (k = 4 ∨ (122 ≤ k ∧ k < 222))) → J c i k = I c i k := fun c i k a1 a2 => by
              rw [hJ, hM]
              repeat rw [zup_ne (by omega)]
            have B : ∀ k, k ≠ n → J 29 0 k = I 29 0 k := fun k a1 => by
              rw [hJ, hM]
              repeat rw [zup_ne (by omega)]
            have D : ∀ k, k ≠ 4 → k ≠ 122 + n → J 40 0 k = I 40 0 k := fun k a1 a2 => by
              rw [hJ, hM]
              repeat rw [zup_ne (by omega)]
            have v1 : J 8 0 1 = nI (n + 1) := by
              rw [hJ, hM]
              repeat (first | rw [zup_eq] | rw [zup_ne (by omega)])
            have v2 : J 40 0 4 = nI (n + 1) := by rw [hJ, zup_eq]
            have v3 : J 29 0 n = nI x := by
              rw [hJ, hM]
              repeat (first | rw [zup_eq] | rw [zup_ne (by omega)])
            have v4 : J 40 0 (122 + n) = nI x := by
              rw [hJ]
              repeat (first | rw [zup_eq] | rw [zup_ne (by omega)])
            clear hJ
            refine zRel_T hR A (fun _ => ⟨n + 1, v1, v2, by omega, fun i hi => ?_⟩)
            by_cases e : i = n
            · subst e
              exact ⟨x, by omega, v3, v4⟩
            · rw [B i e, D _ (by omega) (by omega)]
              exact h4 i (by omega)
          · exact absurd ((nI_eq (a := n) (b := 100) (by omega) (by decide)).mp (Classical.not_not.mp c3)) (by omega)
      · exact absurd (nI_le (b := 127) hx (by decide)) c2
  · have mrun : ∀ rl' rs', zWm (d + 12) 113 [zr 10 0, zi x1] I (zRR rl' rs') (fun v2 I2 G2 => some (zi (-2)) = v2 ∧ zRel I2 ∧ ∃ rl2 rs2, G2 = zRR rl2 rs2) := by
      intro rl' rs'
      refine z_auto rfl ?_
      refine z_cl rfl (m_in_n hx ?_)
      refine z_auto rfl ?_
      refine z_st rfl ?_
      refine z_auto rfl ?_
      exact z_rt rfl (zPr_o hR)
    refine z_auto rfl ?_
    refine z_br rfl (fun c => ?_) (fun c => ?_)
    · refine z_auto rfl ?_
      exact z_rt rfl (zPr_i mrun)
    · refine z_auto rfl ?_
      refine z_br rfl (fun c2 => ?_) (fun c2 => ?_)
      · exact absurd hx (fun q => q.elim c (fun q => absurd q (Int32.not_lt.mpr c2)))
      · refine z_auto rfl ?_
        refine z_jp rfl ?_
        refine z_auto rfl ?_
        exact z_rt rfl (zPr_i mrun)
set_option maxHeartbeats 4000000 in
set_option maxRecDepth 100000 in
theorem p_see (x1 x2 : Int32) {b : Int32} (hb : b = 0 ∨ b = 1) : zPr 81 153 [zi x1, zi x2, zi b] := by
  intro d I rl rs hR
  have hR0 := hR
  obtain ⟨n0, k, t, ⟨b1, b2, ⟨n, b3⟩, b4, b5, b6⟩, -, -, -, -, -⟩ := hR0
  have hH : zbH (I 7 0) (I 26 0) (I 27 0) (I 28 0) (I 40 0) 2 74 1 n := b3
  obtain ⟨h1, h2, h3, h4⟩ := b3
  have h1 : I 7 0 3 = nI n := h1
  have crun : zW (d + 12) kX9_see (zblk kX9_see 2) [some (zr 9 0), some (zi x1), some (zi x2), some (zi b)] [zi b, zi x2, zi x1, zr 7 0] I (zRR rl rs) (fun v1 I1 G1 => ∃ rl1 rs1, G1 = zRR rl1 rs1 ∧ zWm (d + 12) 153 [zr 10 0, zi x1, zi x2, zi b] I1 G1 (fun v2 I2 G2 => v1 = v2 ∧ zRel I2 ∧ ∃ rl2 rs2, G2 = zRR rl2 rs2)) := by
    refine z_auto rfl ?_
    refine z_cl rfl (s_write h1 h3 (fun e => ?_) (fun q1 q2 => ?_) (fun f a hf ha e1 e2 e => ?_) (fun f a hf ha e1 e2 hlt => ?_))
    · refine z_auto rfl ?_
      refine z_rt rfl (zPr_i (fun rl' rs' => ?_))
      subst e
      refine z_auto rfl ?_
      refine z_st rfl ?_
      refine z_auto rfl ?_
      refine z_ast (k := 2) rfl rfl (by decide) ?_
      refine z_auto rfl ?_
      exact z_rt rfl (zPr_o (zRel_row0 hR (Or.inl ⟨rfl, rfl, rfl, rfl⟩)))
    · refine z_auto rfl ?_
      refine z_rt rfl (zPr_i (fun rl' rs' => ?_))
      refine z_auto rfl ?_
      refine z_br rfl (fun c => ?_) (fun c => ?_)
      · rcases q2 with q | ⟨⟨f, hf, rfl⟩, q⟩
        · refine z_auto rfl ?_
          refine z_cl rfl (m_isFloor_n q ?_)
          refine z_auto rfl ?_
          refine z_jp rfl ?_
          refine z_auto rfl ?_
          exact z_rt rfl (zPr_o hR)
        · refine z_auto rfl ?_
          refine z_cl rfl (m_isFloor_y hf ?_)
          refine z_auto rfl ?_
          refine z_st rfl ?_
          refine z_auto rfl ?_
          refine z_cl rfl (m_isSide_n q ?_)
          refine z_auto rfl ?_
          refine z_st rfl ?_
          refine z_auto rfl ?_
          refine z_jp rfl ?_
          refine z_auto rfl ?_
          exact z_rt rfl (zPr_o hR)
      · exact absurd (Classical.not_not.mp c) q1
    · subst e1
      subst e2
      refine z_auto rfl ?_
      refine z_rt rfl (zPr_i (fun rl' rs' => ?_))
      refine z_auto rfl ?_
      refine z_br rfl (fun c => ?_) (fun c => ?_)
      · refine z_auto rfl ?_
        refine z_cl rfl (m_isFloor_y hf ?_)
        refine z_auto rfl ?_
        refine z_st rfl ?_
        refine z_auto rfl ?_
        refine z_cl rfl (m_isSide_y ha ?_)
        refine z_auto rfl ?_
        refine z_jp rfl ?_
        refine z_auto rfl ?_
        refine z_ald (k := 2) rfl rfl (by decide) ?_
        rw [h2, e]
        refine z_auto rfl ?_
        refine z_st rfl ?_
        refine z_auto rfl ?_
        exact z_rt rfl (zPr_o hR)
      · exact absurd (show nI f < 0 by rw [Classical.not_not.mp c]; decide) (nI_pos (by omega))
    · subst e1
      subst e2
      refine z_auto rfl ?_
      refine z_rt rfl (zPr_i (fun rl' rs' => ?_))
      obtain ⟨M, hM⟩ : ∃ M, M = zup (zup (zup (zup I 26 0 n (nI f)) 27 0 n (nI a)) 28 0 n b) 7 0 3 (nI (n + 1)) := ⟨_, rfl⟩
      rw [← hM]
      have m2 : M 40 0 2 = nI n := by
        rw [hM]
        repeat rw [zup_c (by decide)]
        exact h2
      obtain ⟨x, hx, ex⟩ : ∃ x : Nat, x ≤ 1 ∧ b = nI x := by
        rcases hb with q | q
        · exact ⟨0, by decide, q⟩
        · exact ⟨1, by decide, q⟩
      have fin : zRel (zup (zup (zup (zup M 40 0 (74 + n) (nI f)) 40 0 (82 + n) (nI a)) 40 0 (90 + n) b) 40 0 2 (nI (n + 1))) := zRel_row (x := x) hR (Or.inl ⟨rfl, rfl, rfl, rfl⟩) hH hlt hf ha hx (by rw [hM, ex])
      have tail : zW (d + 12) kX10_see (zblk kX10_see 6) [some (zr 10 0), some (zi (nI f)), some (zi (nI a)), some (zi b)] [zi b, zi (90 + nI n), zr 40 0] (zup (zup M 40 0 (74 + n) (nI f)) 40 0 (82 + n) (nI a)) (zRR rl' rs') (fun v2 I2 G2 => some (zi (nI (n + 1))) = v2 ∧ zRel I2 ∧ ∃ rl2 rs2, G2 = zRR rl2 rs2) := by
        refine z_auto rfl ?_
        refine z_ast (k := (90 + n)) rfl (nI_add 90 n) (by show 90 + n < 937; omega) ?_
        refine z_auto rfl ?_
        refine z_ald (k := 2) rfl rfl (by decide) ?_
        rw [zup_ne (by omega), zup_ne (by omega), zup_ne (by omega), m2]
        refine z_auto rfl ?_
        rw [show nI n + 1 = nI (n + 1) from (nI_succ n).symm]
        refine z_auto rfl ?_
        refine z_ast (k := 2) rfl rfl (by decide) ?_
        refine z_auto rfl ?_
        refine z_ald (k := 2) rfl rfl (by decide) ?_
        rw [zup_eq]
        refine z_auto rfl ?_
        exact z_rt rfl (zPr_o2 rfl fin)
      refine z_auto rfl ?_
      refine z_br rfl (fun c => ?_) (fun c => ?_)
      · refine z_auto rfl ?_
        refine z_cl rfl (m_isFloor_y hf ?_)
        refine z_auto rfl ?_
        refine z_st rfl ?_
        refine z_auto rfl ?_
        refine z_cl rfl (m_isSide_y ha ?_)
        refine z_auto rfl ?_
        refine z_jp rfl ?_
        refine z_auto rfl ?_
        refine z_ald (k := 2) rfl rfl (by decide) ?_
        rw [m2]
        refine z_auto rfl ?_
        refine z_br rfl (fun c3 => ?_) (fun c3 => ?_)
        · refine z_auto rfl ?_
          refine z_ald (k := 2) rfl rfl (by decide) ?_
          rw [m2]
          refine z_auto rfl ?_
          refine z_ast (k := (74 + n)) rfl (nI_add 74 n) (by show 74 + n < 937; omega) ?_
          refine z_auto rfl ?_
          refine z_ald (k := 2) rfl rfl (by decide) ?_
          rw [zup_ne (by omega), m2]
          refine z_auto rfl ?_
          refine z_ast (k := (82 + n)) rfl (nI_add 82 n) (by show 82 + n < 937; omega) ?_
          refine z_auto rfl ?_
          refine z_ald (k := 2) rfl rfl (by decide) ?_
          rw [zup_ne (by omega), zup_ne (by omega), m2]
          refine z_auto rfl ?_
          refine z_br rfl (fun c4 => ?_) (fun c4 => ?_)
          · subst c4
            refine z_auto rfl ?_
            refine z_jp rfl ?_
            exact tail
          · have c5 : b = 1 := hb.elim (fun q => absurd q c4) id
            subst c5
            refine z_auto rfl ?_
            refine z_jp rfl ?_
            exact tail
        · exact absurd ((nI_eq (a := n) (b := 8) (by omega) (by decide)).mp (Classical.not_not.mp c3)) (by omega)
      · exact absurd (show nI f < 0 by rw [Classical.not_not.mp c]; decide) (nI_pos (by omega))
  rcases hb with rfl | rfl
  · refine z_auto rfl ?_
    refine z_jp rfl ?_
    refine z_auto rfl ?_
    refine z_jp rfl ?_
    exact crun
  · refine z_auto rfl ?_
    refine z_st rfl ?_
    refine z_auto rfl ?_
    refine z_jp rfl ?_
    exact crun
set_option maxHeartbeats 4000000 in
set_option maxRecDepth 100000 in
theorem p_book (x1 x2 x3 : Int32) : zPr 85 159 [zi x1, zi x2, zi x3] := by
  intro d I rl rs hR
  have hR0 := hR
  obtain ⟨n0, k, t, ⟨b1, b2, b3, ⟨n, b4⟩, b5, b6⟩, -, -, -, -, -⟩ := hR0
  have hH : zbH (I 7 1) (I 26 1) (I 27 1) (I 28 1) (I 40 0) 3 98 9999 n := b4
  obtain ⟨h1, h2, h3, h4⟩ := b4
  have h1 : I 7 1 3 = nI n := h1
  have hw : ∀ u4, (∀ f a, f ≤ 20 → a ≤ 3 → x1 = nI f → x2 = nI a → ∃ x, x ≤ 9999 ∧ x3 = nI x) → zW (d + 12) kX9_book (zblk kX9_book 4) [some (zr 9 0), some (zi x1), some (zi x2), some (zi x3), u4] [] I (zRR rl rs) (fun v1 I1 G1 => ∃ rl1 rs1, G1 = zRR rl1 rs1 ∧ zWm (d + 12) 159 [zr 10 0, zi x1, zi x2, zi x3] I1 G1 (fun v2 I2 G2 => v1 = v2 ∧ zRel I2 ∧ ∃ rl2 rs2, G2 = zRR rl2 rs2)) := by
    intro u4 hok
    refine z_auto rfl ?_
    refine z_cl rfl (s_write h1 h3 (fun e => ?_) (fun q1 q2 => ?_) (fun f a hf ha e1 e2 e => ?_) (fun f a hf ha e1 e2 hlt => ?_))
    · refine z_auto rfl ?_
      refine z_rt rfl (zPr_i (fun rl' rs' => ?_))
      subst e
      refine z_auto rfl ?_
      refine z_st rfl ?_
      refine z_auto rfl ?_
      refine z_ast (k := 3) rfl rfl (by decide) ?_
      refine z_auto rfl ?_
      exact z_rt rfl (zPr_o (zRel_row0 hR (Or.inr ⟨rfl, rfl, rfl, rfl⟩)))
    · refine z_auto rfl ?_
      refine z_rt rfl (zPr_i (fun rl' rs' => ?_))
      refine z_auto rfl ?_
      refine z_br rfl (fun c => ?_) (fun c => ?_)
      · rcases q2 with q | ⟨⟨f, hf, rfl⟩, q⟩
        · refine z_auto rfl ?_
          refine z_cl rfl (m_isFloor_n q ?_)
          refine z_auto rfl ?_
          refine z_jp rfl ?_
          refine z_auto rfl ?_
          exact z_rt rfl (zPr_o hR)
        · refine z_auto rfl ?_
          refine z_cl rfl (m_isFloor_y hf ?_)
          refine z_auto rfl ?_
          refine z_st rfl ?_
          refine z_auto rfl ?_
          refine z_cl rfl (m_isSide_n q ?_)
          refine z_auto rfl ?_
          refine z_st rfl ?_
          refine z_auto rfl ?_
          refine z_jp rfl ?_
          refine z_auto rfl ?_
          exact z_rt rfl (zPr_o hR)
      · exact absurd (Classical.not_not.mp c) q1
    · obtain ⟨x, hx, e3⟩ := hok f a hf ha e1 e2
      subst e1
      subst e2
      subst e3
      refine z_auto rfl ?_
      refine z_rt rfl (zPr_i (fun rl' rs' => ?_))
      refine z_auto rfl ?_
      refine z_br rfl (fun c => ?_) (fun c => ?_)
      · refine z_auto rfl ?_
        refine z_cl rfl (m_isFloor_y hf ?_)
        refine z_auto rfl ?_
        refine z_st rfl ?_
        refine z_auto rfl ?_
        refine z_cl rfl (m_isSide_y ha ?_)
        refine z_auto rfl ?_
        refine z_jp rfl ?_
        refine z_auto rfl ?_
        refine z_cl rfl (m_in_y (lo := 0) (hi := 9999) (Nat.zero_le _) hx (by decide) ?_)
        refine z_auto rfl ?_
        refine z_jp rfl ?_
        refine z_auto rfl ?_
        refine z_ald (k := 3) rfl rfl (by decide) ?_
        rw [h2, e]
        refine z_auto rfl ?_
        refine z_st rfl ?_
        refine z_auto rfl ?_
        exact z_rt rfl (zPr_o hR)
      · exact absurd (show nI f < 0 by rw [Classical.not_not.mp c]; decide) (nI_pos (by omega))
    · obtain ⟨x, hx, e3⟩ := hok f a hf ha e1 e2
      subst e1
      subst e2
      subst e3
      refine z_auto rfl ?_
      refine z_rt rfl (zPr_i (fun rl' rs' => ?_))
      obtain ⟨M, hM⟩ : ∃ M, M = zup (zup (zup (zup I 26 1 n (nI f)) 27 1 n (nI a)) 28 1 n (nI x)) 7 1 3 (nI (n + 1)) := ⟨_, rfl⟩
      rw [← hM]
      have m2 : M 40 0 3 = nI n := by
        rw [hM]
        repeat rw [zup_c (by decide)]
        exact h2
      have fin : zRel (zup (zup (zup (zup M 40 0 (98 + n) (nI f)) 40 0 (106 + n) (nI a)) 40 0 (114 + n) (nI x)) 40 0 3 (nI (n + 1))) := zRel_row (x := x) hR (Or.inr ⟨rfl, rfl, rfl, rfl⟩) hH hlt hf ha hx (by rw [hM])
      refine z_auto rfl ?_
      refine z_br rfl (fun c => ?_) (fun c => ?_)
      · refine z_auto rfl ?_
        refine z_cl rfl (m_isFloor_y hf ?_)
        refine z_auto rfl ?_
        refine z_st rfl ?_
        refine z_auto rfl ?_
        refine z_cl rfl (m_isSide_y ha ?_)
        refine z_auto rfl ?_
        refine z_jp rfl ?_
        refine z_auto rfl ?_
        refine z_cl rfl (m_in_y (lo := 0) (hi := 9999) (Nat.zero_le _) hx (by decide) ?_)
        refine z_auto rfl ?_
        refine z_jp rfl ?_
        refine z_auto rfl ?_
        refine z_ald (k := 3) rfl rfl (by decide) ?_
        rw [m2]
        refine z_auto rfl ?_
        refine z_br rfl (fun c3 => ?_) (fun c3 => ?_)
        · refine z_auto rfl ?_
          refine z_ald (k := 3) rfl rfl (by decide) ?_
          rw [m2]
          refine z_auto rfl ?_
          refine z_ast (k := (98 + n)) rfl (nI_add 98 n) (by show 98 + n < 937; omega) ?_
          refine z_auto rfl ?_
          refine z_ald (k := 3) rfl rfl (by decide) ?_
          rw [zup_ne (by omega), m2]
          refine z_auto rfl ?_
          refine z_ast (k := (106 + n)) rfl (nI_add 106 n) (by show 106 + n < 937; omega) ?_
          refine z_auto rfl ?_
          refine z_ald (k := 3) rfl rfl (by decide) ?_
          rw [zup_ne (by omega), zup_ne (by omega), m2]
          refine z_auto rfl ?_
          refine z_ast (k := (114 + n)) rfl (nI_add 114 n) (by show 114 + n < 937; omega) ?_
          refine z_auto rfl ?_
          refine z_ald (k := 3) rfl rfl (by decide) ?_
          rw [zup_ne (by omega), zup_ne (by omega), zup_ne (by omega), m2]
          refine z_auto rfl ?_
          rw [show nI n + 1 = nI (n + 1) from (nI_succ n).symm]
          refine z_auto rfl ?_
          refine z_ast (k := 3) rfl rfl (by decide) ?_
          refine z_auto rfl ?_
          refine z_ald (k := 3) rfl rfl (by decide) ?_
          rw [zup_eq]
          refine z_auto rfl ?_
          exact z_rt rfl (zPr_o2 rfl fin)
        · exact absurd ((nI_eq (a := n) (b := 8) (by omega) (by decide)).mp (Classical.not_not.mp c3)) (by omega)
      · exact absurd (show nI f < 0 by rw [Classical.not_not.mp c]; decide) (nI_pos (by omega))
  rcases n_cases x1 20 (by decide) with ⟨f, hf, rfl⟩ | hx1
  · refine z_auto rfl ?_
    refine z_cl rfl (c_isFloor_y hf ?_)
    refine z_auto rfl ?_
    refine z_st rfl ?_
    rcases n_cases x2 3 (by decide) with ⟨a, ha, rfl⟩ | hx2
    · refine z_auto rfl ?_
      refine z_cl rfl (c_isSide_y ha ?_)
      refine z_auto rfl ?_
      refine z_st rfl ?_
      refine z_auto rfl ?_
      refine z_jp rfl ?_
      refine z_auto rfl ?_
      refine z_st rfl ?_
      have mbad : (x3 < 0 ∨ 9999 < x3) → ∀ rl' rs', zWm (d + 12) 159 [zr 10 0, zi (nI f), zi (nI a), zi x3] I (zRR rl' rs') (fun v2 I2 G2 => some (zi (-2)) = v2 ∧ zRel I2 ∧ ∃ rl2 rs2, G2 = zRR rl2 rs2) := by
        intro hb rl' rs'
        refine z_auto rfl ?_
        refine z_br rfl (fun c => ?_) (fun c => ?_)
        · refine z_auto rfl ?_
          refine z_cl rfl (m_isFloor_y hf ?_)
          refine z_auto rfl ?_
          refine z_st rfl ?_
          refine z_auto rfl ?_
          refine z_cl rfl (m_isSide_y ha ?_)
          refine z_auto rfl ?_
          refine z_jp rfl ?_
          refine z_auto rfl ?_
          refine z_cl rfl (m_in_n hb ?_)
          refine z_auto rfl ?_
          refine z_st rfl ?_
          refine z_auto rfl ?_
          exact z_rt rfl (zPr_o hR)
        · exact absurd (show nI f < 0 by rw [Classical.not_not.mp c]; decide) (nI_pos (by omega))
      refine z_auto rfl ?_
      refine z_br rfl (fun c => ?_) (fun c => ?_)
      · refine z_auto rfl ?_
        exact z_rt rfl (zPr_i (mbad (Or.inl c)))
      · refine z_auto rfl ?_
        refine z_br rfl (fun c2 => ?_) (fun c2 => ?_)
        · refine hw _ (fun _ _ _ _ _ _ => ?_)
          rcases n_cases x3 9999 (by decide) with q | q
          · exact q
          · exact absurd q (fun q => q.elim c (fun q => absurd q (Int32.not_lt.mpr c2)))
        · refine z_auto rfl ?_
          refine z_jp rfl ?_
          refine z_auto rfl ?_
          exact z_rt rfl (zPr_i (mbad (Or.inr (Int32.not_le.mp c2))))
    · refine z_auto rfl ?_
      refine z_cl rfl (c_isSide_n hx2 ?_)
      refine z_auto rfl ?_
      refine z_jp rfl ?_
      refine z_auto rfl ?_
      refine z_jp rfl ?_
      refine z_auto rfl ?_
      refine z_jp rfl ?_
      exact hw _ (fun f' a' _ ha' _ e2 => absurd hx2 (by rw [e2]; exact n_no (m := 3) ha' (by decide)))
  · refine z_auto rfl ?_
    refine z_cl rfl (c_isFloor_n hx1 ?_)
    refine z_auto rfl ?_
    refine z_jp rfl ?_
    refine z_auto rfl ?_
    refine z_jp rfl ?_
    refine z_auto rfl ?_
    refine z_jp rfl ?_
    exact hw _ (fun f' a' hf' _ e1 _ => absurd hx1 (by rw [e1]; exact n_no (m := 20) hf' (by decide)))
end
