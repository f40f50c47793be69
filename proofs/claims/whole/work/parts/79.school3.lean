/-! school: the pair -/
def zPr2 (m1 m2 : Nat) (a : List zAV) : Prop := ∀ (d : Nat) (I : zMI) (rl rs : Option (Nat × Nat)), zRel I → zWm (d + 40) m1 (zr 9 0 :: a) I (zRR rl rs) (fun v1 I1 G1 => ∃ rl1 rs1, G1 = zRR rl1 rs1 ∧ zWm (d + 40) m2 (zr 10 0 :: a) I1 G1 (fun v2 I2 G2 => v1 = v2 ∧ zRel I2 ∧ ∃ rl2 rs2, G2 = zRR rl2 rs2))
theorem zPr_2 {m1 m2 : Nat} {a : List zAV} (h : zPr m1 m2 a) : zPr2 m1 m2 a := fun d I rl rs hR => h (d + 28) I rl rs hR
theorem zES_id {I F : zMI} {j : Nat} {C : List zCl} (h : ∀ c x, (c = 6 ∨ (30 ≤ c ∧ c ≤ 33)) → F c j x = I c j x) (hE : zES I j C) : zES F j C := zES_fr (fun c k hc => h c k (by omega)) hE
theorem zRel_sch {I F : zMI} {n k t k2 : Nat} (hb : zbx I 0 (I 40 0) n k t) (hE : zES I 1 []) (hI : (I 9 0 2 = 0 ∧ I 10 0 3 = 0) ∨ (I 9 0 2 = 1 ∧ I 10 0 3 = 1 ∧ ∃ n' k' t', zbx I 1 (I 41 0) n' k' t' ∧ k' ≤ k)) (hA : ∃ r : Nat, r < 2147483648 ∧ I 0 0 1 = nI r ∧ I 10 0 22 = nI r ∧ ∀ i, i < r → i < 20 → I 35 0 i = I 45 0 i) (h14 : I 10 0 14 = 0) (h15 : I 10 0 15 = 0) (hk5 : k < 5) (hk2 : k2 = k ∨ k2 = k + 1)
    (fr : ∀ c i x, ¬ (c = 5 ∧ i = 0) → ¬ ((c = 6 ∨ (30 ≤ c ∧ c ≤ 33)) ∧ (i = 0 ∨ i = k + 2)) → ¬ (c = 1 ∧ i = 0 ∧ x = 5) → ¬ (c = 8 ∧ i = 0 ∧ x = 1) → ¬ (c = 10 ∧ i = 0 ∧ 4 ≤ x ∧ x ≤ 8) → ¬ (c = 40 ∧ i = 0 ∧ (x = 1 ∨ x = 4 ∨ x = 5 ∨ x = 222 + k ∨ x = 227 + k ∨ x = 232 + k ∨ (237 + 140 * k ≤ x ∧ x < 377 + 140 * k))) → F c i x = I c i x)
    (f15 : F 1 0 5 = nI k2) (s1 : F 40 0 1 = nI k2) (s5 : F 40 0 5 = if k2 = 0 then -1 else nI (k2 - 1)) (f8 : F 8 0 1 = 0) (s4 : F 40 0 4 = 0) (hnew : k2 = k + 1 → ∃ C, zES F (k + 2) C ∧ zMS (F 40 0) k C) : zRel F := by
  obtain ⟨b1, b2, ⟨m1, b3⟩, ⟨m2, b4⟩, b5, b6⟩ := hb
  have es : ∀ x, ¬ (x = 1 ∨ x = 4 ∨ x = 5) → ¬ (222 ≤ x) → F 40 0 x = I 40 0 x := fun x h1 h2 => fr 40 0 x (by omega) (by omega) (by omega) (by omega) (by omega) (by omega)
  have f1 : ∀ c i x, c ≠ 1 → c ≠ 5 → c ≠ 6 → c ≠ 8 → c ≠ 10 → c ≠ 40 → ¬ (30 ≤ c ∧ c ≤ 33) → F c i x = I c i x := fun c i x h1 h2 h3 h4 h5 h6 h7 => fr c i x (by omega) (by omega) (by omega) (by omega) (by omega) (by omega)
  have e : ∀ c i, c ≠ 1 → c ≠ 5 → c ≠ 6 → c ≠ 8 → c ≠ 10 → c ≠ 40 → ¬ (30 ≤ c ∧ c ≤ 33) → F c i = I c i := fun c i h1 h2 h3 h4 h5 h6 h7 => funext (fun x => f1 c i x h1 h2 h3 h4 h5 h6 h7)
  refine ⟨n, k2, t, ⟨?_, ?_, ⟨m1, ?_⟩, ⟨m2, ?_⟩, ⟨0, ?_⟩, ?_⟩, ?_, ?_, ?_, ?_, ?_⟩
  · obtain ⟨g1, g2, g3, g4, g5, g6, g7, g8⟩ := b1
    rw [e 4 0 (by omega) (by omega) (by omega) (by omega) (by omega) (by omega) (by omega), e 20 0 (by omega) (by omega) (by omega) (by omega) (by omega) (by omega) (by omega), e 21 0 (by omega) (by omega) (by omega) (by omega) (by omega) (by omega) (by omega), e 22 0 (by omega) (by omega) (by omega) (by omega) (by omega) (by omega) (by omega), e 23 0 (by omega) (by omega) (by omega) (by omega) (by omega) (by omega) (by omega), e 24 0 (by omega) (by omega) (by omega) (by omega) (by omega) (by omega) (by omega), e 25 0 (by omega) (by omega) (by omega) (by omega) (by omega) (by omega) (by omega)]
    refine ⟨g1, (es 0 (by omega) (by omega)).trans g2, g3, fun i hi => ?_, fun i x hi hx => ?_, g6, g7.trans (es 9 (by omega) (by omega)).symm, fun i hi => by rw [es 9 (by omega) (by omega)]; exact g8 i hi⟩
    · rw [es _ (by omega) (by omega), es _ (by omega) (by omega), es _ (by omega) (by omega), es _ (by omega) (by omega), es _ (by omega) (by omega)]
      exact g4 i hi
    · rw [es _ (by omega) (by omega)]
      exact g5 i x hi hx
  · obtain ⟨g1, g2, g3, g4, g5⟩ := b2
    refine ⟨f15, s1, by omega, s5, fun j hj => ?_⟩
    by_cases hjk : j < k
    · obtain ⟨C, c1, c2⟩ := g5 j hjk
      refine ⟨C, zES_id (fun c x hc => fr c (j + 2) x (by omega) (by omega) (by omega) (by omega) (by omega) (by omega)) c1, ?_⟩
      obtain ⟨q1, q2, q3, q4, q5, q6⟩ := c2
      refine ⟨?_, q2, fun x y hx => ?_, ?_, ?_, q6⟩
      · rw [fr 40 0 (232 + j) (by omega) (by omega) (by omega) (by omega) (by omega) (by omega)]; exact q1
      · have hx2 : x < (zmf C).length := (List.getElem?_eq_some_iff.mp hx).1
        rw [fr 40 0 (237 + 140 * j + x) (by omega) (by omega) (by omega) (by omega) (by omega) (by omega)]
        exact q3 x y hx
      · rw [fr 40 0 (222 + j) (by omega) (by omega) (by omega) (by omega) (by omega) (by omega)]; exact q4
      · rw [fr 40 0 (227 + j) (by omega) (by omega) (by omega) (by omega) (by omega) (by omega)]; exact q5
    · have hk : k2 = k + 1 := by omega
      have hj2 : j = k := by omega
      subst hj2
      exact hnew hk
  · rw [e 7 _ (by omega) (by omega) (by omega) (by omega) (by omega) (by omega) (by omega), e 26 _ (by omega) (by omega) (by omega) (by omega) (by omega) (by omega) (by omega), e 27 _ (by omega) (by omega) (by omega) (by omega) (by omega) (by omega) (by omega), e 28 _ (by omega) (by omega) (by omega) (by omega) (by omega) (by omega) (by omega)]
    exact zbH_of (es 2 (by omega) (by omega)) (fun k _ _ => es k (by omega) (by omega)) b3
  · rw [e 7 _ (by omega) (by omega) (by omega) (by omega) (by omega) (by omega) (by omega), e 26 _ (by omega) (by omega) (by omega) (by omega) (by omega) (by omega) (by omega), e 27 _ (by omega) (by omega) (by omega) (by omega) (by omega) (by omega) (by omega), e 28 _ (by omega) (by omega) (by omega) (by omega) (by omega) (by omega) (by omega)]
    exact zbH_of (es 3 (by omega) (by omega)) (fun k _ _ => es k (by omega) (by omega)) b4
  · exact ⟨f8, s4, by omega, fun i hi => absurd hi (Nat.not_lt_zero i)⟩
  · obtain ⟨q1, q2, q3, q4, q5⟩ := b6
    refine ⟨(fr 1 0 6 (by omega) (by omega) (by omega) (by omega) (by omega) (by omega)).trans q1, (es 6 (by omega) (by omega)).trans q2, q3, (f1 2 0 0 (by omega) (by omega) (by omega) (by omega) (by omega) (by omega) (by omega)).trans (q4.trans (es 7 (by omega) (by omega)).symm), ?_⟩
    rw [f1 2 0 1 (by omega) (by omega) (by omega) (by omega) (by omega) (by omega) (by omega), es 8 (by omega) (by omega)]
    exact q5
  · exact zES_id (fun c x hc => fr c 1 x (by omega) (by omega) (by omega) (by omega) (by omega) (by omega)) hE
  · rw [f1 9 0 2 (by omega) (by omega) (by omega) (by omega) (by omega) (by omega) (by omega), fr 10 0 3 (by omega) (by omega) (by omega) (by omega) (by omega) (by omega)]
    rcases hI with q | ⟨q1, q2, n', k', t', ⟨d1, d2, ⟨u1, d3⟩, ⟨u2, d4⟩, ⟨u3, d5⟩, ⟨w1, w2, w3, w4, w5⟩⟩, q4⟩
    · exact Or.inl q
    · have h41 : F 41 0 = I 41 0 := e 41 0 (by omega) (by omega) (by omega) (by omega) (by omega) (by omega) (by omega)
      rw [h41]
      refine Or.inr ⟨q1, q2, n', k', t', ⟨?_, ?_, ⟨u1, ?_⟩, ⟨u2, ?_⟩, ⟨u3, ?_⟩, ?_⟩, by omega⟩
      · rw [e 4 1 (by omega) (by omega) (by omega) (by omega) (by omega) (by omega) (by omega), e 20 1 (by omega) (by omega) (by omega) (by omega) (by omega) (by omega) (by omega), e 21 1 (by omega) (by omega) (by omega) (by omega) (by omega) (by omega) (by omega), e 22 1 (by omega) (by omega) (by omega) (by omega) (by omega) (by omega) (by omega), e 23 1 (by omega) (by omega) (by omega) (by omega) (by omega) (by omega) (by omega), e 24 1 (by omega) (by omega) (by omega) (by omega) (by omega) (by omega) (by omega), e 25 1 (by omega) (by omega) (by omega) (by omega) (by omega) (by omega) (by omega)]
        exact d1
      · obtain ⟨g1, g2, g3, g4, g5⟩ := d2
        refine ⟨(fr 1 1 5 (by omega) (by omega) (by omega) (by omega) (by omega) (by omega)).trans g1, g2, g3, g4, fun j hj => ?_⟩
        obtain ⟨C, c1, c2⟩ := g5 j hj
        exact ⟨C, zES_id (fun c x hc => fr c (j + 2) x (by omega) (by omega) (by omega) (by omega) (by omega) (by omega)) c1, c2⟩
      · rw [e 7 _ (by omega) (by omega) (by omega) (by omega) (by omega) (by omega) (by omega), e 26 _ (by omega) (by omega) (by omega) (by omega) (by omega) (by omega) (by omega), e 27 _ (by omega) (by omega) (by omega) (by omega) (by omega) (by omega) (by omega), e 28 _ (by omega) (by omega) (by omega) (by omega) (by omega) (by omega) (by omega)]
        exact d3
      · rw [e 7 _ (by omega) (by omega) (by omega) (by omega) (by omega) (by omega) (by omega), e 26 _ (by omega) (by omega) (by omega) (by omega) (by omega) (by omega) (by omega), e 27 _ (by omega) (by omega) (by omega) (by omega) (by omega) (by omega) (by omega), e 28 _ (by omega) (by omega) (by omega) (by omega) (by omega) (by omega) (by omega)]
        exact d4
      · rw [e 29 _ (by omega) (by omega) (by omega) (by omega) (by omega) (by omega) (by omega), show F 8 1 = I 8 1 from funext (fun x => fr 8 1 x (by omega) (by omega) (by omega) (by omega) (by omega) (by omega))]
        exact d5
      · rw [show F 1 1 = I 1 1 from funext (fun x => fr 1 1 x (by omega) (by omega) (by omega) (by omega) (by omega) (by omega)), e 2 _ (by omega) (by omega) (by omega) (by omega) (by omega) (by omega) (by omega)]
        exact ⟨w1, w2, w3, w4, w5⟩
  · rw [e 0 0 (by omega) (by omega) (by omega) (by omega) (by omega) (by omega) (by omega), e 35 0 (by omega) (by omega) (by omega) (by omega) (by omega) (by omega) (by omega), e 45 0 (by omega) (by omega) (by omega) (by omega) (by omega) (by omega) (by omega), fr 10 0 22 (by omega) (by omega) (by omega) (by omega) (by omega) (by omega)]
    exact hA
  · exact (fr 10 0 14 (by omega) (by omega) (by omega) (by omega) (by omega) (by omega)).trans h14
  · exact (fr 10 0 15 (by omega) (by omega) (by omega) (by omega) (by omega) (by omega)).trans h15
set_option maxHeartbeats 4000000 in
set_option maxRecDepth 100000 in
theorem p_school : zPr2 65 126 [] := by
  intro d I rl rs hR
  have hR0 := hR
  obtain ⟨n, k, t, hb, hE, hI, hA, h14, h15⟩ := hR0
  have hb0 := hb
  obtain ⟨b1, ⟨g1, g2, g3, g4, g5⟩, b3, b4, ⟨N, t1, t2, t3, t4⟩, b6⟩ := hb0
  by_cases hk5 : k < 5
  · obtain ⟨c, hc1, hc2, hc3⟩ : ∃ c : Nat → Nat, (∀ p, c p < 128 ↔ p < N) ∧ (∀ p, p < N → I 29 0 p = nI (c p)) ∧ ∀ p, p < N → I 40 0 (122 + p) = nI (c p) := by
      have h : ∀ p, ∃ x : Nat, (p < N → x < 128 ∧ I 29 0 p = nI x ∧ I 40 0 (122 + p) = nI x) ∧ (¬ p < N → x = 999) := by
        intro p
        by_cases q : p < N
        · obtain ⟨x, x1, x2, x3⟩ := t4 p q
          exact ⟨x, fun _ => ⟨x1, x2, x3⟩, fun q2 => absurd q q2⟩
        · exact ⟨999, fun q2 => absurd q2 q, fun _ => rfl⟩
      refine ⟨fun p => Classical.choose (h p), fun p => ?_, fun p hp => ((Classical.choose_spec (h p)).1 hp).2.1, fun p hp => ((Classical.choose_spec (h p)).1 hp).2.2⟩
      constructor
      · intro hx
        apply Classical.byContradiction
        intro q
        have h9 := (Classical.choose_spec (h p)).2 q
        have hx : Classical.choose (h p) < 128 := hx
        rw [h9] at hx
        omega
      · intro hp
        exact ((Classical.choose_spec (h p)).1 hp).1
    have run : ∀ K : zMI, zFs k I K → ∀ v : Int32, (∀ q C, fRd c N 10 0 [] = (q, some C) → v = nI k ∧ zES K (k + 2) C ∧ K 1 0 5 = nI (k + 1) ∧ K 8 0 1 = 0) → (∀ q, fRd c N 10 0 [] = (q, none) → v = -10 - nI q ∧ K 1 0 5 = nI k ∧ K 8 0 1 = 0) → ∀ rl' rs', zWm (d + 40) 126 [zr 10 0] K (zRR rl' rs') (fun v2 I2 G2 => some (zi v) = v2 ∧ zRel I2 ∧ ∃ rl2 rs2, G2 = zRR rl2 rs2) := by
      intro K hK v hv1 hv0 rl' rs'
      have k40 : ∀ x, K 40 0 x = I 40 0 x := fun x => hK 40 0 x (by omega) (by omega) (by omega) (by omega)
      have hm := m_school (d := d + 17) (I := K) (rl := rl') (rs := rs') (Q := fun v2 I2 G2 => some (zi v) = v2 ∧ zRel I2 ∧ ∃ rl2 rs2, G2 = zRR rl2 rs2) (c := c) (N := N) (a := k) ((k40 1).trans g2) hk5 ((k40 4).trans t2) t3 hc1 (fun p hp => (k40 _).trans (hc3 p hp)) (fun q C M e hM m4 hz => by
        obtain ⟨v1, v2, v3, v4⟩ := hv1 q C e
        have mw : ∀ x ∈ C, zwf x := v2.2.2.2.1
        refine zPr_o2 (by rw [v1]) (zRel_sch (k2 := k + 1) hb hE hI hA h14 h15 hk5 (Or.inr rfl) (fun c i x a1 a2 a3 a4 a5 a6 => ?_) ?_ ?_ ?_ ?_ ?_ (fun _ => ⟨C, ?_, ?_⟩))
        · rw [zup_ne (by omega), zup_ne (by omega), hM c i x (by omega) (by omega)]
          exact hK c i x a1 a2 a3 a4
        · rw [zup_ne (by omega), zup_ne (by omega), hM _ _ _ (by omega) (by omega)]
          exact v3
        · rw [zup_ne (by omega), zup_eq]
        · rw [zup_eq]
          rfl
        · rw [zup_ne (by omega), zup_ne (by omega), hM _ _ _ (by omega) (by omega)]
          exact v4
        · rw [zup_ne (by omega), zup_ne (by omega)]
          exact m4
        · exact zES_id (fun c x hc => by rw [zup_ne (by omega), zup_ne (by omega), hM _ _ _ (by omega) (by omega)]) v2
        · obtain ⟨z1, z2, z3, z4, z5⟩ := hz
          refine ⟨?_, z2, fun x y hx => ?_, ?_, ?_, mw⟩
          · rw [zup_ne (by omega), zup_ne (by omega)]; exact z1
          · rw [zup_ne (by omega), zup_ne (by omega)]; exact z3 x y hx
          · rw [zup_ne (by omega), zup_ne (by omega)]; exact z4
          · rw [zup_ne (by omega), zup_ne (by omega)]; exact z5) (fun q M e hM m4 => by
        obtain ⟨v1, v3, v4⟩ := hv0 q e
        refine zPr_o2 (by rw [v1]) (zRel_sch (k2 := k) hb hE hI hA h14 h15 hk5 (Or.inl rfl) (fun c i x a1 a2 a3 a4 a5 a6 => ?_) ?_ ?_ ?_ ?_ ?_ (fun q => absurd q (by omega)))
        · rw [hM c i x (by omega) (by omega)]
          exact hK c i x a1 a2 a3 a4
        · rw [hM _ _ _ (by omega) (by omega)]
          exact v3
        · rw [hM _ _ _ (by omega) (by omega), k40]
          exact g2
        · rw [hM _ _ _ (by omega) (by omega), k40]
          exact g4
        · rw [hM _ _ _ (by omega) (by omega)]
          exact v4
        · exact m4)
      rw [show 15 + (d + 17) + 8 = d + 40 by omega] at hm
      exact hm
    have hc := c_school (d := d + 22) (I := I) (rl := rl) (rs := rs) (Q := fun v1 I1 G1 => ∃ rl1 rs1, G1 = zRR rl1 rs1 ∧ zWm (d + 40) 126 [zr 10 0] I1 G1 (fun v2 I2 G2 => v1 = v2 ∧ zRel I2 ∧ ∃ rl2 rs2, G2 = zRR rl2 rs2)) (c := c) (N := N) (k := k) g1 hk5 t1 t3 hc1 hc2 (fun q C K e hK hEK k5 k8 => ⟨rl, some (29, 0), rfl, run K hK _ (fun q' C' e' => by
      rw [e] at e'
      cases e'
      exact ⟨rfl, hEK, k5, k8⟩) (fun q' e' => by rw [e] at e'; cases e') rl _⟩) (fun q K e hK k5 k8 => ⟨rl, some (29, 0), rfl, run K hK _ (fun q' C' e' => by rw [e] at e'; cases e') (fun q' e' => by
      rw [e] at e'
      cases e'
      exact ⟨rfl, k5, k8⟩) rl _⟩)
    rw [show 10 + (d + 22) + 8 = d + 40 by omega] at hc
    exact hc
  · have hk : k = 5 := by omega
    subst hk
    refine z_auto rfl ?_
    rw [g1]
    refine z_auto rfl ?_
    refine z_st rfl ?_
    refine z_auto rfl ?_
    refine z_st rfl ?_
    refine z_auto rfl ?_
    refine z_jp rfl ?_
    refine z_auto rfl ?_
    refine z_rt rfl ⟨rl, rs, rfl, ?_⟩
    refine z_auto rfl ?_
    refine z_ald (k := 1) rfl rfl (by decide) ?_
    rw [g2]
    refine z_auto rfl ?_
    refine z_st rfl ?_
    refine z_auto rfl ?_
    exact z_rt rfl (zPr_o hR)
