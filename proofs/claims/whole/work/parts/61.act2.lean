/-! act: the pair -/
theorem zRel_A {I J : zMI} (hR : zRel I) (h : ∀ c i k, ¬ (c = 0 ∧ i = 0) → ¬ (c = 35 ∧ i = 0) → ¬ (c = 45 ∧ i = 0) → ¬ (c = 10 ∧ i = 0 ∧ 22 ≤ k ∧ k ≤ 25) → J c i k = I c i k) {r : Nat} (hr : r < 2147483648) (h1 : J 0 0 1 = nI r) (h2 : J 10 0 22 = nI r) (h3 : ∀ i, i < r → i < 20 → J 35 0 i = J 45 0 i) : zRel J := by
  obtain ⟨n, k, t, hb, hE, hI, h4, h5, h6⟩ := hR
  refine ⟨n, k, t, ?_, zES_fr (fun c k hc => h c _ k (by omega) (by omega) (by omega) (by omega)) hE, ?_, ⟨r, hr, h1, h2, h3⟩, (h 10 0 14 (by omega) (by omega) (by omega) (by omega)).trans h5, (h 10 0 15 (by omega) (by omega) (by omega) (by omega)).trans h6⟩
  · exact zbx_id (fun c i k hc => h c i k (by omega) (by omega) (by omega) (by omega)) (fun k _ => h 40 0 k (by omega) (by omega) (by omega) (by omega)) hb
  · rw [h 9 0 2 (by omega) (by omega) (by omega) (by omega), h 10 0 3 (by omega) (by omega) (by omega) (by omega)]
    rcases hI with q | ⟨q1, q2, n', k', t', hb', hk⟩
    · exact Or.inl q
    · exact Or.inr ⟨q1, q2, n', k', t', zbx_id (fun c i k hc => h c i k (by omega) (by omega) (by omega) (by omega)) (fun k _ => h 41 0 k (by omega) (by omega) (by omega) (by omega)) hb', hk⟩
section
variable {d : Nat} {I : zMI} {rl rs : Option (Nat × Nat)} {Q : zPQ} {G : zMR}
set_option maxHeartbeats 4000000 in
set_option maxRecDepth 100000 in
theorem s_tells {J : zMI} {kd : Nat} {x m v : Int32} (hJ : zTc I J []) (hk : kd ≤ 6) (h2 : I 0 0 2 = nI kd) (h3 : I 0 0 3 = v) (h4 : I 0 0 4 = m) (h : ∀ K, zTc I K (fTe kd) → Q (some (zi (vTe kd x m v))) K (zRR rl rs)) : zWm (d + 5) 6 [zr 0 0, zi x] J (zRR rl rs) Q := by
  have e2 : J 0 0 2 = nI kd := (hJ.1 0 0 2 (by decide) (by decide)).trans h2
  have top : ∀ (Q : zPQ) (K : zMI) (L : List Nat) (x : Int32), zTc I K L → L.length ≤ 4 → (∀ M, zTc I M (L ++ 3 :: fTa kd) → Q (some (zi (vTa kd x m v * 2))) M (zRR rl rs)) → zWm (d + 4) 8 [zr 0 0, zi x] K (zRR rl rs) Q := by
    intro Q K L x hK hl hq
    refine z_auto rfl ?_
    refine z_cl rfl (s_begin (b := 3) hK (by omega) (fun M hM => ?_))
    refine z_auto rfl ?_
    refine z_cl rfl (s_takes hM (by rw [List.length_append, List.length_singleton]; omega) hk h2 h3 h4 (fun N hN => ?_))
    refine z_auto rfl ?_
    exact z_rt rfl (hq N (by rw [List.append_assoc] at hN; exact hN))
  refine z_auto rfl ?_
  rw [e2]
  rcases n_7 hk with rfl | rfl | rfl | rfl | rfl | rfl | rfl
  · refine z_auto rfl ?_
    refine z_jp rfl ?_
    refine z_auto rfl ?_
    refine z_cl rfl (top _ J _ _ hJ (by decide) (fun K hK => ?_))
    refine z_auto rfl ?_
    exact z_rt rfl (h K hK)
  · refine z_auto rfl ?_
    refine z_jp rfl ?_
    refine z_auto rfl ?_
    refine z_cl rfl (top _ J _ _ hJ (by decide) (fun K hK => ?_))
    refine z_auto rfl ?_
    exact z_rt rfl (h K hK)
  · refine z_auto rfl ?_
    refine z_jp rfl ?_
    refine z_auto rfl ?_
    refine z_cl rfl (top _ J _ _ hJ (by decide) (fun K hK => ?_))
    refine z_auto rfl ?_
    exact z_rt rfl (h K hK)
  · refine z_auto rfl ?_
    refine z_jp rfl ?_
    refine z_auto rfl ?_
    refine z_cl rfl (s_begin (b := 31) hJ (by decide) (fun K hK => ?_))
    refine z_auto rfl ?_
    refine z_cl rfl (top _ K _ _ hK (by decide) (fun M hM => ?_))
    refine z_auto rfl ?_
    exact z_rt rfl (h M hM)
  · refine z_auto rfl ?_
    refine z_jp rfl ?_
    refine z_auto rfl ?_
    refine z_cl rfl (s_begin (b := 41) hJ (by decide) (fun K hK => ?_))
    refine z_auto rfl ?_
    refine z_cl rfl (top _ K _ _ hK (by decide) (fun M hM => ?_))
    refine z_auto rfl ?_
    refine z_cl rfl (s_gives hM (by decide) hk h2 h4 (fun N hN => ?_))
    refine z_auto rfl ?_
    exact z_rt rfl (h N hN)
  · refine z_auto rfl ?_
    refine z_jp rfl ?_
    refine z_auto rfl ?_
    refine z_cl rfl (top _ J _ _ hJ (by decide) (fun K hK => ?_))
    refine z_auto rfl ?_
    exact z_rt rfl (h K hK)
  · refine z_auto rfl ?_
    refine z_jp rfl ?_
    refine z_auto rfl ?_
    refine z_cl rfl (s_begin (b := 31) hJ (by decide) (fun K hK => ?_))
    refine z_auto rfl ?_
    refine z_cl rfl (top _ K _ _ hK (by decide) (fun M hM => ?_))
    refine z_auto rfl ?_
    exact z_rt rfl (h M hM)
set_option maxHeartbeats 4000000 in
set_option maxRecDepth 100000 in
theorem m_tells {J : zMI} {kd : Nat} {x m v : Int32} (hJ : zTm I J []) (hk : kd ≤ 6) (h2 : I 10 0 23 = nI kd) (h3 : I 10 0 25 = v) (h4 : I 10 0 24 = m) (h : ∀ K, zTm I K (fTe kd) → Q (some (zi (vTe kd x m v))) K (zRR rl rs)) : zWm (d + 6) 168 [zr 10 0, zi x] J (zRR rl rs) Q := by
  have e2 : ∀ K L, zTm I K L → K 10 0 23 = nI kd := fun K L hK => (hK.1 10 0 23 (by decide) (by decide)).trans h2
  have top : ∀ (Q : zPQ) (K : zMI) (L : List Nat) (x : Int32), zTm I K L → L.length ≤ 4 → (∀ M, zTm I M (L ++ 3 :: fTa kd) → Q (some (zi (vTa kd x m v * 2))) M (zRR rl rs)) → zWm (d + 5) 167 [zr 10 0, zi x] K (zRR rl rs) Q := by
    intro Q K L x hK hl hq
    refine z_auto rfl ?_
    refine z_cl rfl (m_ran (b := 3) hK (by omega) (fun M hM => ?_))
    refine z_auto rfl ?_
    refine z_cl rfl (m_takes hM (by rw [List.length_append, List.length_singleton]; omega) hk h2 h3 h4 (fun N hN => ?_))
    refine z_auto rfl ?_
    exact z_rt rfl (hq N (by rw [List.append_assoc] at hN; exact hN))
  refine z_auto rfl ?_
  rw [e2 J _ hJ]
  refine z_auto rfl ?_
  refine z_cl rfl (m_isUnder hk (k := 3) (by decide) ?_)
  rcases n_7 hk with rfl | rfl | rfl | rfl | rfl | rfl | rfl
  · refine z_auto rfl ?_
    refine z_jp rfl ?_
    refine z_auto rfl ?_
    rw [e2 J _ hJ]
    refine z_auto rfl ?_
    refine z_jp rfl ?_
    refine z_auto rfl ?_
    refine z_cl rfl (top _ J _ _ hJ (by decide) (fun K hK => ?_))
    refine z_auto rfl ?_
    exact z_rt rfl (h K hK)
  · refine z_auto rfl ?_
    refine z_jp rfl ?_
    refine z_auto rfl ?_
    rw [e2 J _ hJ]
    refine z_auto rfl ?_
    refine z_jp rfl ?_
    refine z_auto rfl ?_
    refine z_cl rfl (top _ J _ _ hJ (by decide) (fun K hK => ?_))
    refine z_auto rfl ?_
    exact z_rt rfl (h K hK)
  · refine z_auto rfl ?_
    refine z_jp rfl ?_
    refine z_auto rfl ?_
    rw [e2 J _ hJ]
    refine z_auto rfl ?_
    refine z_jp rfl ?_
    refine z_auto rfl ?_
    refine z_cl rfl (top _ J _ _ hJ (by decide) (fun K hK => ?_))
    refine z_auto rfl ?_
    exact z_rt rfl (h K hK)
  · refine z_auto rfl ?_
    refine z_st rfl ?_
    refine z_auto rfl ?_
    refine z_cl rfl (m_ran (b := 31) hJ (by decide) (fun K hK => ?_))
    refine z_auto rfl ?_
    refine z_cl rfl (top _ K _ _ hK (by decide) (fun M hM => ?_))
    refine z_auto rfl ?_
    exact z_rt rfl (h M hM)
  · refine z_auto rfl ?_
    refine z_jp rfl ?_
    refine z_auto rfl ?_
    rw [e2 J _ hJ]
    refine z_auto rfl ?_
    refine z_st rfl ?_
    refine z_auto rfl ?_
    refine z_cl rfl (m_ran (b := 41) hJ (by decide) (fun K hK => ?_))
    refine z_auto rfl ?_
    refine z_cl rfl (top _ K _ _ hK (by decide) (fun M hM => ?_))
    refine z_auto rfl ?_
    refine z_cl rfl (m_gives hM (by decide) hk h2 h4 (fun N hN => ?_))
    refine z_auto rfl ?_
    exact z_rt rfl (h N hN)
  · refine z_auto rfl ?_
    refine z_jp rfl ?_
    refine z_auto rfl ?_
    rw [e2 J _ hJ]
    refine z_auto rfl ?_
    refine z_jp rfl ?_
    refine z_auto rfl ?_
    refine z_cl rfl (top _ J _ _ hJ (by decide) (fun K hK => ?_))
    refine z_auto rfl ?_
    exact z_rt rfl (h K hK)
  · refine z_auto rfl ?_
    refine z_st rfl ?_
    refine z_auto rfl ?_
    refine z_cl rfl (m_ran (b := 31) hJ (by decide) (fun K hK => ?_))
    refine z_auto rfl ?_
    refine z_cl rfl (top _ K _ _ hK (by decide) (fun M hM => ?_))
    refine z_auto rfl ?_
    exact z_rt rfl (h M hM)
set_option maxHeartbeats 4000000 in
set_option maxRecDepth 100000 in
theorem p_act (x1 x2 x3 : Int32) : zPr 87 169 [zi x1, zi x2, zi x3] := by
  intro d I rl rs hR
  have hR0 := hR
  obtain ⟨n, k, t, ⟨b1, b2, b3, b4, b5, b6⟩, -, -, -, -, -⟩ := hR0
  have hn := b1.1
  have hm := b1.2.1
  have h8 := b1.2.2.1
  refine z_auto rfl ?_
  refine z_cl rfl (?_ : zWm (d + 11) 1 [zr 0 0] I (zRR rl rs) _)
  refine z_auto rfl ?_
  refine z_rt rfl ?_
  have c0 : ∀ c i k, ¬ (c = 0 ∧ i = 0 ∧ k = 1) → zup I 0 0 1 0 c i k = I c i k := fun c i k q => zup_ne q
  rcases n_lay x1 n h8 with ⟨l, hl, rfl⟩ | hx1
  · obtain ⟨kd, v, th, w, sd, q, ⟨p0, p1, -, -, -⟩, r1, r2, -, -, -⟩ := b1.2.2.2.1 l hl
    refine z_auto rfl ?_
    refine z_cl rfl (c_has_y ((c0 4 0 7 (by omega)).trans hn) h8 hl ?_)
    refine z_auto rfl ?_
    refine z_jp rfl ?_
    refine z_auto rfl ?_
    refine z_cl rfl (?_ : zWm (d + 11) 2 [zr 0 0, zr 4 0, zi (nI l)] (zup I 0 0 1 0) (zRR rl rs) _)
    refine z_auto rfl ?_
    refine z_ald (k := l) rfl rfl (by show l < 8; omega) ?_
    rw [c0 20 0 l (by omega), p0]
    refine z_auto rfl ?_
    refine z_ald (k := l) rfl rfl (by show l < 8; omega) ?_
    rw [zup_ne (by omega), c0 21 0 l (by omega), p1]
    refine z_auto rfl ?_
    refine z_rt rfl ?_
    obtain ⟨J, hJ⟩ : ∃ J, J = zup (zup (zup (zup I 0 0 1 0) 0 0 2 (nI kd)) 0 0 3 (nI v)) 0 0 4 (nI l) := ⟨_, rfl⟩
    rw [← hJ]
    have A : ∀ c i k, ¬ (c = 0 ∧ i = 0) → J c i k = I c i k := fun c i k h1 => by
      rw [hJ]
      repeat rw [zup_ne (by omega)]
    have j1 : J 0 0 1 = nI 0 := by
      rw [hJ]
      repeat (first | rw [zup_eq] | rw [zup_ne (by omega)])
      rfl
    have j2 : J 0 0 2 = nI kd := by
      rw [hJ]
      repeat (first | rw [zup_eq] | rw [zup_ne (by omega)])
    have j3 : J 0 0 3 = nI v := by
      rw [hJ]
      repeat (first | rw [zup_eq] | rw [zup_ne (by omega)])
    have j4 : J 0 0 4 = nI l := by
      rw [hJ]
      repeat (first | rw [zup_eq] | rw [zup_ne (by omega)])
    clear hJ
    have hT0 : zTc J J [] := ⟨fun _ _ _ _ _ => rfl, j1, fun i x hx => by rw [List.getElem?_nil] at hx; cases hx⟩
    have mrun : ∀ (w : Nat), w ≤ 2 → ∀ (K : zMI) (L : List Nat) (v2 : Int32), L.length ≤ 20 → zTc J K L → ((w = 0 ∧ L = fGi kd ∧ v2 = vGi kd x3 (nI l)) ∨ (w = 1 ∧ L = fTa kd ∧ v2 = vTa kd x3 (nI l) (nI v)) ∨ (w = 2 ∧ L = fTe kd ∧ v2 = vTe kd x3 (nI l) (nI v))) → ∀ rl' rs', zWm (d + 12) 169 [zr 10 0, zi (nI l), zi (nI w), zi x3] K (zRR rl' rs') (fun v3 I2 G2 => some (zi v2) = v3 ∧ zRel I2 ∧ ∃ rl2 rs2, G2 = zRR rl2 rs2) := by
      intro w hw K L v2 hL hK hc rl' rs'
      have kI : ∀ c i k, ¬ (c = 0 ∧ i = 0) → ¬ (c = 35 ∧ i = 0) → K c i k = I c i k := fun c i k h1 h2 => (hK.1 c i k (by omega) h2).trans (A c i k h1)
      have e0 : zup K 10 0 22 0 40 0 0 = nI n := by rw [zup_ne (by omega), kI _ _ _ (by omega) (by omega), hm]
      refine z_auto rfl ?_
      refine z_cl rfl (m_isLayer_y e0 h8 hl ?_)
      refine z_auto rfl ?_
      refine z_st rfl ?_
      refine z_auto rfl ?_
      refine z_cl rfl (m_in_y (lo := 0) (hi := 2) (Nat.zero_le _) hw (by decide) ?_)
      refine z_auto rfl ?_
      refine z_jp rfl ?_
      refine z_auto rfl ?_
      refine z_ald (k := (10 + l)) rfl (nI_add 10 l) (by show 10 + l < 937; omega) ?_
      rw [zup_ne (by omega), kI _ _ _ (by omega) (by omega), r1]
      refine z_auto rfl ?_
      refine z_ald (k := (18 + l)) rfl (nI_add 18 l) (by show 18 + l < 937; omega) ?_
      rw [zup_ne (by omega), zup_ne (by omega), zup_ne (by omega), kI _ _ _ (by omega) (by omega), r2]
      obtain ⟨M, hM⟩ : ∃ M, M = zup (zup (zup (zup K 10 0 22 0) 10 0 23 (nI kd)) 10 0 24 (nI l)) 10 0 25 (nI v) := ⟨_, rfl⟩
      have B : ∀ c i k, ¬ (c = 10 ∧ i = 0 ∧ 22 ≤ k ∧ k ≤ 25) → M c i k = K c i k := fun c i k h1 => by
        rw [hM]
        repeat rw [zup_ne (by omega)]
      have m1 : M 10 0 22 = nI 0 := by
        rw [hM]
        repeat (first | rw [zup_eq] | rw [zup_ne (by omega)])
        rfl
      have m2 : M 10 0 23 = nI kd := by
        rw [hM]
        repeat (first | rw [zup_eq] | rw [zup_ne (by omega)])
      have m3 : M 10 0 25 = nI v := by
        rw [hM]
        repeat (first | rw [zup_eq] | rw [zup_ne (by omega)])
      have m4 : M 10 0 24 = nI l := by
        rw [hM]
        repeat (first | rw [zup_eq] | rw [zup_ne (by omega)])
      have hM0 : zTm M M [] := ⟨fun _ _ _ _ _ => rfl, m1, fun i x hx => by rw [List.getElem?_nil] at hx; cases hx⟩
      have fin : ∀ N, zTm M N L → zRel N := by
        intro N hN
        have nI2 : ∀ c i k, ¬ (c = 10 ∧ i = 0 ∧ 22 ≤ k ∧ k ≤ 25) → ¬ (c = 45 ∧ i = 0) → N c i k = K c i k := fun c i k h1 h2 => (hN.1 c i k (by omega) h2).trans (B c i k h1)
        refine zRel_A hR (fun c i k h1 h2 h3 h4 => (nI2 c i k h4 h3).trans (kI c i k h1 h2)) (r := L.length) (by omega) ((nI2 _ _ _ (by omega) (by omega)).trans hK.2.1) hN.2.1 (fun i h1 h2 => ?_)
        have hx : L[i]? = some L[i] := List.getElem?_eq_getElem h1
        rw [nI2 _ _ _ (by omega) (by omega), hK.2.2 i _ hx, hN.2.2 i _ hx]
      refine z_auto rfl ?_
      rw [← hM]
      clear hM
      rcases hc with ⟨rfl, rfl, rfl⟩ | ⟨rfl, rfl, rfl⟩ | ⟨rfl, rfl, rfl⟩
      · refine z_auto rfl ?_
        refine z_st rfl ?_
        refine z_auto rfl ?_
        refine z_cl rfl (m_gives (L := []) hM0 (by decide) (by omega) m2 m4 (fun N hN => ?_))
        refine z_auto rfl ?_
        refine z_jp rfl ?_
        refine z_auto rfl ?_
        exact z_rt rfl (zPr_o2 rfl (fin N hN))
      · refine z_auto rfl ?_
        refine z_jp rfl ?_
        refine z_auto rfl ?_
        refine z_st rfl ?_
        refine z_auto rfl ?_
        refine z_cl rfl (m_takes (L := []) hM0 (by decide) (by omega) m2 m3 m4 (fun N hN => ?_))
        refine z_auto rfl ?_
        refine z_jp rfl ?_
        refine z_auto rfl ?_
        exact z_rt rfl (zPr_o2 rfl (fin N hN))
      · refine z_auto rfl ?_
        refine z_jp rfl ?_
        refine z_auto rfl ?_
        refine z_jp rfl ?_
        refine z_auto rfl ?_
        refine z_cl rfl (m_tells hM0 (by omega) m2 m3 m4 (fun N hN => ?_))
        refine z_auto rfl ?_
        refine z_jp rfl ?_
        refine z_auto rfl ?_
        exact z_rt rfl (zPr_o2 rfl (fin N hN))
    have len : ∀ kd, kd ≤ 6 → (fGi kd).length ≤ 20 ∧ (fTa kd).length ≤ 20 ∧ (fTe kd).length ≤ 20 := by decide
    rcases n_cases x2 2 (by decide) with ⟨w2, hw, rfl⟩ | hx
    · rcases (show w2 = 0 ∨ w2 = 1 ∨ w2 = 2 by omega) with rfl | rfl | rfl
      · refine z_auto rfl ?_
        refine z_jp rfl ?_
        refine z_auto rfl ?_
        refine z_cl rfl (s_gives (L := []) hT0 (by decide) (by omega) j2 j4 (fun K hK => ?_))
        refine z_auto rfl ?_
        exact z_rt rfl (zPr_i (mrun 0 (by decide) K _ _ (len kd (by omega)).1 hK (Or.inl ⟨rfl, rfl, rfl⟩)))
      · refine z_auto rfl ?_
        refine z_jp rfl ?_
        refine z_auto rfl ?_
        refine z_cl rfl (s_takes (L := []) hT0 (by decide) (by omega) j2 j3 j4 (fun K hK => ?_))
        refine z_auto rfl ?_
        exact z_rt rfl (zPr_i (mrun 1 (by decide) K _ _ (len kd (by omega)).2.1 hK (Or.inr (Or.inl ⟨rfl, rfl, rfl⟩))))
      · refine z_auto rfl ?_
        refine z_jp rfl ?_
        refine z_auto rfl ?_
        refine z_cl rfl (s_tells hT0 (by omega) j2 j3 j4 (fun K hK => ?_))
        refine z_auto rfl ?_
        exact z_rt rfl (zPr_i (mrun 2 (by decide) K _ _ (len kd (by omega)).2.2 hK (Or.inr (Or.inr ⟨rfl, rfl, rfl⟩))))
    · refine z_auto rfl ?_
      refine z_sw rfl (fun q hq hx2 => ?_) (fun hn => ?_)
      · exfalso
        have hq : q ∈ [((0 : Int32), 2), (1, 3), (2, 4)] := hq
        simp only [List.mem_cons, List.not_mem_nil, or_false] at hq
        rcases hq with rfl | rfl | rfl <;> (subst hx2; revert hx; decide)
      · refine z_auto rfl ?_
        refine z_rt rfl (zPr_i (fun rl' rs' => ?_))
        have e0 : zup J 10 0 22 0 40 0 0 = nI n := by rw [zup_ne (by omega), A _ _ _ (by omega), hm]
        refine z_auto rfl ?_
        refine z_cl rfl (m_isLayer_y e0 h8 hl ?_)
        refine z_auto rfl ?_
        refine z_st rfl ?_
        refine z_auto rfl ?_
        refine z_cl rfl (m_in_n hx ?_)
        refine z_auto rfl ?_
        refine z_st rfl ?_
        refine z_auto rfl ?_
        refine z_jp rfl ?_
        refine z_auto rfl ?_
        exact z_rt rfl (zPr_o (zRel_A hR (fun c i k h1 h2 h3 h4 => by rw [zup_ne (by omega)]; exact A c i k h1) (r := 0) (by decide) (by rw [zup_ne (by omega)]; exact j1) zup_eq (fun i h1 _ => absurd h1 (Nat.not_lt_zero i))))
  · refine z_auto rfl ?_
    refine z_cl rfl (c_has_n ((c0 4 0 7 (by omega)).trans hn) h8 hx1 ?_)
    refine z_auto rfl ?_
    refine z_st rfl ?_
    refine z_auto rfl ?_
    refine z_rt rfl (zPr_i (fun rl' rs' => ?_))
    have e0 : zup (zup I 0 0 1 0) 10 0 22 0 40 0 0 = nI n := by rw [zup_ne (by omega), zup_ne (by omega), hm]
    refine z_auto rfl ?_
    refine z_cl rfl (m_isLayer_n e0 h8 hx1 ?_)
    refine z_auto rfl ?_
    refine z_jp rfl ?_
    refine z_auto rfl ?_
    exact z_rt rfl (zPr_o (zRel_A hR (fun c i k h1 h2 h3 h4 => by rw [zup_ne (by omega), zup_ne (by omega)]) (r := 0) (by decide) (by rw [zup_ne (by omega)]; exact zup_eq) zup_eq (fun i h1 _ => absurd h1 (Nat.not_lt_zero i))))
end
