/-! act -/
/-- the bodies that ran, on the class's side and on the model's -/
def zTc (I J : zMI) (L : List Nat) : Prop := (∀ c i k, ¬ (c = 0 ∧ i = 0 ∧ k = 1) → ¬ (c = 35 ∧ i = 0) → J c i k = I c i k) ∧ J 0 0 1 = nI L.length ∧ ∀ i x, L[i]? = some x → J 35 0 i = nI x
def zTm (I J : zMI) (L : List Nat) : Prop := (∀ c i k, ¬ (c = 10 ∧ i = 0 ∧ k = 22) → ¬ (c = 45 ∧ i = 0) → J c i k = I c i k) ∧ J 10 0 22 = nI L.length ∧ ∀ i x, L[i]? = some x → J 45 0 i = nI x
theorem l_snoc {L : List Nat} {b i x : Nat} (h : (L ++ [b])[i]? = some x) : (i = L.length ∧ x = b) ∨ (i ≠ L.length ∧ L[i]? = some x) := by
  rcases Nat.lt_trichotomy i L.length with q | q | q
  · rw [List.getElem?_append_left q] at h
    exact Or.inr ⟨by omega, h⟩
  · subst q
    rw [List.getElem?_append_right (Nat.le_refl _), Nat.sub_self] at h
    exact Or.inl ⟨rfl, (Option.some.inj h).symm⟩
  · rw [List.getElem?_append_right (by omega)] at h
    have := (List.getElem?_eq_some_iff.mp h).1
    rw [List.length_singleton] at this
    omega
def fGi (kd : Nat) : List Nat := if kd = 1 ∨ kd = 4 then [11, 1] else if kd = 5 then [51, 1] else [1]
def vGi (kd : Nat) (x m : Int32) : Int32 := if kd = 1 ∨ kd = 4 then x * 3 + m else if kd = 5 then (x + m) ^^^ m else x + m
def fTa (kd : Nat) : List Nat := if kd = 2 ∨ kd = 5 then 21 :: 2 :: fGi kd else if kd = 6 then 61 :: 2 :: fGi kd else 2 :: fGi kd
def vTa (kd : Nat) (x m v : Int32) : Int32 := if kd = 2 ∨ kd = 5 then -(vGi kd x m - v) else if kd = 6 then vGi kd x m - v + v else vGi kd x m - v
def fTe (kd : Nat) : List Nat := if kd = 3 ∨ kd = 6 then 31 :: 3 :: fTa kd else if kd = 4 then 41 :: 3 :: (fTa kd ++ fGi kd) else 3 :: fTa kd
def vTe (kd : Nat) (x m v : Int32) : Int32 := if kd = 3 ∨ kd = 6 then (vTa kd x m v * 2) ^^^ 7 else if kd = 4 then vTa kd (x - 1) m v * 2 + vGi kd 2 m else vTa kd x m v * 2
section
variable {d : Nat} {I : zMI} {rl rs : Option (Nat × Nat)} {Q : zPQ} {G : zMR}
set_option maxHeartbeats 4000000 in
set_option maxRecDepth 100000 in
theorem s_begin {J : zMI} {L : List Nat} {b : Nat} (hJ : zTc I J L) (hl : L.length < 20) (h : ∀ K, zTc I K (L ++ [b]) → Q none K (zRR rl rs)) : zWm d 3 [zr 0 0, zi (nI b)] J (zRR rl rs) Q := by
  obtain ⟨h1, h2, h3⟩ := hJ
  have fin : zTc I (zup (zup J 35 0 L.length (nI b)) 0 0 1 (nI (L.length + 1))) (L ++ [b]) := by
    refine ⟨fun c i k q1 q2 => ?_, ?_, fun i x hx => ?_⟩
    · rw [zup_ne (by omega), zup_ne (by omega)]
      exact h1 c i k q1 q2
    · rw [zup_eq, List.length_append]
      rfl
    · rw [zup_ne (by omega)]
      rcases l_snoc hx with ⟨rfl, rfl⟩ | ⟨q1, q2⟩
      · exact zup_eq
      · rw [zup_ne (by omega)]
        exact h3 i x q2
  refine z_auto rfl ?_
  rw [h2]
  refine z_auto rfl ?_
  refine z_br rfl (fun c => ?_) (fun c => ?_)
  · exact absurd c (nI_pos (by omega))
  · refine z_auto rfl ?_
    rw [h2]
    refine z_auto rfl ?_
    refine z_br rfl (fun c2 => ?_) (fun c2 => ?_)
    · exact absurd c2 (Int32.not_le.mpr (nI_lt (a := L.length) (b := 20) (by omega) (by decide)))
    · refine z_auto rfl ?_
      rw [h2]
      refine z_auto rfl ?_
      refine z_ast (k := L.length) rfl rfl (by show L.length < 20; omega) ?_
      refine z_auto rfl ?_
      refine z_jp rfl ?_
      refine z_auto rfl ?_
      rw [zup_ne (by omega), h2]
      refine z_auto rfl ?_
      rw [show nI L.length + 1 = nI (L.length + 1) from (nI_succ _).symm]
      refine z_auto rfl ?_
      exact z_rt rfl (h _ fin)
set_option maxHeartbeats 4000000 in
set_option maxRecDepth 100000 in
theorem m_ran {J : zMI} {L : List Nat} {b : Nat} (hJ : zTm I J L) (hl : L.length < 20) (h : ∀ K, zTm I K (L ++ [b]) → Q none K (zRR rl rs)) : zWm d 161 [zr 10 0, zi (nI b)] J (zRR rl rs) Q := by
  obtain ⟨h1, h2, h3⟩ := hJ
  have fin : zTm I (zup (zup J 45 0 L.length (nI b)) 10 0 22 (nI (L.length + 1))) (L ++ [b]) := by
    refine ⟨fun c i k q1 q2 => ?_, ?_, fun i x hx => ?_⟩
    · rw [zup_ne (by omega), zup_ne (by omega)]
      exact h1 c i k q1 q2
    · rw [zup_eq, List.length_append]
      rfl
    · rw [zup_ne (by omega)]
      rcases l_snoc hx with ⟨rfl, rfl⟩ | ⟨q1, q2⟩
      · exact zup_eq
      · rw [zup_ne (by omega)]
        exact h3 i x q2
  refine z_auto rfl ?_
  rw [h2]
  refine z_auto rfl ?_
  refine z_br rfl (fun c2 => ?_) (fun c2 => ?_)
  · exact absurd c2 (Int32.not_le.mpr (nI_lt (a := L.length) (b := 20) (by omega) (by decide)))
  · refine z_auto rfl ?_
    rw [h2]
    refine z_auto rfl ?_
    refine z_ast (k := L.length) rfl rfl (by show L.length < 20; omega) ?_
    refine z_auto rfl ?_
    refine z_jp rfl ?_
    refine z_auto rfl ?_
    rw [zup_ne (by omega), h2]
    refine z_auto rfl ?_
    rw [show nI L.length + 1 = nI (L.length + 1) from (nI_succ _).symm]
    refine z_auto rfl ?_
    exact z_rt rfl (h _ fin)
set_option maxHeartbeats 4000000 in
set_option maxRecDepth 100000 in
theorem s_gives {J : zMI} {L : List Nat} {kd : Nat} {x m : Int32} (hJ : zTc I J L) (hl : L.length ≤ 10) (hk : kd ≤ 6) (h2 : I 0 0 2 = nI kd) (h4 : I 0 0 4 = m) (h : ∀ K, zTc I K (L ++ fGi kd) → Q (some (zi (vGi kd x m))) K (zRR rl rs)) : zWm (d + 1) 4 [zr 0 0, zi x] J (zRR rl rs) Q := by
  have e2 : J 0 0 2 = nI kd := (hJ.1 0 0 2 (by decide) (by decide)).trans h2
  have e4 : ∀ K L, zTc I K L → K 0 0 4 = m := fun K L hK => (hK.1 0 0 4 (by decide) (by decide)).trans h4
  have g1 : ∀ L, [11, 1] = fGi kd → L ++ [11] ++ [1] = L ++ fGi kd := fun L q => by rw [← q, List.append_assoc]; rfl
  refine z_auto rfl ?_
  rw [e2]
  rcases n_7 hk with rfl | rfl | rfl | rfl | rfl | rfl | rfl
  · refine z_auto rfl ?_
    refine z_jp rfl ?_
    refine z_auto rfl ?_
    refine z_cl rfl (s_begin (b := 1) hJ (by omega) (fun K hK => ?_))
    refine z_auto rfl ?_
    rw [e4 K _ hK]
    refine z_auto rfl ?_
    exact z_rt rfl (h K hK)
  · refine z_auto rfl ?_
    refine z_jp rfl ?_
    refine z_auto rfl ?_
    refine z_cl rfl (s_begin (b := 11) hJ (by omega) (fun K hK => ?_))
    refine z_auto rfl ?_
    refine z_cl rfl (s_begin (b := 1) hK (by rw [List.length_append, List.length_singleton]; omega) (fun M hM => ?_))
    refine z_auto rfl ?_
    rw [e4 M _ hM]
    refine z_auto rfl ?_
    exact z_rt rfl (h M (by rw [List.append_assoc] at hM; exact hM))
  · refine z_auto rfl ?_
    refine z_jp rfl ?_
    refine z_auto rfl ?_
    refine z_cl rfl (s_begin (b := 1) hJ (by omega) (fun K hK => ?_))
    refine z_auto rfl ?_
    rw [e4 K _ hK]
    refine z_auto rfl ?_
    exact z_rt rfl (h K hK)
  · refine z_auto rfl ?_
    refine z_jp rfl ?_
    refine z_auto rfl ?_
    refine z_cl rfl (s_begin (b := 1) hJ (by omega) (fun K hK => ?_))
    refine z_auto rfl ?_
    rw [e4 K _ hK]
    refine z_auto rfl ?_
    exact z_rt rfl (h K hK)
  · refine z_auto rfl ?_
    refine z_jp rfl ?_
    refine z_auto rfl ?_
    refine z_cl rfl (s_begin (b := 11) hJ (by omega) (fun K hK => ?_))
    refine z_auto rfl ?_
    refine z_cl rfl (s_begin (b := 1) hK (by rw [List.length_append, List.length_singleton]; omega) (fun M hM => ?_))
    refine z_auto rfl ?_
    rw [e4 M _ hM]
    refine z_auto rfl ?_
    exact z_rt rfl (h M (by rw [List.append_assoc] at hM; exact hM))
  · refine z_auto rfl ?_
    refine z_jp rfl ?_
    refine z_auto rfl ?_
    refine z_cl rfl (s_begin (b := 51) hJ (by omega) (fun K hK => ?_))
    refine z_auto rfl ?_
    refine z_cl rfl (s_begin (b := 1) hK (by rw [List.length_append, List.length_singleton]; omega) (fun M hM => ?_))
    refine z_auto rfl ?_
    rw [e4 M _ hM]
    refine z_auto rfl ?_
    exact z_rt rfl (h M (by rw [List.append_assoc] at hM; exact hM))
  · refine z_auto rfl ?_
    refine z_jp rfl ?_
    refine z_auto rfl ?_
    refine z_cl rfl (s_begin (b := 1) hJ (by omega) (fun K hK => ?_))
    refine z_auto rfl ?_
    rw [e4 K _ hK]
    refine z_auto rfl ?_
    exact z_rt rfl (h K hK)
set_option maxHeartbeats 4000000 in
set_option maxRecDepth 100000 in
theorem m_gives {J : zMI} {L : List Nat} {kd : Nat} {x m : Int32} (hJ : zTm I J L) (hl : L.length ≤ 10) (hk : kd ≤ 6) (h2 : I 10 0 23 = nI kd) (h4 : I 10 0 24 = m) (h : ∀ K, zTm I K (L ++ fGi kd) → Q (some (zi (vGi kd x m))) K (zRR rl rs)) : zWm (d + 2) 164 [zr 10 0, zi x] J (zRR rl rs) Q := by
  have e2 : ∀ K L, zTm I K L → K 10 0 23 = nI kd := fun K L hK => (hK.1 10 0 23 (by decide) (by decide)).trans h2
  have e4 : ∀ K L, zTm I K L → K 10 0 24 = m := fun K L hK => (hK.1 10 0 24 (by decide) (by decide)).trans h4
  have plain : ∀ (Q : zPQ) (K : zMI) (L : List Nat) (y : Int32), zTm I K L → L.length < 20 → (∀ M, zTm I M (L ++ [1]) → Q (some (zi (y + m))) M (zRR rl rs)) → zWm (d + 1) 163 [zr 10 0, zi y] K (zRR rl rs) Q := by
    intro Q K L y hK hl hq
    refine z_auto rfl ?_
    refine z_cl rfl (m_ran (b := 1) hK hl (fun M hM => ?_))
    refine z_auto rfl ?_
    rw [e4 M _ hM]
    refine z_auto rfl ?_
    exact z_rt rfl (hq M hM)
  refine z_auto rfl ?_
  rw [e2 J L hJ]
  refine z_auto rfl ?_
  refine z_cl rfl (m_isUnder hk (k := 1) (by decide) ?_)
  rcases n_7 hk with rfl | rfl | rfl | rfl | rfl | rfl | rfl
  · refine z_auto rfl ?_
    refine z_jp rfl ?_
    refine z_auto rfl ?_
    rw [e2 J L hJ]
    refine z_auto rfl ?_
    refine z_jp rfl ?_
    refine z_auto rfl ?_
    refine z_cl rfl (plain _ J L x hJ (by omega) (fun K hK => ?_))
    refine z_auto rfl ?_
    exact z_rt rfl (h K hK)
  · refine z_auto rfl ?_
    refine z_st rfl ?_
    refine z_auto rfl ?_
    refine z_cl rfl (m_ran (b := 11) hJ (by omega) (fun K hK => ?_))
    refine z_auto rfl ?_
    refine z_cl rfl (plain _ K _ _ hK (by rw [List.length_append, List.length_singleton]; omega) (fun M hM => ?_))
    refine z_auto rfl ?_
    exact z_rt rfl (h M (by rw [List.append_assoc] at hM; exact hM))
  · refine z_auto rfl ?_
    refine z_jp rfl ?_
    refine z_auto rfl ?_
    rw [e2 J L hJ]
    refine z_auto rfl ?_
    refine z_jp rfl ?_
    refine z_auto rfl ?_
    refine z_cl rfl (plain _ J L x hJ (by omega) (fun K hK => ?_))
    refine z_auto rfl ?_
    exact z_rt rfl (h K hK)
  · refine z_auto rfl ?_
    refine z_jp rfl ?_
    refine z_auto rfl ?_
    rw [e2 J L hJ]
    refine z_auto rfl ?_
    refine z_jp rfl ?_
    refine z_auto rfl ?_
    refine z_cl rfl (plain _ J L x hJ (by omega) (fun K hK => ?_))
    refine z_auto rfl ?_
    exact z_rt rfl (h K hK)
  · refine z_auto rfl ?_
    refine z_st rfl ?_
    refine z_auto rfl ?_
    refine z_cl rfl (m_ran (b := 11) hJ (by omega) (fun K hK => ?_))
    refine z_auto rfl ?_
    refine z_cl rfl (plain _ K _ _ hK (by rw [List.length_append, List.length_singleton]; omega) (fun M hM => ?_))
    refine z_auto rfl ?_
    exact z_rt rfl (h M (by rw [List.append_assoc] at hM; exact hM))
  · refine z_auto rfl ?_
    refine z_jp rfl ?_
    refine z_auto rfl ?_
    rw [e2 J L hJ]
    refine z_auto rfl ?_
    refine z_st rfl ?_
    refine z_auto rfl ?_
    refine z_cl rfl (m_ran (b := 51) hJ (by omega) (fun K hK => ?_))
    refine z_auto rfl ?_
    refine z_cl rfl (plain _ K _ _ hK (by rw [List.length_append, List.length_singleton]; omega) (fun M hM => ?_))
    refine z_auto rfl ?_
    rw [e4 M _ hM]
    refine z_auto rfl ?_
    exact z_rt rfl (h M (by rw [List.append_assoc] at hM; exact hM))
  · refine z_auto rfl ?_
    refine z_jp rfl ?_
    refine z_auto rfl ?_
    rw [e2 J L hJ]
    refine z_auto rfl ?_
    refine z_jp rfl ?_
    refine z_auto rfl ?_
    refine z_cl rfl (plain _ J L x hJ (by omega) (fun K hK => ?_))
    refine z_auto rfl ?_
    exact z_rt rfl (h K hK)
theorem fGi_len (kd : Nat) : (fGi kd).length ≤ 2 := by
  unfold fGi
  split
  · decide
  · split <;> decide
set_option maxHeartbeats 4000000 in
set_option maxRecDepth 100000 in
theorem s_takes {J : zMI} {L : List Nat} {kd : Nat} {x m v : Int32} (hJ : zTc I J L) (hl : L.length ≤ 5) (hk : kd ≤ 6) (h2 : I 0 0 2 = nI kd) (h3 : I 0 0 3 = v) (h4 : I 0 0 4 = m) (h : ∀ K, zTc I K (L ++ fTa kd) → Q (some (zi (vTa kd x m v))) K (zRR rl rs)) : zWm (d + 3) 5 [zr 0 0, zi x] J (zRR rl rs) Q := by
  have e2 : J 0 0 2 = nI kd := (hJ.1 0 0 2 (by decide) (by decide)).trans h2
  have e3 : ∀ K L, zTc I K L → K 0 0 3 = v := fun K L hK => (hK.1 0 0 3 (by decide) (by decide)).trans h3
  have top : ∀ (Q : zPQ) (K : zMI) (L : List Nat), zTc I K L → L.length ≤ 8 → (∀ M, zTc I M (L ++ 2 :: fGi kd) → Q (some (zi (vGi kd x m - v))) M (zRR rl rs)) → zWm (d + 2) 7 [zr 0 0, zi x] K (zRR rl rs) Q := by
    intro Q K L hK hl hq
    refine z_auto rfl ?_
    refine z_cl rfl (s_begin (b := 2) hK (by omega) (fun M hM => ?_))
    refine z_auto rfl ?_
    refine z_cl rfl (s_gives hM (by rw [List.length_append, List.length_singleton]; omega) hk h2 h4 (fun N hN => ?_))
    refine z_auto rfl ?_
    rw [e3 N _ hN]
    refine z_auto rfl ?_
    exact z_rt rfl (hq N (by rw [List.append_assoc] at hN; exact hN))
  refine z_auto rfl ?_
  rw [e2]
  rcases n_7 hk with rfl | rfl | rfl | rfl | rfl | rfl | rfl
  · refine z_auto rfl ?_
    refine z_jp rfl ?_
    refine z_auto rfl ?_
    refine z_cl rfl (top _ J L hJ (by omega) (fun K hK => ?_))
    refine z_auto rfl ?_
    exact z_rt rfl (h K hK)
  · refine z_auto rfl ?_
    refine z_jp rfl ?_
    refine z_auto rfl ?_
    refine z_cl rfl (top _ J L hJ (by omega) (fun K hK => ?_))
    refine z_auto rfl ?_
    exact z_rt rfl (h K hK)
  · refine z_auto rfl ?_
    refine z_jp rfl ?_
    refine z_auto rfl ?_
    refine z_cl rfl (s_begin (b := 21) hJ (by omega) (fun K hK => ?_))
    refine z_auto rfl ?_
    refine z_cl rfl (top _ K _ hK (by rw [List.length_append, List.length_singleton]; omega) (fun M hM => ?_))
    refine z_auto rfl ?_
    exact z_rt rfl (h M (by rw [List.append_assoc] at hM; exact hM))
  · refine z_auto rfl ?_
    refine z_jp rfl ?_
    refine z_auto rfl ?_
    refine z_cl rfl (top _ J L hJ (by omega) (fun K hK => ?_))
    refine z_auto rfl ?_
    exact z_rt rfl (h K hK)
  · refine z_auto rfl ?_
    refine z_jp rfl ?_
    refine z_auto rfl ?_
    refine z_cl rfl (top _ J L hJ (by omega) (fun K hK => ?_))
    refine z_auto rfl ?_
    exact z_rt rfl (h K hK)
  · refine z_auto rfl ?_
    refine z_jp rfl ?_
    refine z_auto rfl ?_
    refine z_cl rfl (s_begin (b := 21) hJ (by omega) (fun K hK => ?_))
    refine z_auto rfl ?_
    refine z_cl rfl (top _ K _ hK (by rw [List.length_append, List.length_singleton]; omega) (fun M hM => ?_))
    refine z_auto rfl ?_
    exact z_rt rfl (h M (by rw [List.append_assoc] at hM; exact hM))
  · refine z_auto rfl ?_
    refine z_jp rfl ?_
    refine z_auto rfl ?_
    refine z_cl rfl (s_begin (b := 61) hJ (by omega) (fun K hK => ?_))
    refine z_auto rfl ?_
    refine z_cl rfl (top _ K _ hK (by rw [List.length_append, List.length_singleton]; omega) (fun M hM => ?_))
    refine z_auto rfl ?_
    rw [e3 M _ hM]
    refine z_auto rfl ?_
    exact z_rt rfl (h M (by rw [List.append_assoc] at hM; exact hM))
set_option maxHeartbeats 4000000 in
set_option maxRecDepth 100000 in
theorem m_takes {J : zMI} {L : List Nat} {kd : Nat} {x m v : Int32} (hJ : zTm I J L) (hl : L.length ≤ 5) (hk : kd ≤ 6) (h2 : I 10 0 23 = nI kd) (h3 : I 10 0 25 = v) (h4 : I 10 0 24 = m) (h : ∀ K, zTm I K (L ++ fTa kd) → Q (some (zi (vTa kd x m v))) K (zRR rl rs)) : zWm (d + 4) 166 [zr 10 0, zi x] J (zRR rl rs) Q := by
  have e2 : ∀ K L, zTm I K L → K 10 0 23 = nI kd := fun K L hK => (hK.1 10 0 23 (by decide) (by decide)).trans h2
  have e3 : ∀ K L, zTm I K L → K 10 0 25 = v := fun K L hK => (hK.1 10 0 25 (by decide) (by decide)).trans h3
  have top : ∀ (Q : zPQ) (K : zMI) (L : List Nat), zTm I K L → L.length ≤ 8 → (∀ M, zTm I M (L ++ 2 :: fGi kd) → Q (some (zi (vGi kd x m - v))) M (zRR rl rs)) → zWm (d + 3) 165 [zr 10 0, zi x] K (zRR rl rs) Q := by
    intro Q K L hK hl hq
    refine z_auto rfl ?_
    refine z_cl rfl (m_ran (b := 2) hK (by omega) (fun M hM => ?_))
    refine z_auto rfl ?_
    refine z_cl rfl (m_gives hM (by rw [List.length_append, List.length_singleton]; omega) hk h2 h4 (fun N hN => ?_))
    refine z_auto rfl ?_
    rw [e3 N _ hN]
    refine z_auto rfl ?_
    exact z_rt rfl (hq N (by rw [List.append_assoc] at hN; exact hN))
  refine z_auto rfl ?_
  rw [e2 J L hJ]
  refine z_auto rfl ?_
  refine z_cl rfl (m_isUnder hk (k := 2) (by decide) ?_)
  rcases n_7 hk with rfl | rfl | rfl | rfl | rfl | rfl | rfl
  · refine z_auto rfl ?_
    refine z_jp rfl ?_
    refine z_auto rfl ?_
    rw [e2 J L hJ]
    refine z_auto rfl ?_
    refine z_jp rfl ?_
    refine z_auto rfl ?_
    refine z_cl rfl (top _ J L hJ (by omega) (fun K hK => ?_))
    refine z_auto rfl ?_
    exact z_rt rfl (h K hK)
  · refine z_auto rfl ?_
    refine z_jp rfl ?_
    refine z_auto rfl ?_
    rw [e2 J L hJ]
    refine z_auto rfl ?_
    refine z_jp rfl ?_
    refine z_auto rfl ?_
    refine z_cl rfl (top _ J L hJ (by omega) (fun K hK => ?_))
    refine z_auto rfl ?_
    exact z_rt rfl (h K hK)
  · refine z_auto rfl ?_
    refine z_st rfl ?_
    refine z_auto rfl ?_
    refine z_cl rfl (m_ran (b := 21) hJ (by omega) (fun K hK => ?_))
    refine z_auto rfl ?_
    refine z_cl rfl (top _ K _ hK (by rw [List.length_append, List.length_singleton]; omega) (fun M hM => ?_))
    refine z_auto rfl ?_
    exact z_rt rfl (h M (by rw [List.append_assoc] at hM; exact hM))
  · refine z_auto rfl ?_
    refine z_jp rfl ?_
    refine z_auto rfl ?_
    rw [e2 J L hJ]
    refine z_auto rfl ?_
    refine z_jp rfl ?_
    refine z_auto rfl ?_
    refine z_cl rfl (top _ J L hJ (by omega) (fun K hK => ?_))
    refine z_auto rfl ?_
    exact z_rt rfl (h K hK)
  · refine z_auto rfl ?_
    refine z_jp rfl ?_
    refine z_auto rfl ?_
    rw [e2 J L hJ]
    refine z_auto rfl ?_
    refine z_jp rfl ?_
    refine z_auto rfl ?_
    refine z_cl rfl (top _ J L hJ (by omega) (fun K hK => ?_))
    refine z_auto rfl ?_
    exact z_rt rfl (h K hK)
  · refine z_auto rfl ?_
    refine z_st rfl ?_
    refine z_auto rfl ?_
    refine z_cl rfl (m_ran (b := 21) hJ (by omega) (fun K hK => ?_))
    refine z_auto rfl ?_
    refine z_cl rfl (top _ K _ hK (by rw [List.length_append, List.length_singleton]; omega) (fun M hM => ?_))
    refine z_auto rfl ?_
    exact z_rt rfl (h M (by rw [List.append_assoc] at hM; exact hM))
  · refine z_auto rfl ?_
    refine z_jp rfl ?_
    refine z_auto rfl ?_
    rw [e2 J L hJ]
    refine z_auto rfl ?_
    refine z_st rfl ?_
    refine z_auto rfl ?_
    refine z_cl rfl (m_ran (b := 61) hJ (by omega) (fun K hK => ?_))
    refine z_auto rfl ?_
    refine z_cl rfl (top _ K _ hK (by rw [List.length_append, List.length_singleton]; omega) (fun M hM => ?_))
    refine z_auto rfl ?_
    rw [e3 M _ hM]
    refine z_auto rfl ?_
    exact z_rt rfl (h M (by rw [List.append_assoc] at hM; exact hM))
end
