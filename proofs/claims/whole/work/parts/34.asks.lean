/-! small askings, both sides: yes and no -/
theorem n_no {f m : Nat} (hf : f ≤ m) (hm : m < 2147483648) : ¬ (nI f < 0 ∨ nI m < nI f) := by
  intro h
  rcases h with h | h
  · exact nI_pos (by omega) h
  · exact absurd h (Int32.not_lt.mpr (nI_le hf hm))
theorem n_cases (x : Int32) (m : Nat) (hm : m < 2147483648) : (∃ f, f ≤ m ∧ x = nI f) ∨ (x < 0 ∨ nI m < x) := by
  by_cases c : x < 0
  · exact Or.inr (Or.inl c)
  · obtain ⟨f, hf, rfl⟩ := nI_of c
    rcases Nat.lt_or_ge m f with q | q
    · exact Or.inr (Or.inr (nI_lt q hf))
    · exact Or.inl ⟨f, q, rfl⟩
theorem n_ge {x : Int32} {n : Nat} (hn : n < 2147483647) (h : nI n < x) : nI (n + 1) ≤ x := by
  by_cases c : x < 0
  · exact absurd (Int32.lt_trans h c) (nI_pos (by omega))
  · obtain ⟨f, hf, rfl⟩ := nI_of c
    apply nI_le _ hf
    apply Classical.byContradiction
    intro q
    exact absurd h (Int32.not_lt.mpr (nI_le (by omega) (by omega)))
theorem n_gt {x : Int32} {n : Nat} (hn : n < 2147483647) (h : nI (n + 1) ≤ x) : nI n < x := Int32.lt_of_lt_of_le (nI_lt (by omega) (by omega)) h
theorem n_l0 {x : Int32} (h : (0 : Int32) ≤ x) : ¬ x < 0 := Int32.not_lt.mpr h
section
variable {d : Nat} {I : zMI} {rl rs : Option (Nat × Nat)} {Q : zPQ} {G : zMR}
set_option maxHeartbeats 4000000 in
set_option maxRecDepth 100000 in
theorem m_in_y {a lo hi : Nat} (h1 : lo ≤ a) (h2 : a ≤ hi) (hh : hi < 2147483648) (h : Q (some (zi 1)) I G) : zWm d 109 [zi (nI a), zi (nI lo), zi (nI hi)] I G Q := by
  refine z_auto rfl ?_
  refine z_br rfl (fun c => ?_) (fun c => ?_)
  · exact absurd c (Int32.not_lt.mpr (nI_le h1 (by omega)))
  · refine z_auto rfl ?_
    refine z_br rfl (fun c2 => ?_) (fun c2 => ?_)
    · exact absurd c2 (Int32.not_lt.mpr (nI_le h2 hh))
    · refine z_auto rfl ?_
      refine z_jp rfl ?_
      refine z_auto rfl ?_
      exact z_rt rfl h
set_option maxHeartbeats 4000000 in
set_option maxRecDepth 100000 in
theorem m_in_n {x lo hi : Int32} (hx : x < lo ∨ hi < x) (h : Q (some (zi 0)) I G) : zWm d 109 [zi x, zi lo, zi hi] I G Q := by
  refine z_auto rfl ?_
  refine z_br rfl (fun c => ?_) (fun c => ?_)
  · refine z_auto rfl ?_
    refine z_jp rfl ?_
    refine z_auto rfl ?_
    exact z_rt rfl h
  · refine z_auto rfl ?_
    refine z_br rfl (fun c2 => ?_) (fun c2 => ?_)
    · refine z_auto rfl ?_
      refine z_jp rfl ?_
      refine z_auto rfl ?_
      exact z_rt rfl h
    · rcases hx with q | q
      · exact absurd q c
      · exact absurd q c2
set_option maxHeartbeats 4000000 in
set_option maxRecDepth 100000 in
theorem m_isFloor_y {f : Nat} (hf : f ≤ 20) (h : Q (some (zi 1)) I G) : zWm (d + 1) 112 [zi (nI f)] I G Q := by
  refine z_auto rfl ?_
  refine z_cl rfl (m_in_y (lo := 0) (hi := 20) (Nat.zero_le _) hf (by decide) ?_)
  refine z_auto rfl ?_
  exact z_rt rfl h
set_option maxHeartbeats 4000000 in
set_option maxRecDepth 100000 in
theorem m_isFloor_n {x : Int32} (hx : x < 0 ∨ 20 < x) (h : Q (some (zi 0)) I G) : zWm (d + 1) 112 [zi x] I G Q := by
  refine z_auto rfl ?_
  refine z_cl rfl (m_in_n hx ?_)
  refine z_auto rfl ?_
  exact z_rt rfl h
set_option maxHeartbeats 4000000 in
set_option maxRecDepth 100000 in
theorem m_isSide_y {f : Nat} (hf : f ≤ 3) (h : Q (some (zi 1)) I G) : zWm (d + 1) 111 [zi (nI f)] I G Q := by
  refine z_auto rfl ?_
  refine z_cl rfl (m_in_y (lo := 0) (hi := 3) (Nat.zero_le _) hf (by decide) ?_)
  refine z_auto rfl ?_
  exact z_rt rfl h
set_option maxHeartbeats 4000000 in
set_option maxRecDepth 100000 in
theorem m_isSide_n {x : Int32} (hx : x < 0 ∨ 3 < x) (h : Q (some (zi 0)) I G) : zWm (d + 1) 111 [zi x] I G Q := by
  refine z_auto rfl ?_
  refine z_cl rfl (m_in_n hx ?_)
  refine z_auto rfl ?_
  exact z_rt rfl h
theorem c_isFloor_y {f : Nat} (hf : f ≤ 20) (h : Q (some (zi 1)) I G) : zWm d 93 [zi (nI f)] I G Q :=
  s_isFloor (fun _ _ _ => h) (fun q => absurd q (n_no hf (by decide)))
theorem c_isFloor_n {x : Int32} (hx : x < 0 ∨ 20 < x) (h : Q (some (zi 0)) I G) : zWm d 93 [zi x] I G Q :=
  s_isFloor (fun f hf e => absurd hx (by subst e; exact n_no hf (by decide))) (fun _ => h)
theorem c_isSide_y {f : Nat} (hf : f ≤ 3) (h : Q (some (zi 1)) I G) : zWm d 94 [zi (nI f)] I G Q :=
  s_isSide (fun _ _ _ => h) (fun q => absurd q (fun q => q.elim (nI_pos (by omega)) (fun q => absurd (n_gt (n := 3) (by decide) q) (Int32.not_lt.mpr (nI_le hf (by decide))))))
theorem c_isSide_n {x : Int32} (hx : x < 0 ∨ 3 < x) (h : Q (some (zi 0)) I G) : zWm d 94 [zi x] I G Q :=
  s_isSide (fun f hf e => absurd hx (by subst e; exact n_no (m := 3) (by omega) (by decide))) (fun _ => h)
theorem c_isKind_y {f : Nat} (hf : f ≤ 6) (h : Q (some (zi 1)) I G) : zWm d 95 [zi (nI f)] I G Q :=
  s_isKind (fun _ _ _ => h) (fun q => absurd q (fun q => q.elim (nI_pos (by omega)) (fun q => absurd (n_gt (n := 6) (by decide) q) (Int32.not_lt.mpr (nI_le hf (by decide))))))
theorem c_isKind_n {x : Int32} (hx : x < 0 ∨ 6 < x) (h : Q (some (zi 0)) I G) : zWm d 95 [zi x] I G Q :=
  s_isKind (fun f hf e => absurd hx (by subst e; exact n_no (m := 6) (by omega) (by decide))) (fun _ => h)
theorem c_has_y {n l : Nat} (hn : I 4 0 7 = nI n) (h8 : n ≤ 8) (hl : l < n) (h : Q (some (zi 1)) I (zRR rl rs)) : zWm d 28 [zr 4 0, zi (nI l)] I (zRR rl rs) Q :=
  s_has hn h8 (fun _ _ _ => h) (fun q => absurd q (fun q => q.elim (nI_pos (by omega)) (fun q => absurd (nI_lt (a := l) (b := n) hl (by omega)) (Int32.not_lt.mpr q))))
theorem c_has_n {n : Nat} {x : Int32} (hn : I 4 0 7 = nI n) (h8 : n ≤ 8) (hx : x < 0 ∨ nI n ≤ x) (h : Q (some (zi 0)) I (zRR rl rs)) : zWm d 28 [zr 4 0, zi x] I (zRR rl rs) Q :=
  s_has hn h8 (fun f hf e => absurd hx (by subst e; exact fun q => q.elim (nI_pos (by omega)) (fun q => absurd (nI_lt (a := f) (b := n) hf (by omega)) (Int32.not_lt.mpr q)))) (fun _ => h)
set_option maxHeartbeats 4000000 in
set_option maxRecDepth 100000 in
theorem m_isLayer_y {n l : Nat} (hn : I 40 0 0 = nI n) (h8 : n ≤ 8) (hl : l < n) (h : Q (some (zi 1)) I (zRR rl rs)) : zWm (d + 1) 110 [zr 10 0, zi (nI l)] I (zRR rl rs) Q := by
  have e : nI n - 1 = nI (n - 1) := by
    obtain ⟨m, rfl⟩ : ∃ m, n = m + 1 := ⟨n - 1, by omega⟩
    rw [nI_succ, Int32.add_sub_cancel]
    rfl
  refine z_auto rfl ?_
  refine z_ald (k := 0) rfl rfl (by decide) ?_
  rw [hn]
  refine z_auto rfl ?_
  rw [e]
  refine z_cl rfl (m_in_y (lo := 0) (hi := n - 1) (Nat.zero_le _) (by omega) (by omega) ?_)
  refine z_auto rfl ?_
  exact z_rt rfl h
set_option maxHeartbeats 4000000 in
set_option maxRecDepth 100000 in
theorem m_isLayer_n {n : Nat} {x : Int32} (hn : I 40 0 0 = nI n) (h8 : n ≤ 8) (hx : x < 0 ∨ nI n ≤ x) (h : Q (some (zi 0)) I (zRR rl rs)) : zWm (d + 1) 110 [zr 10 0, zi x] I (zRR rl rs) Q := by
  refine z_auto rfl ?_
  refine z_ald (k := 0) rfl rfl (by decide) ?_
  rw [hn]
  refine z_auto rfl ?_
  refine z_cl rfl (m_in_n (by
    rcases hx with q | q
    · exact Or.inl q
    · rcases n with _ | n
      · exact Or.inr (Int32.lt_of_lt_of_le (by decide) q)
      · rw [show nI (n + 1) - 1 = nI n by rw [nI_succ, Int32.add_sub_cancel]]
        exact Or.inr (n_gt (by omega) q)) ?_)
  refine z_auto rfl ?_
  exact z_rt rfl h
theorem n_lay (x : Int32) (n : Nat) (hn : n ≤ 8) : (∃ l, l < n ∧ x = nI l) ∨ (x < 0 ∨ nI n ≤ x) := by
  by_cases c : x < 0
  · exact Or.inr (Or.inl c)
  · obtain ⟨f, hf, rfl⟩ := nI_of c
    rcases Nat.lt_or_ge f n with q | q
    · exact Or.inl ⟨f, q, rfl⟩
    · exact Or.inr (Or.inr (nI_le q hf))
end
