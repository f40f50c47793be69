/-! count, trace -/
theorem n_lay2 (x : Int32) (n : Nat) : (∃ l, l < n ∧ x = nI l) ∨ (x < 0 ∨ nI n ≤ x) := by
  by_cases c : x < 0
  · exact Or.inr (Or.inl c)
  · obtain ⟨f, hf, rfl⟩ := nI_of c
    rcases Nat.lt_or_ge f n with q | q
    · exact Or.inl ⟨f, q, rfl⟩
    · exact Or.inr (Or.inr (nI_le q hf))
section
variable {d : Nat} {I : zMI} {rl rs : Option (Nat × Nat)} {Q : zPQ} {G : zMR} {n k t : Nat} {C : List zCl}
theorem m_in_z {x : Int32} {n : Nat} (hn : n < 2147483647) (h1 : ∀ l, l < n → x = nI l → Q (some (zi 1)) I G) (h0 : (x < 0 ∨ nI n ≤ x) → Q (some (zi 0)) I G) : zWm d 109 [zi x, zi 0, zi (nI n - 1)] I G Q := by
  rcases n_lay2 x n with ⟨l, hl, rfl⟩ | hx
  · obtain ⟨m, rfl⟩ : ∃ m, n = m + 1 := ⟨n - 1, by omega⟩
    rw [nI_succ, Int32.add_sub_cancel]
    exact m_in_y (lo := 0) (Nat.zero_le _) (by omega) (by omega) (h1 l hl rfl)
  · refine m_in_n ?_ (h0 hx)
    rcases hx with q | q
    · exact Or.inl q
    · rcases n with _ | n
      · exact Or.inr (Int32.lt_of_lt_of_le (by decide) q)
      · rw [show nI (n + 1) - 1 = nI n by rw [nI_succ, Int32.add_sub_cancel]]
        exact Or.inr (n_gt (by omega) q)
set_option maxHeartbeats 4000000 in
set_option maxRecDepth 100000 in
theorem p_trace (x1 : Int32) : zPr 88 170 [zi x1] := by
  intro d I rl rs hR
  have hR0 := hR
  obtain ⟨n, k, t, -, -, -, ⟨r, r1, r2, r3, r4⟩, -, -⟩ := hR0
  have mr : ∀ v : Int32, (∀ l, l < r → l < 20 → x1 = nI l → v = I 35 0 l) → ((x1 < 0 ∨ nI r ≤ x1 ∨ 20 ≤ x1) → v = -1) → ∀ rl' rs', zWm (d + 12) 170 [zr 10 0, zi x1] I (zRR rl' rs') (fun v2 I2 G2 => some (zi v) = v2 ∧ zRel I2 ∧ ∃ rl2 rs2, G2 = zRR rl2 rs2) := by
    intro v h1 h0 rl' rs'
    have nx : ∀ m : Nat, m < 2147483647 → (m ≤ r ∧ m ≤ 20 ∧ (m = r ∨ m = 20)) → zW (d + 12) kX10_trace (zblk kX10_trace 2) [some (zr 10 0), some (zi x1)] [zi (nI m), zi 0, zi x1] I (zRR rl' rs') (fun v2 I2 G2 => some (zi v) = v2 ∧ zRel I2 ∧ ∃ rl2 rs2, G2 = zRR rl2 rs2) := by
      intro m hm hm2
      refine z_auto rfl ?_
      refine z_cl rfl (m_in_z hm (fun l hl e => ?_) (fun hx => ?_))
      · have e1 := h1 l (by omega) (by omega) e
        subst e
        refine z_auto rfl ?_
        refine z_st rfl ?_
        refine z_auto rfl ?_
        refine z_ald (k := l) rfl rfl (by show l < 20; omega) ?_
        refine z_auto rfl ?_
        refine z_jp rfl ?_
        refine z_auto rfl ?_
        exact z_rt rfl (zPr_o2 (by rw [e1, r4 l (by omega) (by omega)]) hR)
      · have e1 := h0 (by
          rcases hx with q | q
          · exact Or.inl q
          · rcases hm2.2.2 with p | p
            · subst p; exact Or.inr (Or.inl q)
            · subst p; exact Or.inr (Or.inr q))
        refine z_auto rfl ?_
        refine z_jp rfl ?_
        refine z_auto rfl ?_
        refine z_jp rfl ?_
        refine z_auto rfl ?_
        exact z_rt rfl (zPr_o2 (by rw [e1]) hR)
    refine z_auto rfl ?_
    refine z_br rfl (fun c => ?_) (fun c => ?_)
    · rw [r3] at c
      have : 20 ≤ r := by
        apply Classical.byContradiction
        intro q
        exact absurd c (Int32.not_le.mpr (nI_lt (a := r) (b := 20) (by omega) (by decide)))
      refine z_auto rfl ?_
      refine z_jp rfl ?_
      exact nx 20 (by decide) ⟨this, by decide, Or.inr rfl⟩
    · rw [r3] at c
      have : ¬ 20 ≤ r := fun q => c (nI_le q r1)
      refine z_auto rfl ?_
      rw [r3]
      refine z_auto rfl ?_
      refine z_jp rfl ?_
      exact nx r (by omega) ⟨by omega, by omega, Or.inl rfl⟩
  refine z_auto rfl ?_
  refine z_br rfl (fun c => ?_) (fun c => ?_)
  · refine z_auto rfl ?_
    exact z_rt rfl (zPr_i (mr _ (fun l h1 h2 e => absurd c (by rw [e]; exact nI_pos (by omega))) (fun _ => rfl)))
  · refine z_auto rfl ?_
    refine z_br rfl (fun c2 => ?_) (fun c2 => ?_)
    · rw [r2] at c2
      refine z_auto rfl ?_
      exact z_rt rfl (zPr_i (mr _ (fun l h1 h2 e => absurd c2 (by rw [e]; exact Int32.not_le.mpr (nI_lt h1 r1))) (fun _ => rfl)))
    · rw [r2] at c2
      refine z_auto rfl ?_
      refine z_br rfl (fun c3 => ?_) (fun c3 => ?_)
      · obtain ⟨l, hl, rfl⟩ := nI_of c
        have hl20 : l < 20 := by
          apply Classical.byContradiction
          intro q
          exact absurd c3 (Int32.not_lt.mpr (nI_le (a := 20) (b := l) (by omega) hl))
        refine z_auto rfl ?_
        refine z_ald (k := l) rfl rfl (by show l < 20; omega) ?_
        have hlr : l < r := by
          apply Classical.byContradiction
          intro q
          exact c2 (nI_le (by omega) hl)
        refine z_auto rfl ?_
        exact z_rt rfl (zPr_i (mr _ (fun l' h1 h2 e => by rw [(nI_eq (a := l) (b := l') hl (by omega)).mp e]) (fun q => absurd q (by
          rintro (q | q | q)
          · exact nI_pos hl q
          · exact c2 q
          · exact absurd c3 (Int32.not_lt.mpr q)))))
      · refine z_auto rfl ?_
        refine z_jp rfl ?_
        refine z_auto rfl ?_
        exact z_rt rfl (zPr_i (mr _ (fun l h1 h2 e => absurd (by rw [e]; exact nI_lt (b := 20) h2 (by decide)) c3) (fun _ => rfl)))
end
