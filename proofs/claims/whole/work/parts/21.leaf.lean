/-! leaves: Layers, Egg, Tape, Sheet, School, Fall -/
/-- the weight of the first n layers that are not left out -/
def zww (w : Nat → Int32) (set : Int32) : Nat → Int32
  | 0 => 0
  | n + 1 => if (set >>> (nI n &&& 31)) &&& 1 = 0 then zww w set n + w n else zww w set n
section
variable {d : Nat} {I : zMI} {rl rs : Option (Nat × Nat)} {Q : zPQ}
set_option maxHeartbeats 4000000 in
set_option maxRecDepth 100000 in
theorem s_has {x : Int32} {n : Nat} (hn : I 4 0 7 = nI n) (h8 : n ≤ 8) (h1 : ∀ k, k < n → x = nI k → Q (some (zi 1)) I (zRR rl rs)) (h0 : (x < 0 ∨ nI n ≤ x) → Q (some (zi 0)) I (zRR rl rs)) : zWm d 28 [zr 4 0, zi x] I (zRR rl rs) Q := by
  refine z_auto rfl ?_
  refine z_br rfl (fun c => ?_) (fun c => ?_)
  · refine z_auto rfl ?_
    refine z_jp rfl ?_
    refine z_auto rfl ?_
    exact z_rt rfl (h0 (Or.inl c))
  · refine z_auto rfl ?_
    refine z_br rfl (fun c2 => ?_) (fun c2 => ?_)
    · refine z_auto rfl ?_
      refine z_jp rfl ?_
      refine z_auto rfl ?_
      exact z_rt rfl (h0 (Or.inr (by rw [hn] at c2; exact c2)))
    · obtain ⟨k, hk, rfl⟩ := nI_of c
      rw [hn] at c2
      have hkn : k < n := by
        rcases Nat.lt_or_ge k n with q | q
        · exact q
        · exact absurd (nI_le q (by omega)) c2
      refine z_auto rfl ?_
      refine z_br rfl (fun c3 => ?_) (fun c3 => ?_)
      · exact absurd c3 (nI_ge (a := k) (b := 8) (by omega) (by omega))
      · refine z_auto rfl ?_
        refine z_jp rfl ?_
        refine z_auto rfl ?_
        exact z_rt rfl (h1 k hkn rfl)
set_option maxHeartbeats 4000000 in
set_option maxRecDepth 100000 in
theorem s_isBroken {x : Int32} (h1 : (I 4 0 6 >>> (x &&& 31)) &&& 1 = 1 → Q (some (zi 1)) I (zRR rl rs)) (h0 : ¬ (I 4 0 6 >>> (x &&& 31)) &&& 1 = 1 → Q (some (zi 0)) I (zRR rl rs)) : zWm d 29 [zr 4 0, zi x] I (zRR rl rs) Q := by
  refine z_auto rfl ?_
  refine z_br rfl (fun c => ?_) (fun c => ?_)
  · refine z_auto rfl ?_
    refine z_jp rfl ?_
    refine z_auto rfl ?_
    exact z_rt rfl (h0 c)
  · refine z_auto rfl ?_
    refine z_jp rfl ?_
    refine z_auto rfl ?_
    exact z_rt rfl (h1 (Classical.not_not.mp c))
set_option maxHeartbeats 4000000 in
set_option maxRecDepth 100000 in
theorem s_allBits (h : Q (some (zi ((1 <<< (I 4 0 7 &&& 31)) - 1))) I (zRR rl rs)) : zWm d 30 [zr 4 0] I (zRR rl rs) Q := by
  refine z_auto rfl ?_
  exact z_rt rfl h
set_option maxHeartbeats 4000000 in
set_option maxRecDepth 100000 in
theorem s_add {kd v th w sd : Int32} {n : Nat} (hn : I 4 0 7 = nI n) (h8 : n ≤ 8) (hf : n = 8 → Q (some (zi (-4))) I (zRR rl rs)) (h : n < 8 → Q (some (zi (nI n))) (zup (zup (zup (zup (zup (zup I 20 0 n kd) 21 0 n v) 22 0 n th) 23 0 n w) 24 0 n sd) 4 0 7 (nI (n + 1))) (zRR rl rs)) : zWm d 31 [zr 4 0, zi kd, zi v, zi th, zi w, zi sd] I (zRR rl rs) Q := by
  refine z_auto rfl ?_
  refine z_br rfl (fun c => ?_) (fun c => ?_)
  · rw [hn] at c
    exact absurd c (nI_pos (by omega))
  · refine z_auto rfl ?_
    refine z_br rfl (fun c2 => ?_) (fun c2 => ?_)
    · rw [hn] at c2
      have hlt : n < 8 := (nI_ltI (a := n) (b := 8) (by omega) (by omega)).mp c2
      refine z_auto rfl ?_
      refine z_ast (k := n) rfl hn (by show n < 8; omega) ?_
      refine z_auto rfl ?_
      refine z_ast (k := n) rfl hn (by show n < 8; omega) ?_
      refine z_auto rfl ?_
      refine z_ast (k := n) rfl hn (by show n < 8; omega) ?_
      refine z_auto rfl ?_
      refine z_ast (k := n) rfl hn (by show n < 8; omega) ?_
      refine z_auto rfl ?_
      refine z_ast (k := n) rfl hn (by show n < 8; omega) ?_
      have h' := h hlt
      have e : zup (zup (zup (zup (zup I 20 0 n kd) 21 0 n v) 22 0 n th) 23 0 n w) 24 0 n sd 4 0 7 + 1 = nI (n + 1) := by
        rw [zup_c (by decide), zup_c (by decide), zup_c (by decide), zup_c (by decide), zup_c (by decide), hn]
        exact nI_1 n
      rw [← e, ← hn] at h'
      refine z_auto rfl ?_
      exact z_rt rfl h'
    · rw [hn] at c2
      have hn8 : n = 8 := by
        have : ¬ n < 8 := fun q => c2 ((nI_ltI (a := n) (b := 8) (by omega) (by omega)).mpr q)
        omega
      refine z_auto rfl ?_
      refine z_jp rfl ?_
      refine z_auto rfl ?_
      exact z_rt rfl (hf hn8)
set_option maxHeartbeats 4000000 in
set_option maxRecDepth 100000 in
theorem s_mark {x b : Int32} (h1 : ¬ b = 0 → Q none (zup I 4 0 6 (I 4 0 6 ||| (1 <<< (x &&& 31)))) (zRR rl rs)) (h0 : b = 0 → Q none (zup I 4 0 6 (I 4 0 6 &&& ((1 <<< (x &&& 31)) ^^^ (-1)))) (zRR rl rs)) : zWm d 32 [zr 4 0, zi x, zi b] I (zRR rl rs) Q := by
  refine z_auto rfl ?_
  refine z_br rfl (fun c => ?_) (fun c => ?_)
  · refine z_auto rfl ?_
    refine z_jp rfl ?_
    refine z_auto rfl ?_
    exact z_rt rfl (h0 c)
  · refine z_auto rfl ?_
    refine z_jp rfl ?_
    refine z_auto rfl ?_
    exact z_rt rfl (h1 c)
set_option maxHeartbeats 4000000 in
set_option maxRecDepth 100000 in
theorem s_renew {i : Nat} (h : Q none (zup (zup I 2 i 0 0) 2 i 1 1) (zRR rl rs)) : zWm d 12 [zr 2 i] I (zRR rl rs) Q := by
  refine z_auto rfl ?_
  first | refine z_st rfl ?_ | refine z_ck rfl (by decide) ?_
  refine z_auto rfl ?_
  exact z_rt rfl h
/-- what an egg bears, by its cracks -/
def zbr (b cr : Int32) : Int32 := if 0 < b - 3 * cr then b - 3 * cr else 0
set_option maxHeartbeats 4000000 in
set_option maxRecDepth 100000 in
theorem s_land {i : Nat} {f b : Int32} (h0 : I 2 i 1 = 0 → Q none I (zRR rl rs)) (h1 : ¬ I 2 i 1 = 0 → ¬ f ≤ zbr b (I 2 i 0) → Q none (zup I 2 i 1 0) (zRR rl rs)) (h2 : ¬ I 2 i 1 = 0 → f ≤ zbr b (I 2 i 0) → ¬ 2 * f ≤ zbr b (I 2 i 0) → Q none (zup I 2 i 0 (I 2 i 0 + 1)) (zRR rl rs)) (h3 : ¬ I 2 i 1 = 0 → f ≤ zbr b (I 2 i 0) → 2 * f ≤ zbr b (I 2 i 0) → Q none I (zRR rl rs)) : zWm d 13 [zr 2 i, zi f, zi b] I (zRR rl rs) Q := by
  refine z_auto rfl ?_
  refine z_br rfl (fun c => ?_) (fun c => ?_)
  · refine z_auto rfl ?_
    refine z_br rfl (fun c2 => ?_) (fun c2 => ?_)
    · refine z_auto rfl ?_
      refine z_br rfl (fun c3 => ?_) (fun c3 => ?_)
      · refine z_auto rfl ?_
        exact z_rt rfl (h3 c c2 c3)
      · refine z_auto rfl ?_
        refine z_jp rfl ?_
        refine z_auto rfl ?_
        exact z_rt rfl (h2 c c2 c3)
    · refine z_auto rfl ?_
      first | refine z_st rfl ?_ | refine z_ck rfl (by decide) ?_
      refine z_auto rfl ?_
      refine z_jp rfl ?_
      refine z_auto rfl ?_
      exact z_rt rfl (h1 c c2)
  · refine z_auto rfl ?_
    exact z_rt rfl (h0 (Classical.not_not.mp c))
set_option maxHeartbeats 4000000 in
set_option maxRecDepth 100000 in
theorem s_put {i n : Nat} {x : Int32} (hn : I 8 i 1 = nI n) (h8 : n ≤ 100) (hf : n = 100 → Q (some (zi 0)) I (zRR rl rs)) (h : n < 100 → Q (some (zi 1)) (zup (zup I 29 i n x) 8 i 1 (nI (n + 1))) (zRR rl rs)) : zWm d 61 [zr 8 i, zi x] I (zRR rl rs) Q := by
  refine z_auto rfl ?_
  refine z_br rfl (fun c => ?_) (fun c => ?_)
  · rw [hn] at c
    exact absurd c (nI_pos (by omega))
  · refine z_auto rfl ?_
    refine z_br rfl (fun c2 => ?_) (fun c2 => ?_)
    · rw [hn] at c2
      have hlt : n < 100 := (nI_ltI (a := n) (b := 100) (by omega) (by omega)).mp c2
      refine z_auto rfl ?_
      refine z_ast (k := n) rfl hn (by show n < 100; omega) ?_
      have h' := h hlt
      have e : zup I 29 i n x 8 i 1 + 1 = nI (n + 1) := by
        rw [zup_c (by decide), hn]
        exact nI_1 n
      rw [← e] at h'
      refine z_auto rfl ?_
      exact z_rt rfl h'
    · rw [hn] at c2
      have hn8 : n = 100 := by
        have : ¬ n < 100 := fun q => c2 ((nI_ltI (a := n) (b := 100) (by omega) (by omega)).mpr q)
        omega
      refine z_auto rfl ?_
      refine z_jp rfl ?_
      refine z_auto rfl ?_
      exact z_rt rfl (hf hn8)
set_option maxHeartbeats 4000000 in
set_option maxRecDepth 100000 in
theorem s_sadd {i n : Nat} {x y z : Int32} (hn : I 7 i 3 = nI n) (h8 : n ≤ 8) (hf : n = 8 → Q (some (zi 0)) I (zRR rl rs)) (h : n < 8 → Q (some (zi 1)) (zup (zup (zup (zup I 26 i n x) 27 i n y) 28 i n z) 7 i 3 (nI (n + 1))) (zRR rl rs)) : zWm d 58 [zr 7 i, zi x, zi y, zi z] I (zRR rl rs) Q := by
  refine z_auto rfl ?_
  refine z_br rfl (fun c => ?_) (fun c => ?_)
  · rw [hn] at c
    exact absurd c (nI_pos (by omega))
  · refine z_auto rfl ?_
    refine z_br rfl (fun c2 => ?_) (fun c2 => ?_)
    · rw [hn] at c2
      have hlt : n < 8 := (nI_ltI (a := n) (b := 8) (by omega) (by omega)).mp c2
      refine z_auto rfl ?_
      refine z_ast (k := n) rfl hn (by show n < 8; omega) ?_
      refine z_auto rfl ?_
      refine z_ast (k := n) rfl (by rw [zup_c (by decide)]; exact hn) (by show n < 8; omega) ?_
      refine z_auto rfl ?_
      refine z_ast (k := n) rfl (by rw [zup_c (by decide), zup_c (by decide)]; exact hn) (by show n < 8; omega) ?_
      have h' := h hlt
      have e : zup (zup (zup I 26 i n x) 27 i n y) 28 i n z 7 i 3 + 1 = nI (n + 1) := by
        rw [zup_c (by decide), zup_c (by decide), zup_c (by decide), hn]
        exact nI_1 n
      rw [← e] at h'
      refine z_auto rfl ?_
      exact z_rt rfl h'
    · rw [hn] at c2
      have hn8 : n = 8 := by
        have : ¬ n < 8 := fun q => c2 ((nI_ltI (a := n) (b := 8) (by omega) (by omega)).mpr q)
        omega
      refine z_auto rfl ?_
      refine z_jp rfl ?_
      refine z_auto rfl ?_
      exact z_rt rfl (hf hn8)
set_option maxHeartbeats 4000000 in
set_option maxRecDepth 100000 in
theorem s_weight {n : Nat} {set : Int32} (hn : I 4 0 7 = nI n) (h8 : n ≤ 8) (h : Q (some (zi (zww (I 23 0) set n))) I (zRR rl rs)) : zWm d 33 [zr 4 0, zi set] I (zRR rl rs) Q := by
  have loop : ∀ k j, j + k = n → zW d kX4_weightWithout (zblk kX4_weightWithout 1) [some (zr 4 0), some (zi set), some (zi (zww (I 23 0) set j)), some (zi (nI j))] [] I (zRR rl rs) Q := by
    intro k
    induction k with
    | zero =>
      intro j hj
      refine z_auto rfl ?_
      refine z_br rfl (fun c => ?_) (fun c => ?_)
      · have : j = n := by omega
        subst this
        refine z_auto rfl ?_
        exact z_rt rfl h
      · exact absurd (by rw [hn]; exact nI_le (by omega) (by omega)) c
    | succ k ih =>
      intro j hj
      refine z_auto rfl ?_
      refine z_br rfl (fun c => ?_) (fun c => ?_)
      · rw [hn] at c
        exact absurd c (nI_ge (by omega) (by omega))
      · refine z_auto rfl ?_
        refine z_br rfl (fun c => ?_) (fun c => ?_)
        · exact absurd c (nI_ge (a := j) (b := 8) (by omega) (by omega))
        · have h2 := ih (j + 1) (by omega)
          rw [zww, nI_succ] at h2
          refine z_auto rfl ?_
          refine z_br rfl (fun c => ?_) (fun c => ?_)
          · rw [if_neg c] at h2
            refine z_auto rfl ?_
            refine z_jp rfl ?_
            exact h2
          · rw [if_pos (Classical.not_not.mp c)] at h2
            refine z_auto rfl ?_
            refine z_ald (k := j) rfl rfl (by show j < 8; omega) ?_
            refine z_auto rfl ?_
            refine z_jp rfl ?_
            refine z_auto rfl ?_
            refine z_jp rfl ?_
            exact h2
  refine z_auto rfl ?_
  refine z_jp rfl ?_
  exact loop n 0 (by omega)
end
