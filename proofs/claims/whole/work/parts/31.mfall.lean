/-! THE MODEL: a fall -/
def mLy (s : Nat → Int32) (tr : Nat) : Nat → Nat → Int32 := fun a k => match a with
  | 0 => s (10 + k)
  | 1 => s (18 + k)
  | 2 => s (26 + k)
  | 3 => s (42 + k)
  | _ => s (50 + k * 3 + tr % 3)
/-- layers within bounds -/
def zAb (A : Nat → Nat → Int32) (n : Nat) : Prop := ∀ k, k < n → ∃ v t r, v ≤ 99 ∧ t ≤ 99 ∧ r ≤ 99 ∧ A 1 k = nI v ∧ A 2 k = nI t ∧ A 4 k = nI r
theorem m_pos {a b : Int32} (ha : 0 ≤ a) (hb : 0 ≤ b) : (if 0 < a - b then a - b else 0) = if a ≤ b then 0 else a - b := by
  have h : (0 < a - b) ↔ ¬ a ≤ b := by
    rw [Int32.lt_iff_toInt_lt, Int32.le_iff_toInt_le, Int32.toInt_sub]
    rw [Int32.le_iff_toInt_le] at ha hb
    have h1 := Int32.toInt_lt a
    have h2 := Int32.toInt_lt b
    rw [show (0 : Int32).toInt = 0 from rfl] at *
    rw [Int.bmod_def]
    split <;> omega
  by_cases c : a ≤ b
  · rw [if_pos c, if_neg (fun q => h.mp q c)]
  · rw [if_neg c, if_pos (h.mpr c)]
theorem m_tk0 : ∀ v t r, v ≤ 99 → t ≤ 99 → r ≤ 99 → 0 ≤ nI t ∧ 0 ≤ 2 * nI t ∧ 0 ≤ 3 * nI t ∧ 0 ≤ 3 * nI t + nI v ∧ 0 ≤ nI t + nI r := by
  intro v t r hv ht hr
  have e2 : 2 * nI t = nI (t * 2) := by rw [Int32.mul_comm]; exact pk_mul t 2
  have e3 : 3 * nI t = nI (t * 3) := by rw [Int32.mul_comm]; exact pk_mul t 3
  rw [e2, e3, nI_add, nI_add]
  exact ⟨nI_pos' (by omega), nI_pos' (by omega), nI_pos' (by omega), nI_pos' (by omega), nI_pos' (by omega)⟩
theorem m_tk {kd v t fl l r : Int32} {V T R : Nat} (hv : V ≤ 99) (ht : T ≤ 99) (hr : R ≤ 99) (a1 : v = nI V) (a2 : t = nI T) (a4 : r = nI R) (hl : 0 ≤ l) : 0 ≤ ztak kd v t fl l r := by
  subst a1 a2 a4
  obtain ⟨h1, h2, h3, h4, h5⟩ := m_tk0 V T R hv ht hr
  have hcr : 0 ≤ zcr (nI T) l := by unfold zcr; split <;> assumption
  obtain ⟨L, hL, rfl⟩ := nI_of (Int32.not_lt.mpr hl)
  have hd : (nI L) / 2 = nI (L / 2) := pk_div (a := L) (d := 2) (by omega) (by omega) (by omega)
  have hhu : 0 ≤ zhu (nI T) (nI L) ∧ 0 ≤ zhu (nI T) (nI L) + nI R := by
    unfold zhu
    split
    · exact ⟨h1, h5⟩
    · rw [hd, nI_add]
      rename_i q
      have e10 : 10 * nI T = nI (T * 10) := by rw [Int32.mul_comm]; exact pk_mul T 10
      rw [e10] at q
      have : L ≤ T * 10 := by
        apply Classical.byContradiction
        intro p
        exact q (nI_lt (by omega) (by omega))
      exact ⟨nI_pos' (by omega), nI_pos' (by omega)⟩
  unfold ztak
  repeat' split
  all_goals first | assumption | exact hhu.1 | exact hhu.2 | decide
section
variable {d : Nat} {I : zMI} {rl rs : Option (Nat × Nat)} {Q : zPQ} {C : List zCl}
set_option maxHeartbeats 4000000 in
set_option maxRecDepth 100000 in
theorem m_weight {n : Nat} {set : Int32} (hn : I 40 0 0 = nI n) (h8 : n ≤ 8) (h : Q (some (zi (zww (fun k => I 40 0 (34 + k)) set n))) I (zRR rl rs)) : zWm d 136 [zr 10 0, zi set] I (zRR rl rs) Q := by
  have loop : ∀ k j, j + k = n → zW d kX10_weightBut (zblk kX10_weightBut 1) [some (zr 10 0), some (zi set), some (zi (zww (fun k => I 40 0 (34 + k)) set j)), some (zi (nI j))] [] I (zRR rl rs) Q := by
    intro k
    induction k with
    | zero =>
      intro j hj
      refine z_auto rfl ?_
      refine z_ald (k := 0) rfl rfl (by decide) ?_
      refine z_auto rfl ?_
      refine z_br rfl (fun c => ?_) (fun c => ?_)
      · have : j = n := by omega
        subst this
        refine z_auto rfl ?_
        exact z_rt rfl h
      · exact absurd (by rw [hn]; exact nI_le (by omega) (by omega)) c
    | succ k ih =>
      intro j hj
      refine z_auto rfl ?_
      refine z_ald (k := 0) rfl rfl (by decide) ?_
      refine z_auto rfl ?_
      refine z_br rfl (fun c => ?_) (fun c => ?_)
      · rw [hn] at c
        exact absurd c (nI_ge (by omega) (by omega))
      · have h2 := ih (j + 1) (by omega)
        rw [zww, nI_succ] at h2
        refine z_auto rfl ?_
        refine z_br rfl (fun c => ?_) (fun c => ?_)
        · rw [if_pos ((b_bit0 set (by omega)).mpr (by
            have : ¬ bt set j = true := fun q => c ((b_bit1 set (by omega)).mpr q)
            simpa using this))] at h2
          refine z_auto rfl ?_
          refine z_ald (k := (34 + j)) rfl (nI_add 34 j) (by show 34 + j < 937; omega) ?_
          refine z_auto rfl ?_
          refine z_jp rfl ?_
          refine z_auto rfl ?_
          refine z_jp rfl ?_
          exact h2
        · have c := Classical.not_not.mp c
          rw [if_neg (fun q => by rw [c] at q; revert q; decide)] at h2
          refine z_auto rfl ?_
          refine z_jp rfl ?_
          refine z_auto rfl ?_
          rw [Int32.add_zero]
          refine z_auto rfl ?_
          refine z_jp rfl ?_
          exact h2
  refine z_auto rfl ?_
  refine z_jp rfl ?_
  exact loop n 0 (Nat.zero_add _)
set_option maxHeartbeats 4000000 in
set_option maxRecDepth 100000 in
theorem m_takesOf {k t : Nat} (hk : k < 8) (ht : t < 100000) (hty : I 40 0 6 = nI t) {fl l : Int32} (h : Q (some (zi (ztak (I 40 0 (10 + k)) (I 40 0 (18 + k)) (I 40 0 (26 + k)) fl l (I 40 0 (50 + k * 3 + t % 3))))) I (zRR rl rs)) : zWm d 139 [zr 10 0, zi (nI k), zi fl, zi l] I (zRR rl rs) Q := by
  have hr : (50 : Int32) + 3 * nI k + (nI t - nI t / 3 * 3) = nI (50 + k * 3 + t % 3) := by
    rw [show nI t - nI t / 3 * 3 = nI (t % 3) from pk_rem (a := t) (d := 3) (by omega) (by omega) (by omega), Int32.mul_comm 3 (nI k), show nI k * 3 = nI (k * 3) from pk_mul k 3, show (50 : Int32) + nI (k * 3) = nI (50 + k * 3) from nI_add 50 (k * 3)]
    exact nI_add _ _
  have key : ∀ u6, zW d kX10_takesOf (zblk kX10_takesOf 2) [some (zr 10 0), some (zi (nI k)), some (zi fl), some (zi l), some (zi (I 40 0 (26 + k))), some (zi (I 40 0 (10 + k))), u6] [zi (zhu (I 40 0 (26 + k)) l)] I (zRR rl rs) Q := by
    intro u6
    refine z_auto rfl ?_
    refine z_sw rfl (fun q hq hx => ?_) (fun hn => ?_)
    · rcases List.mem_cons.mp hq with rfl | hq
      · have hx : I 40 0 (10 + k) = 1 := hx
        rw [hx, ztak, if_pos rfl, zcr] at h
        refine z_auto rfl ?_
        refine z_br rfl (fun c => ?_) (fun c => ?_)
        · rw [if_pos c] at h
          refine z_auto rfl ?_
          refine z_jp rfl ?_
          refine z_auto rfl ?_
          exact z_rt rfl h
        · rw [if_neg c] at h
          refine z_auto rfl ?_
          refine z_jp rfl ?_
          refine z_auto rfl ?_
          exact z_rt rfl h
      rcases List.mem_cons.mp hq with rfl | hq
      · have hx : I 40 0 (10 + k) = 2 := hx
        rw [hx, ztak, if_neg (by decide), if_pos rfl] at h
        refine z_auto rfl ?_
        exact z_rt rfl h
      rcases List.mem_cons.mp hq with rfl | hq
      · have hx : I 40 0 (10 + k) = 3 := hx
        rw [hx, ztak, if_neg (by decide), if_neg (by decide), if_pos rfl] at h
        refine z_auto rfl ?_
        exact z_rt rfl h
      rcases List.mem_cons.mp hq with rfl | hq
      · have hx : I 40 0 (10 + k) = 4 := hx
        rw [hx, ztak, if_neg (by decide), if_neg (by decide), if_neg (by decide), if_pos rfl, zcr] at h
        refine z_auto rfl ?_
        first | refine z_st rfl ?_ | refine z_ck rfl (by decide) ?_
        refine z_auto rfl ?_
        refine z_br rfl (fun c => ?_) (fun c => ?_)
        · rw [if_neg c] at h
          refine z_auto rfl ?_
          refine z_br rfl (fun c2 => ?_) (fun c2 => ?_)
          · rw [if_pos c2] at h
            refine z_auto rfl ?_
            refine z_jp rfl ?_
            refine z_auto rfl ?_
            exact z_rt rfl h
          · rw [if_neg c2] at h
            refine z_auto rfl ?_
            refine z_jp rfl ?_
            refine z_auto rfl ?_
            exact z_rt rfl h
        · rw [if_pos (Classical.not_not.mp c)] at h
          refine z_auto rfl ?_
          refine z_jp rfl ?_
          refine z_auto rfl ?_
          exact z_rt rfl h
      rcases List.mem_cons.mp hq with rfl | hq
      · have hx : I 40 0 (10 + k) = 5 := hx
        rw [hx, ztak, if_neg (by decide), if_neg (by decide), if_neg (by decide), if_neg (by decide), if_pos rfl] at h
        refine z_auto rfl ?_
        refine z_ald (k := (18 + k)) rfl (nI_add 18 k) (by show 18 + k < 937; omega) ?_
        refine z_auto rfl ?_
        refine z_br rfl (fun c => ?_) (fun c => ?_)
        · rw [if_pos c] at h
          refine z_auto rfl ?_
          refine z_ald (k := (18 + k)) rfl (nI_add 18 k) (by show 18 + k < 937; omega) ?_
          refine z_auto rfl ?_
          refine z_jp rfl ?_
          refine z_auto rfl ?_
          exact z_rt rfl h
        · rw [if_neg c] at h
          refine z_auto rfl ?_
          refine z_jp rfl ?_
          refine z_auto rfl ?_
          rw [Int32.add_zero]
          refine z_auto rfl ?_
          exact z_rt rfl h
      rcases List.mem_cons.mp hq with rfl | hq
      · have hx : I 40 0 (10 + k) = 6 := hx
        rw [hx, ztak, if_neg (by decide), if_neg (by decide), if_neg (by decide), if_neg (by decide), if_neg (by decide), if_pos rfl] at h
        refine z_auto rfl ?_
        refine z_ald (k := 6) rfl rfl (by decide) ?_
        rw [hty]
        refine z_auto rfl ?_
        first | refine z_st rfl ?_ | refine z_ck rfl (by decide) ?_
        refine z_auto rfl ?_
        refine z_ald (k := (50 + k * 3 + t % 3)) rfl hr (by show 50 + k * 3 + t % 3 < 937; omega) ?_
        refine z_auto rfl ?_
        exact z_rt rfl h
      · exact absurd hq List.not_mem_nil
    · have e1 : ¬ I 40 0 (10 + k) = 1 := hn (1, 3) (by decide)
      have e2 : ¬ I 40 0 (10 + k) = 2 := hn (2, 10) (by decide)
      have e3 : ¬ I 40 0 (10 + k) = 3 := hn (3, 14) (by decide)
      have e4 : ¬ I 40 0 (10 + k) = 4 := hn (4, 6) (by decide)
      have e5 : ¬ I 40 0 (10 + k) = 5 := hn (5, 11) (by decide)
      have e6 : ¬ I 40 0 (10 + k) = 6 := hn (6, 15) (by decide)
      rw [ztak, if_neg e1, if_neg e2, if_neg e3, if_neg e4, if_neg e5, if_neg e6] at h
      refine z_auto rfl ?_
      exact z_rt rfl h
  refine z_auto rfl ?_
  refine z_ald (k := (26 + k)) rfl (nI_add 26 k) (by show 26 + k < 937; omega) ?_
  refine z_auto rfl ?_
  refine z_ald (k := (10 + k)) rfl (nI_add 10 k) (by show 10 + k < 937; omega) ?_
  refine z_auto rfl ?_
  refine z_br rfl (fun c => ?_) (fun c => ?_)
  · have h5 := key none
    rw [zhu, if_pos c] at h5
    refine z_auto rfl ?_
    refine z_jp rfl ?_
    exact h5
  · have h5 := key none
    rw [zhu, if_neg c] at h5
    refine z_auto rfl ?_
    first | refine z_st rfl ?_ | refine z_ck rfl (by decide) ?_
    refine z_auto rfl ?_
    refine z_jp rfl ?_
    exact h5
set_option maxHeartbeats 4000000 in
set_option maxRecDepth 100000 in
theorem m_lands {n t : Nat} (hn : I 40 0 0 = nI n) (h8 : n ≤ 8) (ht : t < 100000) (hty : I 40 0 6 = nI t) (hA : zAb (mLy (I 40 0) t) n) {fl sd bl : Int32} (hbl : 0 ≤ bl) (h : Q (some (zi (gFt (mLy (I 40 0) t) fl sd (I 10 0 14) n (bl, I 10 0 16)).1)) (zup I 10 0 16 (gFt (mLy (I 40 0) t) fl sd (I 10 0 14) n (bl, I 10 0 16)).2) (zRR rl rs)) : zWm (d + 1) 140 [zr 10 0, zi fl, zi sd, zi bl] I (zRR rl rs) Q := by
  have loop : ∀ k i, i + k = n → ∀ (l b : Int32) (u6 u7 : Option zAV), 0 ≤ l → (l, b) = gFt (mLy (I 40 0) t) fl sd (I 10 0 14) i (bl, I 10 0 16) → zW (d + 1) kX10_lands (zblk kX10_lands 1) [some (zr 10 0), some (zi fl), some (zi sd), some (zi bl), some (zi l), some (zi (nI i)), u6, u7] [] (zup I 10 0 16 b) (zRR rl rs) Q := by
    intro k
    induction k with
    | zero =>
      intro i hi l b u6 u7 hl hs
      have : i = n := by omega
      subst this
      rw [← hs] at h
      refine z_auto rfl ?_
      refine z_ald (k := 0) rfl rfl (by decide) ?_
      refine z_auto rfl ?_
      refine z_br rfl (fun c => ?_) (fun c => ?_)
      · refine z_auto rfl ?_
        exact z_rt rfl h
      · rw [zup_c (by decide), hn] at c
        exact absurd (nI_le (Nat.le_refl _) (by omega)) c
    | succ k ih =>
      intro i hi l b u6 u7 hl hs
      have hi8 : i < 8 := by omega
      have g0 : ∀ c i k, c ≠ 10 → zup I 10 0 16 b c i k = I c i k := fun c i k hc => zup_c hc
      have step : gFt (mLy (I 40 0) t) fl sd (I 10 0 14) (i + 1) (bl, I 10 0 16) = gFs (mLy (I 40 0) t) fl sd (I 10 0 14) i (l, b) := by rw [gFt, hs]
      refine z_auto rfl ?_
      refine z_ald (k := 0) rfl rfl (by decide) ?_
      refine z_auto rfl ?_
      refine z_br rfl (fun c => ?_) (fun c => ?_)
      · rw [zup_c (by decide), hn] at c
        exact absurd c (nI_ge (by omega) (by omega))
      · refine z_auto rfl ?_
        refine z_ald (k := (42 + i)) rfl (nI_add 42 i) (by show 42 + i < 937; omega) ?_
        rw [zup_c (by decide)]
        have skip : ¬ (((b ||| I 10 0 14) >>> (nI i &&& 31)) &&& 1 = 0 ∧ I 40 0 (42 + i) = sd) → ∀ u6 u7, zW (d + 1) kX10_lands (zblk kX10_lands 9) [some (zr 10 0), some (zi fl), some (zi sd), some (zi bl), some (zi l), some (zi (nI i)), u6, u7] [] (zup I 10 0 16 b) (zRR rl rs) Q := by
          intro hc u6 u7
          have h2 := ih (i + 1) (by omega) l b u6 u7 hl (by rw [step, gFs]; exact (if_neg hc).symm)
          rw [nI_succ] at h2
          refine z_auto rfl ?_
          refine z_jp rfl ?_
          exact h2
        refine z_auto rfl ?_
        refine z_br rfl (fun c2 => ?_) (fun c2 => ?_)
        · exact skip (fun q => c2 q.2) _ _
        · have c2 := Classical.not_not.mp c2
          refine z_auto rfl ?_
          rw [zup_k (by decide)]
          refine z_auto rfl ?_
          refine z_br rfl (fun c3 => ?_) (fun c3 => ?_)
          · exact skip (fun q => c3 ((b_bit0 _ (by omega)).mpr (by have := (b_bit0 _ (by omega)).mp q.1; rw [b_or] at this; cases hh : bt (I 10 0 14) i <;> simp_all))) _ _
          · have c3 := Classical.not_not.mp c3
            refine z_auto rfl ?_
            rw [zup_eq]
            refine z_auto rfl ?_
            refine z_br rfl (fun c4 => ?_) (fun c4 => ?_)
            · exact skip (fun q => c4 ((b_bit0 _ (by omega)).mpr (by have := (b_bit0 _ (by omega)).mp q.1; rw [b_or] at this; cases hh : bt b i <;> simp_all))) _ _
            · have c4 := Classical.not_not.mp c4
              have hcond : ((b ||| I 10 0 14) >>> (nI i &&& 31)) &&& 1 = 0 ∧ I 40 0 (42 + i) = sd := ⟨(b_bit0 _ (by omega)).mpr (by rw [b_or, (b_bit0 _ (by omega)).mp c3, (b_bit0 _ (by omega)).mp c4]; rfl), c2⟩
              obtain ⟨v, th, r, hv, hth, hr, a1, a2, a4⟩ := hA i (by omega)
              have htk : 0 ≤ ztak (I 40 0 (10 + i)) (I 40 0 (18 + i)) (I 40 0 (26 + i)) fl l (I 40 0 (50 + i * 3 + t % 3)) := m_tk hv hth hr a1 a2 a4 hl
              have e : gFs (mLy (I 40 0) t) fl sd (I 10 0 14) i (l, b) = (if 0 < l - ztak (I 40 0 (10 + i)) (I 40 0 (18 + i)) (I 40 0 (26 + i)) fl l (I 40 0 (50 + i * 3 + t % 3)) then l - ztak (I 40 0 (10 + i)) (I 40 0 (18 + i)) (I 40 0 (26 + i)) fl l (I 40 0 (50 + i * 3 + t % 3)) else 0, @ite _ (zbrk (I 40 0 (10 + i)) (I 40 0 (18 + i)) l) (Classical.propDecidable _) (b ||| (1 <<< (nI i &&& 31))) b) := by
                rw [gFs]
                exact if_pos hcond
              have hl2 : 0 ≤ (if 0 < l - ztak (I 40 0 (10 + i)) (I 40 0 (18 + i)) (I 40 0 (26 + i)) fl l (I 40 0 (50 + i * 3 + t % 3)) then l - ztak (I 40 0 (10 + i)) (I 40 0 (18 + i)) (I 40 0 (26 + i)) fl l (I 40 0 (50 + i * 3 + t % 3)) else 0) := by
                split
                · rename_i q; exact Int32.le_of_lt q
                · decide
              have h2 := fun u6 u7 => ih (i + 1) (by omega) _ _ u6 u7 hl2 (by rw [step]; exact e.symm)
              rw [m_pos hl htk, nI_succ] at h2
              refine z_auto rfl ?_
              refine z_cl rfl (m_takesOf (t := t) hi8 ht (by rw [zup_c (by decide)]; exact hty) ?_)
              rw [g0 40 0 (10 + i) (by decide), g0 40 0 (18 + i) (by decide), g0 40 0 (26 + i) (by decide), g0 40 0 (50 + i * 3 + t % 3) (by decide)]
              generalize ztak (I 40 0 (10 + i)) (I 40 0 (18 + i)) (I 40 0 (26 + i)) fl l (I 40 0 (50 + i * 3 + t % 3)) = tk at h2
              have fin : ∀ (y : Int32) (b' : Int32), (b' = @ite _ (zbrk (I 40 0 (10 + i)) (I 40 0 (18 + i)) l) (Classical.propDecidable _) (b ||| (1 <<< (nI i &&& 31))) b) → ((y = 0 ∧ b' = b) ∨ (y ≠ 0 ∧ b' = b ||| (1 <<< (nI i &&& 31)))) → ∀ u7, zW (d + 1) kX10_lands (zblk kX10_lands 4) [some (zr 10 0), some (zi fl), some (zi sd), some (zi bl), some (zi l), some (zi (nI i)), some (zi tk), u7] [zi y] (zup I 10 0 16 b) (zRR rl rs) Q := by
                intro y b' hb' hy u7
                rw [← hb'] at h2
                refine z_auto rfl ?_
                refine z_br rfl (fun c5 => ?_) (fun c5 => ?_)
                · have e1 : b' = b := by
                    rcases hy with q | q
                    · exact q.2
                    · exact absurd c5 q.1
                  subst e1
                  refine z_auto rfl ?_
                  refine z_jp rfl ?_
                  refine z_auto rfl ?_
                  rw [zup_eq, Int32.or_zero, zup_zup]
                  refine z_auto rfl ?_
                  refine z_br rfl (fun c6 => ?_) (fun c6 => ?_)
                  · simp only [if_pos c6] at h2
                    refine z_auto rfl ?_
                    refine z_jp rfl ?_
                    refine z_auto rfl ?_
                    refine z_jp rfl ?_
                    refine z_auto rfl ?_
                    refine z_jp rfl ?_
                    exact h2 _ _
                  · simp only [if_neg c6] at h2
                    refine z_auto rfl ?_
                    refine z_jp rfl ?_
                    refine z_auto rfl ?_
                    refine z_jp rfl ?_
                    refine z_auto rfl ?_
                    refine z_jp rfl ?_
                    exact h2 _ _
                · have e1 : b' = b ||| (1 <<< (nI i &&& 31)) := by
                    rcases hy with q | q
                    · exact absurd q.1 c5
                    · exact q.2
                  rw [e1] at h2
                  refine z_auto rfl ?_
                  refine z_jp rfl ?_
                  refine z_auto rfl ?_
                  rw [zup_eq, zup_zup]
                  refine z_auto rfl ?_
                  refine z_br rfl (fun c6 => ?_) (fun c6 => ?_)
                  · simp only [if_pos c6] at h2
                    refine z_auto rfl ?_
                    refine z_jp rfl ?_
                    refine z_auto rfl ?_
                    refine z_jp rfl ?_
                    refine z_auto rfl ?_
                    refine z_jp rfl ?_
                    exact h2 _ _
                  · simp only [if_neg c6] at h2
                    refine z_auto rfl ?_
                    refine z_jp rfl ?_
                    refine z_auto rfl ?_
                    refine z_jp rfl ?_
                    refine z_auto rfl ?_
                    refine z_jp rfl ?_
                    exact h2 _ _
              refine z_auto rfl ?_
              refine z_ald (k := (10 + i)) rfl (nI_add 10 i) (by show 10 + i < 937; omega) ?_
              rw [g0 40 0 (10 + i) (by decide)]
              have brk : (I 40 0 (10 + i) = 2 ∨ I 40 0 (10 + i) = 5) → ∀ u7, zW (d + 1) kX10_lands (zblk kX10_lands 2) [some (zr 10 0), some (zi fl), some (zi sd), some (zi bl), some (zi l), some (zi (nI i)), some (zi tk), u7] [] (zup I 10 0 16 b) (zRR rl rs) Q := by
                intro hk u7
                refine z_auto rfl ?_
                refine z_ald (k := (18 + i)) rfl (nI_add 18 i) (by show 18 + i < 937; omega) ?_
                rw [g0 40 0 (18 + i) (by decide)]
                refine z_auto rfl ?_
                refine z_br rfl (fun c7 => ?_) (fun c7 => ?_)
                · refine z_auto rfl ?_
                  refine z_jp rfl ?_
                  exact fin 0 b (if_neg (fun q => q.2 c7)).symm (Or.inl ⟨rfl, rfl⟩) _
                · refine z_auto rfl ?_
                  refine z_jp rfl ?_
                  exact fin 1 _ (if_pos ⟨hk, c7⟩).symm (Or.inr ⟨by decide, rfl⟩) _
              refine z_auto rfl ?_
              refine z_br rfl (fun c5 => ?_) (fun c5 => ?_)
              · exact brk (Or.inl c5) _
              · refine z_auto rfl ?_
                refine z_ald (k := (10 + i)) rfl (nI_add 10 i) (by show 10 + i < 937; omega) ?_
                rw [g0 40 0 (10 + i) (by decide)]
                refine z_auto rfl ?_
                refine z_br rfl (fun c6 => ?_) (fun c6 => ?_)
                · refine z_auto rfl ?_
                  refine z_jp rfl ?_
                  exact fin 0 b (if_neg (fun q => q.1.elim c5 c6)).symm (Or.inl ⟨rfl, rfl⟩) _
                · refine z_auto rfl ?_
                  refine z_jp rfl ?_
                  exact brk (Or.inr (Classical.not_not.mp c6)) _
  refine z_auto rfl ?_
  refine z_jp rfl ?_
  have h5 := loop n 0 (Nat.zero_add _) bl (I 10 0 16) none none hbl rfl
  rw [zup_self] at h5
  exact h5
end