/-! THE MODEL: a whole fall -/
/-- what the model's falling changes -/
def zFM (I J : zMI) : Prop := ∀ c i k, c ≠ 42 → c ≠ 43 → (c ≠ 10 ∨ (k ≠ 11 ∧ k ≠ 12 ∧ k ≠ 13 ∧ k ≠ 16 ∧ k ≠ 17 ∧ k ≠ 18 ∧ k ≠ 19)) → J c i k = I c i k
theorem zFM.rf {I : zMI} : zFM I I := fun _ _ _ _ _ _ => rfl
theorem zFM.tr {I J K : zMI} (h1 : zFM I J) (h2 : zFM J K) : zFM I K := fun c i k a b e => (h2 c i k a b e).trans (h1 c i k a b e)
theorem zFM.of {I J : zMI} (h : zFm I J) : zFM I J := fun c i k a b e => h c i k a b (e.imp id (fun q => ⟨q.1, q.2.1⟩))
theorem zFM.up {I : zMI} {k : Nat} {x : Int32} (hk : k = 11 ∨ k = 12 ∨ k = 13 ∨ k = 16 ∨ k = 17 ∨ k = 18 ∨ k = 19) : zFM I (zup I 10 0 k x) := by
  intro c i j a b e
  rcases e with e | e
  · exact zup_c e
  · exact zup_k (by omega)
theorem zFM_f {I J : zMI} (h : zFM I J) {c i : Nat} (h1 : c ≠ 42) (h2 : c ≠ 43) (h3 : c ≠ 10) : J c i = I c i := by
  funext k
  exact h c i k h1 h2 (Or.inl h3)
/-- all numbers of a fall, by the model -/
noncomputable def mAll (s : Nat → Int32) (C : List zCl) (n t : Nat) (f a add out : Int32) : Int32 × ((Int32 × (Int32 × Int32)) × Int32) :=
  (fLd C a f, (fFl (mLy s t) n f (fLd C a f) out (fBl C f (fLd C a f) (zww (fun k => s (34 + k)) out n / 10) (s 6 - s 6 / 10 * 10) add) (s 9), if fBl C f (fLd C a f) (zww (fun k => s (34 + k)) out n / 10) (s 6 - s 6 / 10 * 10) add ≤ 20 then 0 else 1))
/-- the force told: the greater -/
def mFo (p : Int32 × ((Int32 × (Int32 × Int32)) × Int32)) : Int32 := if p.2.2 = 0 then p.2.1.1 else if p.2.1.1 ≤ p.2.1.2.1 then p.2.1.2.1 else p.2.1.1
theorem m_z1 {x : Int32} (h : 0 ≤ x) : (if 0 < x then x else 0) = x := by
  by_cases c : 0 < x
  · rw [if_pos c]
  · rw [if_neg c]
    exact Int32.le_antisymm h (Int32.not_lt.mp c)
theorem m_z2 {x : Int32} (h : ¬ 0 ≤ x) : (if 0 < x then x else 0) = 0 := by
  rw [if_neg (fun q => h (Int32.le_of_lt q))]
section
variable {d : Nat} {I : zMI} {rl rs : Option (Nat × Nat)} {Q : zPQ} {C : List zCl}
set_option maxHeartbeats 4000000 in
set_option maxRecDepth 100000 in
theorem m_tells1 (hH : zHo (I 40 0) C) (h : Q (some (zi (zlast C 1 1))) I (zRR rl rs)) : zWm d 127 [zr 10 0, zi 227, zi 1] I (zRR rl rs) Q := by
  rcases hH with ⟨h5, rfl⟩ | ⟨a, ha, h5, hM⟩
  · exact m_tellsOf0 h5 h
  · refine m_tellsOf1 (w := 227) h5 ha (by decide) ?_
    rw [hM.2.2.2.2.1]
    exact h
set_option maxHeartbeats 4000000 in
set_option maxRecDepth 100000 in
theorem m_tells0 (hH : zHo (I 40 0) C) (h : Q (some (zi (zlast C 0 20))) I (zRR rl rs)) : zWm d 127 [zr 10 0, zi 222, zi 20] I (zRR rl rs) Q := by
  rcases hH with ⟨h5, rfl⟩ | ⟨a, ha, h5, hM⟩
  · exact m_tellsOf0 h5 h
  · refine m_tellsOf1 (w := 222) h5 ha (by decide) ?_
    rw [hM.2.2.2.1]
    exact h
set_option maxHeartbeats 4000000 in
set_option maxRecDepth 100000 in
theorem m_strikes {f : Int32} (h : Q none (zup (zup I 10 0 17 (zld f (I 10 0 13) (I 10 0 17, I 10 0 18)).1) 10 0 18 (zld f (I 10 0 13) (I 10 0 17, I 10 0 18)).2) (zRR rl rs)) : zWm d 141 [zr 10 0, zi f] I (zRR rl rs) Q := by
  have e0 : zup (zup I 10 0 17 (I 10 0 17)) 10 0 18 (I 10 0 18) = I := by
    rw [zup_self, zup_self]
  have key : ∀ u2, zW d kX10_strikes (zblk kX10_strikes 2) [some (zr 10 0), some (zi f), u2] [zi (zbr (I 10 0 13) (I 10 0 17))] I (zRR rl rs) Q := by
    intro u2
    rw [zld] at h
    dsimp only at h
    refine z_auto rfl ?_
    refine z_br rfl (fun c => ?_) (fun c => ?_)
    · rw [if_pos c] at h
      rw [e0] at h
      refine z_auto rfl ?_
      refine z_br rfl (fun c2 => ?_) (fun c2 => ?_)
      · refine z_auto rfl ?_
        exact z_rt rfl h
      · exact absurd c c2
    · rw [if_neg c] at h
      refine z_auto rfl ?_
      refine z_br rfl (fun c2 => ?_) (fun c2 => ?_)
      · rw [if_pos c2] at h
        refine z_auto rfl ?_
        refine z_br rfl (fun c3 => ?_) (fun c3 => ?_)
        · exact absurd c3 c
        · refine z_auto rfl ?_
          refine z_br rfl (fun c4 => ?_) (fun c4 => ?_)
          · rw [if_pos c4, e0] at h
            refine z_auto rfl ?_
            exact z_rt rfl h
          · rw [if_neg c4] at h
            have e1 : zup (zup I 10 0 17 (I 10 0 17 + 1)) 10 0 18 (I 10 0 18) = zup I 10 0 17 (I 10 0 17 + 1) := by
              have : (zup I 10 0 17 (I 10 0 17 + 1)) 10 0 18 = I 10 0 18 := zup_k (by decide)
              rw [← this, zup_self]
            rw [e1] at h
            refine z_auto rfl ?_
            refine z_jp rfl ?_
            refine z_auto rfl ?_
            exact z_rt rfl h
      · rw [if_neg (Int32.not_le.mpr (Int32.not_le.mp c2))] at h
        rw [zup_self] at h
        refine z_auto rfl ?_
        first | refine z_st rfl ?_ | refine z_ck rfl (by decide) ?_
        refine z_auto rfl ?_
        refine z_jp rfl ?_
        refine z_auto rfl ?_
        exact z_rt rfl h
  refine z_auto rfl ?_
  refine z_br rfl (fun c => ?_) (fun c => ?_)
  · have h5 := key (some (zi (I 10 0 13 - 3 * I 10 0 17)))
    rw [zbr, m_z1 c] at h5
    refine z_auto rfl ?_
    refine z_jp rfl ?_
    exact h5
  · have h5 := key (some (zi (I 10 0 13 - 3 * I 10 0 17)))
    rw [zbr, m_z2 c] at h5
    refine z_auto rfl ?_
    refine z_jp rfl ?_
    exact h5
set_option maxHeartbeats 4000000 in
set_option maxRecDepth 100000 in
theorem m_falls {n t : Nat} (hH : zHo (I 40 0) C) (hn : I 40 0 0 = nI n) (h8 : n ≤ 8) (ht : t < 100000) (hty : I 40 0 6 = nI t) (hA : zAb (mLy (I 40 0) t) n) {f a : Int32} (hbl : 0 ≤ fBl C f (fLd C a f) (zww (fun k => I 40 0 (34 + k)) (I 10 0 14) n / 10) (I 40 0 6 - I 40 0 6 / 10 * 10) (I 10 0 15))
    (h : ∀ J : zMI, zFM I J → J 10 0 13 = I 10 0 13 → J 10 0 19 = (mAll (I 40 0) C n t f a (I 10 0 15) (I 10 0 14)).1 → J 10 0 16 = (mAll (I 40 0) C n t f a (I 10 0 15) (I 10 0 14)).2.1.2.2 → (J 10 0 17, J 10 0 18) = zla2 (mAll (I 40 0) C n t f a (I 10 0 15) (I 10 0 14)).2.1.1 (mAll (I 40 0) C n t f a (I 10 0 15) (I 10 0 14)).2.1.2.1 (mAll (I 40 0) C n t f a (I 10 0 15) (I 10 0 14)).2.2 (I 10 0 13) (I 10 0 17, I 10 0 18) → Q (some (zi (mFo (mAll (I 40 0) C n t f a (I 10 0 15) (I 10 0 14))))) J (zRR rl rs)) : zWm (d + 2) 142 [zr 10 0, zi f, zi a] I (zRR rl rs) Q := by
  have hmA : mAll (I 40 0) C n t f a (I 10 0 15) (I 10 0 14) = (fLd C a f, (fFl (mLy (I 40 0) t) n f (fLd C a f) (I 10 0 14) (fBl C f (fLd C a f) (zww (fun k => I 40 0 (34 + k)) (I 10 0 14) n / 10) (I 40 0 6 - I 40 0 6 / 10 * 10) (I 10 0 15)) (I 40 0 9), if fBl C f (fLd C a f) (zww (fun k => I 40 0 (34 + k)) (I 10 0 14) n / 10) (I 40 0 6 - I 40 0 6 / 10 * 10) (I 10 0 15) ≤ 20 then 0 else 1)) := rfl
  rw [hmA] at h
  clear hmA
  refine z_auto rfl ?_
  refine z_ald (k := 9) rfl rfl (by decide) ?_
  refine z_auto rfl ?_
  refine z_cl rfl (m_tells1 (C := C) (by rw [zup_cf (by decide)]; exact hH) ?_)
  refine z_auto rfl ?_
  first | refine z_st rfl ?_ | refine z_ck rfl (by decide) ?_
  refine z_auto rfl ?_
  obtain ⟨ld, hld⟩ : ∃ ld, ld = fLd C a f := ⟨_, rfl⟩
  rw [show (a + zlast C 1 1 * f) - (a + zlast C 1 1 * f) / 4 * 4 = ld from hld.symm]
  rw [← hld] at h hbl
  obtain ⟨M1, hM1⟩ : ∃ M1, M1 = zup (zup I 10 0 16 (I 40 0 9)) 10 0 19 ld := ⟨_, rfl⟩
  rw [← hM1]
  have hF1 : zFM I M1 := by rw [hM1]; exact (zFM.up (by decide)).tr (zFM.up (by decide))
  have r40 : M1 40 0 = I 40 0 := zFM_f hF1 (by decide) (by decide) (by decide)
  have r14 : M1 10 0 14 = I 10 0 14 := by rw [hM1, zup_k (by decide), zup_k (by decide)]
  have r15 : M1 10 0 15 = I 10 0 15 := by rw [hM1, zup_k (by decide), zup_k (by decide)]
  have r13 : M1 10 0 13 = I 10 0 13 := by rw [hM1, zup_k (by decide), zup_k (by decide)]
  have r17 : M1 10 0 17 = I 10 0 17 := by rw [hM1, zup_k (by decide), zup_k (by decide)]
  have r18 : M1 10 0 18 = I 10 0 18 := by rw [hM1, zup_k (by decide), zup_k (by decide)]
  have r16 : M1 10 0 16 = I 40 0 9 := by rw [hM1, zup_k (by decide), zup_eq]
  have r19 : M1 10 0 19 = ld := by rw [hM1, zup_eq]
  clear hM1
  refine z_cl rfl (m_weight (n := n) (by rw [r40]; exact hn) h8 ?_)
  refine z_auto rfl ?_
  first | refine z_st rfl ?_ | refine z_ck rfl (by decide) ?_
  refine z_auto rfl ?_
  refine z_cl rfl (m_looks (C := C) (by rw [r40]; exact hH) (fun J hJ j11 j12 => ?_))
  have g : ∀ k, k ≠ 11 → k ≠ 12 → J 10 0 k = M1 10 0 k := fun k a b => hJ 10 0 k (by decide) (by decide) (Or.inr ⟨a, b⟩)
  have hF2 : zFM I J := hF1.tr (zFM.of hJ)
  have s40 : J 40 0 = I 40 0 := zFM_f hF2 (by decide) (by decide) (by decide)
  rw [r40, r14, r19] at j11
  have s14 : J 10 0 14 = I 10 0 14 := (g 14 (by decide) (by decide)).trans r14
  have s15 : J 10 0 15 = I 10 0 15 := (g 15 (by decide) (by decide)).trans r15
  have s13 : J 10 0 13 = I 10 0 13 := (g 13 (by decide) (by decide)).trans r13
  have s17 : J 10 0 17 = I 10 0 17 := (g 17 (by decide) (by decide)).trans r17
  have s18 : J 10 0 18 = I 10 0 18 := (g 18 (by decide) (by decide)).trans r18
  have s16 : J 10 0 16 = I 40 0 9 := (g 16 (by decide) (by decide)).trans r16
  have s19 : J 10 0 19 = ld := (g 19 (by decide) (by decide)).trans r19
  clear g hJ j12 hF1 r13 r15 r16 r17 r18
  refine z_auto rfl ?_
  rw [j11, r40, r14, s15, s19]
  clear r40 r14 r19
  obtain ⟨B, hB⟩ : ∃ B, B = fBl C f ld (zww (fun k => I 40 0 (34 + k)) (I 10 0 14) n / 10) (I 40 0 6 - I 40 0 6 / 10 * 10) (I 10 0 15) := ⟨_, rfl⟩
  rw [← hB] at h hbl
  rw [show 5 * f + nI (zcsum (fVal f ld 9 (zww (fun k => I 40 0 (34 + k)) (I 10 0 14) n / 10) (I 40 0 6 - I 40 0 6 / 10 * 10)) C 2) + zww (fun k => I 40 0 (34 + k)) (I 10 0 14) n / 10 + I 10 0 15 = B from hB.symm]
  clear hB
  refine z_cl rfl (m_lands (n := n) (t := t) (by rw [s40]; exact hn) h8 ht (by rw [s40]; exact hty) (by rw [s40]; exact hA) hbl ?_)
  rw [s40, s14, s16]
  obtain ⟨G1, hG1⟩ : ∃ G1, G1 = gFt (mLy (I 40 0) t) f ld (I 10 0 14) n (B, I 40 0 9) := ⟨_, rfl⟩
  rw [← hG1]
  refine z_auto rfl ?_
  refine z_cl rfl (m_strikes ?_)
  rw [zup_k (by decide), zup_k (by decide), zup_k (by decide), s13, s17, s18]
  obtain ⟨z1, hz1⟩ : ∃ z1, z1 = zld G1.1 (I 10 0 13) (I 10 0 17, I 10 0 18) := ⟨_, rfl⟩
  rw [← hz1]
  obtain ⟨N, hN⟩ : ∃ N, N = zup (zup (zup J 10 0 16 G1.2) 10 0 17 z1.1) 10 0 18 z1.2 := ⟨_, rfl⟩
  rw [← hN]
  have hF3 : zFM I N := by rw [hN]; exact ((hF2.tr (zFM.up (by decide))).tr (zFM.up (by decide))).tr (zFM.up (by decide))
  have n40 : N 40 0 = I 40 0 := zFM_f hF3 (by decide) (by decide) (by decide)
  have n14 : N 10 0 14 = I 10 0 14 := by rw [hN, zup_k (by decide), zup_k (by decide), zup_k (by decide), s14]
  have n13 : N 10 0 13 = I 10 0 13 := by rw [hN, zup_k (by decide), zup_k (by decide), zup_k (by decide), s13]
  have n19 : N 10 0 19 = ld := by rw [hN, zup_k (by decide), zup_k (by decide), zup_k (by decide), s19]
  have n16 : N 10 0 16 = G1.2 := by rw [hN, zup_k (by decide), zup_k (by decide), zup_eq]
  have n17 : N 10 0 17 = z1.1 := by rw [hN, zup_k (by decide), zup_eq]
  have n18 : N 10 0 18 = z1.2 := by rw [hN, zup_eq]
  clear hN hF2 s40 s14 s15 s13 s17 s18 s16 s19 j11
  refine z_auto rfl ?_
  refine z_br rfl (fun c => ?_) (fun c => ?_)
  · have c' : ¬ B ≤ 20 := Int32.not_le.mpr c
    simp only [fFl, if_neg c'] at h
    rw [← hG1] at h
    refine z_auto rfl ?_
    first | refine z_st rfl ?_ | refine z_ck rfl (by decide) ?_
    refine z_auto rfl ?_
    first | refine z_st rfl ?_ | refine z_ck rfl (by decide) ?_
    refine z_auto rfl ?_
    rw [n19]
    have hb2 : 0 ≤ B / 2 := by
      obtain ⟨L, hL, rfl⟩ := nI_of (Int32.not_lt.mpr hbl)
      rw [show nI L / 2 = nI (L / 2) from pk_div (a := L) (d := 2) (by omega) (by omega) (by omega)]
      exact nI_pos' (by omega)
    refine z_cl rfl (m_lands (n := n) (t := t) (by rw [n40]; exact hn) h8 ht (by rw [n40]; exact hty) (by rw [n40]; exact hA) hb2 ?_)
    rw [n40, n14, n16]
    obtain ⟨G2, hG2⟩ : ∃ G2, G2 = gFt (mLy (I 40 0) t) f (ld + 1 - (ld + 1) / 4 * 4) (I 10 0 14) n (B / 2, G1.2) := ⟨_, rfl⟩
    rw [← hG2] at h ⊢
    refine z_auto rfl ?_
    refine z_cl rfl (m_strikes ?_)
    rw [zup_k (by decide), zup_k (by decide), zup_k (by decide), n13, n17, n18]
    have fin := h (zup (zup (zup N 10 0 16 G2.2) 10 0 17 (zld G2.1 (I 10 0 13) (z1.1, z1.2)).1) 10 0 18 (zld G2.1 (I 10 0 13) (z1.1, z1.2)).2)
      (((hF3.tr (zFM.up (by decide))).tr (zFM.up (by decide))).tr (zFM.up (by decide)))
      (by rw [zup_k (by decide), zup_k (by decide), zup_k (by decide), n13])
      (by rw [zup_k (by decide), zup_k (by decide), zup_k (by decide), n19])
      (by rw [zup_k (by decide), zup_k (by decide), zup_eq])
      (by rw [zup_eq, zup_k (by decide), zup_eq, zla2, if_neg (by decide), ← hz1])
    rw [mFo] at fin
    dsimp only at fin
    rw [if_neg (by decide)] at fin
    refine z_auto rfl ?_
    refine z_br rfl (fun c2 => ?_) (fun c2 => ?_)
    · rw [if_pos c2] at fin
      refine z_auto rfl ?_
      refine z_jp rfl ?_
      refine z_auto rfl ?_
      exact z_rt rfl fin
    · rw [if_neg c2] at fin
      refine z_auto rfl ?_
      refine z_jp rfl ?_
      refine z_auto rfl ?_
      exact z_rt rfl fin
  · have c' : B ≤ 20 := Int32.not_lt.mp c
    simp only [fFl, if_pos c'] at h
    rw [← hG1] at h
    have fin := h N hF3 n13 n19 n16 (by rw [n17, n18, zla2, if_pos rfl, ← hz1])
    rw [mFo] at fin
    dsimp only at fin
    rw [if_pos rfl] at fin
    refine z_auto rfl ?_
    exact z_rt rfl fin
set_option maxHeartbeats 4000000 in
set_option maxRecDepth 100000 in
theorem m_fallsNow {n t : Nat} (hH : zHo (I 40 0) C) (hn : I 40 0 0 = nI n) (h8 : n ≤ 8) (ht : t < 100000) (hty : I 40 0 6 = nI t) (hA : zAb (mLy (I 40 0) t) n) {f a : Int32} (hbl : 0 ≤ fBl C f (fLd C a f) (zww (fun k => I 40 0 (34 + k)) (I 10 0 14) n / 10) (I 40 0 6 - I 40 0 6 / 10 * 10) (I 10 0 15))
    (h : ∀ J : zMI, zFM I J → J 10 0 13 = zlast C 0 20 → J 10 0 19 = (mAll (I 40 0) C n t f a (I 10 0 15) (I 10 0 14)).1 → J 10 0 16 = (mAll (I 40 0) C n t f a (I 10 0 15) (I 10 0 14)).2.1.2.2 → (J 10 0 17, J 10 0 18) = zla2 (mAll (I 40 0) C n t f a (I 10 0 15) (I 10 0 14)).2.1.1 (mAll (I 40 0) C n t f a (I 10 0 15) (I 10 0 14)).2.1.2.1 (mAll (I 40 0) C n t f a (I 10 0 15) (I 10 0 14)).2.2 (zlast C 0 20) (I 40 0 7, if I 40 0 8 = 0 then 1 else 0) → Q (some (zi (mFo (mAll (I 40 0) C n t f a (I 10 0 15) (I 10 0 14))))) J (zRR rl rs)) : zWm (d + 3) 143 [zr 10 0, zi f, zi a] I (zRR rl rs) Q := by
  refine z_auto rfl ?_
  refine z_cl rfl (m_tells0 (C := C) hH ?_)
  refine z_auto rfl ?_
  refine z_ald (k := 7) rfl rfl (by decide) ?_
  refine z_auto rfl ?_
  refine z_ald (k := 8) rfl rfl (by decide) ?_
  try simp (decide := true) only [zup_eq, zup_cf, zup_i, zup_k, zLy_3, zLy_34, ne_eq, not_false_eq_true]
  have nx : ∀ w : Int32, (w = if I 40 0 8 = 0 then 1 else 0) → (w = 0 ∨ w = 1) → zW (d + 3) kX10_fallsNow (zblk kX10_fallsNow 2) [some (zr 10 0), some (zi f), some (zi a)] [zi w, zr 10 0] (zup (zup I 10 0 13 (zlast C 0 20)) 10 0 17 (I 40 0 7)) (zRR rl rs) Q := by
    intro w hw hw2
    refine z_auto rfl ?_
    refine z_ck rfl hw2 ?_
    refine z_auto rfl ?_
    refine z_cl rfl ?_
    obtain ⟨N, hN⟩ : ∃ N, N = zup (zup (zup I 10 0 13 (zlast C 0 20)) 10 0 17 (I 40 0 7)) 10 0 18 w := ⟨_, rfl⟩
    rw [← hN]
    have hF : zFM I N := by rw [hN]; exact ((zFM.up (by decide)).tr (zFM.up (by decide))).tr (zFM.up (by decide))
    have n40 : N 40 0 = I 40 0 := zFM_f hF (by decide) (by decide) (by decide)
    have n14 : N 10 0 14 = I 10 0 14 := by rw [hN, zup_k (by decide), zup_k (by decide), zup_k (by decide)]
    have n15 : N 10 0 15 = I 10 0 15 := by rw [hN, zup_k (by decide), zup_k (by decide), zup_k (by decide)]
    have n13 : N 10 0 13 = zlast C 0 20 := by rw [hN, zup_k (by decide), zup_k (by decide), zup_eq]
    have n17 : N 10 0 17 = I 40 0 7 := by rw [hN, zup_k (by decide), zup_eq]
    have n18 : N 10 0 18 = if I 40 0 8 = 0 then 1 else 0 := by rw [hN, zup_eq, hw]
    clear hN
    refine m_falls (C := C) (n := n) (t := t) (by rw [n40]; exact hH) (by rw [n40]; exact hn) h8 ht (by rw [n40]; exact hty) (by rw [n40]; exact hA) (by rw [n40, n14, n15]; exact hbl) ?_
    rw [n40, n14, n15, n13, n17, n18]
    intro J hJ h13 h19 h16 h17
    refine z_auto rfl ?_
    exact z_rt rfl (h J (hF.tr hJ) h13 h19 h16 h17)
  refine z_auto rfl ?_
  refine z_br rfl (fun c => ?_) (fun c => ?_)
  · refine z_auto rfl ?_
    refine z_jp rfl ?_
    exact nx 0 (by rw [if_neg c]) (Or.inl rfl)
  · refine z_auto rfl ?_
    refine z_jp rfl ?_
    exact nx 1 (by rw [if_pos (Classical.not_not.mp c)]) (Or.inr rfl)
end