/-! shift -/
def fSh (g : Nat → Nat → Int32) (f0 : Int32) : Nat → Int32 × Int32
  | 0 => (-5, f0)
  | i + 1 => if g (i / 4) (i % 4) < (fSh g f0 i).2 then (nI (10 * (i / 4) + i % 4), g (i / 4) (i % 4)) else fSh g f0 i
theorem fSh_le {g : Nat → Nat → Int32} {f0 : Int32} : ∀ i, (fSh g f0 i).2 ≤ f0
  | 0 => Int32.le_refl _
  | i + 1 => by
    rw [fSh]
    split
    · rename_i c
      exact Int32.le_trans (Int32.le_of_lt c) (fSh_le i)
    · exact fSh_le i
theorem fFo_40 {I : zMI} {k : Nat} {v : Int32} {C : List zCl} {n t : Nat} {f a add out : Int32} : fFo (zup I 40 0 k v) C n t f a add out = fFo I C n t f a add out := by
  have el : zLy (zup I 40 0 k v) t = zLy I t := by
    funext x y
    unfold zLy
    split <;> exact zup_ne (by omega)
  unfold fFo fAll
  rw [el, zup_cf (by decide), zup_cf (by decide), zup_cf (by decide)]
theorem zCu_24 {I : zMI} {l : Nat} {v : Int32} {k n t : Nat} {C : List zCl} (hC : zCu I k C n t) : zCu (zup I 24 0 l v) k C n t := by
  obtain ⟨e1, e2, e3, e4, e5, e6, e7, e8⟩ := hC
  refine ⟨?_, e2, zES_fr (fun c k hc => zup_ne (by omega)) e3, ?_, e5, ?_, e7, ?_⟩
  · rw [zup_ne (by omega)]; exact e1
  · rw [zup_ne (by omega)]; exact e4
  · rw [zup_ne (by omega)]; exact e6
  · rw [zup_ne (by omega)]; exact e8
theorem zSt8_24 {I : zMI} {n k t : Nat} {C : List zCl} (hS : zSt8 I C n k t) {l a : Nat} (hl : l < n) (ha : a ≤ 3) : zSt8 (zup (zup I 24 0 l (nI a)) 40 0 (42 + l) (nI a)) C n k t := by
  obtain ⟨J, hJ⟩ : ∃ J, J = zup (zup I 24 0 l (nI a)) 40 0 (42 + l) (nI a) := ⟨_, rfl⟩
  rw [← hJ]
  have h8 := hS.1.1.2.2.1
  have A : ∀ c i k, ¬ (c = 24 ∧ i = 0 ∧ k = l) → ¬ (c = 40 ∧ i = 0 ∧ k = 42 + l) → J c i k = I c i k := fun c i k h1 h2 => by rw [hJ, zup_ne h2, zup_ne h1]
  have B1 : J 40 0 (42 + l) = nI a := by rw [hJ, zup_eq]
  have D1 : J 24 0 l = nI a := by rw [hJ, zup_ne (by omega), zup_eq]
  clear hJ
  obtain ⟨⟨b1, b2, ⟨m1, b3⟩, ⟨m2, b4⟩, ⟨m3, b5⟩, b6⟩, hC, hH⟩ := hS
  have es : ∀ k, k ≠ 42 + l → J 40 0 k = I 40 0 k := fun k hk => A 40 0 k (by omega) (by omega)
  have e : ∀ c i, c ≠ 24 → c ≠ 40 → J c i = I c i := fun c i h1 h2 => funext (fun k => A c i k (by omega) (by omega))
  refine ⟨⟨?_, ?_, ⟨m1, ?_⟩, ⟨m2, ?_⟩, ⟨m3, ?_⟩, ?_⟩, ?_, ?_⟩
  · obtain ⟨g1, g2, g3, g4, g5, g6, g7, g8⟩ := b1
    rw [e 4 0 (by decide) (by decide), e 20 0 (by decide) (by decide), e 21 0 (by decide) (by decide), e 22 0 (by decide) (by decide), e 23 0 (by decide) (by decide), e 25 0 (by decide) (by decide)]
    refine ⟨g1, (es 0 (by omega)).trans g2, g3, fun i hi => ?_, fun i x hi hx => ?_, g6, g7.trans (es 9 (by omega)).symm, fun i hi => by rw [es 9 (by omega)]; exact g8 i hi⟩
    · obtain ⟨kd, v, th, w, sd, q, ⟨p0, p1, p2, p3, p4⟩, r1, r2, r3, r4, r5⟩ := g4 i hi
      rw [es (10 + i) (by omega), es (18 + i) (by omega), es (26 + i) (by omega), es (34 + i) (by omega)]
      by_cases ei : i = l
      · subst ei
        exact ⟨kd, v, th, w, a, by omega, ⟨p0, p1, p2, p3, D1⟩, r1, r2, r3, r4, B1⟩
      · rw [A 24 0 i (by omega) (by omega), es (42 + i) (by omega)]
        exact ⟨kd, v, th, w, sd, q, ⟨p0, p1, p2, p3, p4⟩, r1, r2, r3, r4, r5⟩
    · rw [es _ (by omega)]
      exact g5 i x hi hx
  · exact zbS_of (A 1 0 5 (by omega) (by omega)) (fun c j k hc => A c j k (by omega) (by omega)) (es 1 (by omega)) (es 5 (by omega)) (fun k hk => es k (by omega)) b2
  · rw [e 7 _ (by decide) (by decide), e 26 _ (by decide) (by decide), e 27 _ (by decide) (by decide), e 28 _ (by decide) (by decide)]
    exact zbH_of (es 2 (by omega)) (fun k _ _ => es k (by omega)) b3
  · rw [e 7 _ (by decide) (by decide), e 26 _ (by decide) (by decide), e 27 _ (by decide) (by decide), e 28 _ (by decide) (by decide)]
    exact zbH_of (es 3 (by omega)) (fun k _ _ => es k (by omega)) b4
  · rw [e 8 _ (by decide) (by decide), e 29 _ (by decide) (by decide)]
    exact zbT_of (es 4 (by omega)) (fun k _ _ => es k (by omega)) b5
  · rw [e 1 _ (by decide) (by decide), e 2 _ (by decide) (by decide)]
    obtain ⟨q1, q2, q3, q4, q5⟩ := b6
    exact ⟨q1, (es 6 (by omega)).trans q2, q3, q4.trans (es 7 (by omega)).symm, by rw [es 8 (by omega)]; exact q5⟩
  · obtain ⟨e1, e2, e3, e4, e5, e6, e7, e8⟩ := hC
    refine ⟨?_, e2, zES_fr (fun c k hc => A c _ k (by omega) (by omega)) e3, ?_, e5, ?_, e7, ?_⟩
    · rw [A _ _ _ (by omega) (by omega)]; exact e1
    · rw [A _ _ _ (by omega) (by omega)]; exact e4
    · rw [A _ _ _ (by omega) (by omega)]; exact e6
    · rw [A _ _ _ (by omega) (by omega)]; exact e8
  · rcases hH with ⟨q1, q2⟩ | ⟨x, q1, q2, q3⟩
    · exact Or.inl ⟨(es 5 (by omega)).trans q1, q2⟩
    · exact Or.inr ⟨x, q1, (es 5 (by omega)).trans q2, zMS_of (fun k hk => es k (by omega)) q3⟩
section
variable {d : Nat} {I : zMI} {rl rs : Option (Nat × Nat)} {Q : zPQ} {G : zMR} {n k t : Nat} {C : List zCl}
set_option maxHeartbeats 4000000 in
set_option maxRecDepth 100000 in
theorem c_shifted {J : zMI} (hS : zSt8 I C n k t) (hJ : zFr I J) {l a : Nat} (hl : l < n) {f sd : Int32} (h : ∀ K, zFr I K → Q (some (zi (fFo (zup I 24 0 l (nI a)) C n t f sd 0 0))) K (zRR (some (4, 0)) rs)) : zWm (d + 5) 103 [zr 9 0, zi (nI l), zi (nI a), zi f, zi sd] J (zRR rl rs) Q := by
  have h8 := hS.1.1.2.2.1
  refine z_auto rfl ?_
  refine z_ald (k := l) rfl rfl (by show l < 8; omega) ?_
  refine z_auto rfl ?_
  refine z_ast (k := l) rfl rfl (by show l < 8; omega) ?_
  have hf : zFr (zup I 24 0 l (nI a)) (zup J 24 0 l (nI a)) := fun c i k a1 a2 a3 => by
    unfold zup
    split
    · rfl
    · exact hJ c i k a1 a2 a3
  refine z_auto rfl ?_
  refine z_cl rfl (s_forceOf (zCu_24 (zCu_fr hJ hS.2.1)) (fun K hK => ?_))
  rw [fFo_fr hf]
  refine z_auto rfl ?_
  refine z_ast (k := l) rfl rfl (by show l < 8; omega) ?_
  refine z_auto rfl ?_
  exact z_rt rfl (h _ (fun c i k a1 a2 a3 => by
    by_cases q : c = 24 ∧ i = 0 ∧ k = l
    · obtain ⟨rfl, rfl, rfl⟩ := q
      rw [zup_eq]
      exact hJ 24 0 k a1 a2 a3
    · rw [zup_ne q, hK.1 c i k a1 a2 a3, zup_ne q]
      exact hJ c i k a1 a2 a3))
/-- as zFM, but for the side of one layer -/
def zFl (l : Nat) (J K : zMI) : Prop := ∀ c i k, c ≠ 42 → c ≠ 43 → (c ≠ 10 ∨ (k ≠ 11 ∧ k ≠ 12 ∧ k ≠ 13 ∧ k ≠ 16 ∧ k ≠ 17 ∧ k ≠ 18 ∧ k ≠ 19)) → ¬ (c = 40 ∧ i = 0 ∧ k = 42 + l) → K c i k = J c i k
set_option maxHeartbeats 4000000 in
set_option maxRecDepth 100000 in
theorem m_shift {J : zMI} (hS : zSt8 I C n k t) (hR : zRel I) (hJ : zFr I J) (h14 : I 10 0 14 = 0) (h15 : I 10 0 15 = 0) {f sd : Nat} (hf : f ≤ 20) (hsd : sd ≤ 3) {g : Nat → Nat → Int32} {f0 : Int32} (hg : ∀ l a, g l a = fFo (zup I 24 0 l (nI a)) C n t (nI f) (nI sd) 0 0) (hf0 : f0 = fFo I C n t (nI f) (nI sd) 0 0) : zWm (d + 12) 149 [zr 10 0, zi (nI f), zi (nI sd)] J (zRR rl rs) (fun v2 I2 G2 => some (zi (fSh g f0 (4 * n)).1) = v2 ∧ zRel I2 ∧ ∃ rl2 rs2, G2 = zRR rl2 rs2) := by
  have h8 := hS.1.1.2.2.1
  have hb1 := hS.1.1
  obtain ⟨y0, hy0, ey0⟩ := fFo_le hS hf (by decide : 0 ≤ 100) (a := nI sd) (out := 0)
  have e0 : f0 = nI y0 := hf0.trans ey0
  have hbig : ∀ i, (fSh g f0 i).2 ≤ 100000 := fun i => Int32.le_trans (fSh_le i) (by rw [e0]; exact nI_le (a := y0) (b := 100000) (by omega) (by decide))
  have outer : ∀ q l, l + q = n → ∀ K, zFM J K → ∀ u6 u7 u8, zW (d + 12) kX10_shift (zblk kX10_shift 3) [some (zr 10 0), some (zi (nI f)), some (zi (nI sd)), some (zi (fSh g f0 (4 * l)).2), some (zi (fSh g f0 (4 * l)).1), some (zi (nI l)), u6, u7, u8] [] K (zRR rl rs) (fun v2 I2 G2 => some (zi (fSh g f0 (4 * n)).1) = v2 ∧ zRel I2 ∧ ∃ rl2 rs2, G2 = zRR rl2 rs2) := by
    intro q
    induction q with
    | zero =>
      intro l hl K hK u6 u7 u8
      have : l = n := by omega
      subst this
      have k0 : K 40 0 0 = nI l := (zSt8_fr ((zFa.r hJ).tr (zFa.M hK)) hS).1.1.2.1
      refine z_auto rfl ?_
      refine z_ald (k := 0) rfl rfl (by decide) ?_
      rw [k0]
      refine z_auto rfl ?_
      refine z_br rfl (fun c => ?_) (fun c => ?_)
      · refine z_auto rfl ?_
        exact z_rt rfl (zPr_o2 rfl (zRel_M hK (zRel_r hJ hR)))
      · exact absurd (Int32.le_refl _) c
    | succ q ih =>
      intro l hl K hK u6 u7 u8
      have k0 : K 40 0 0 = nI n := (zSt8_fr ((zFa.r hJ).tr (zFa.M hK)) hS).1.1.2.1
      obtain ⟨kd, v, th, w, sl, q0, ⟨p0, p1, p2, p3, p4⟩, r1, r2, r3, r4, r5⟩ := hb1.2.2.2.1 l (by omega)
      have k42 : K 40 0 (42 + l) = nI sl := (hK 40 0 _ (by decide) (by decide) (Or.inl (by decide))).trans ((hJ 40 0 _ (by decide) (by decide) (Or.inl (by decide))).trans r5)
      refine z_auto rfl ?_
      refine z_ald (k := 0) rfl rfl (by decide) ?_
      rw [k0]
      refine z_auto rfl ?_
      refine z_br rfl (fun c => ?_) (fun c => ?_)
      · exact absurd c (Int32.not_le.mpr (nI_lt (by omega) (by omega)))
      · refine z_auto rfl ?_
        refine z_ald (k := (42 + l)) rfl (nI_add 42 l) (by show 42 + l < 937; omega) ?_
        rw [k42]
        have inner : ∀ q a, a + q = 4 → ∀ M, zFl l J M → ∀ u8, zW (d + 12) kX10_shift (zblk kX10_shift 4) [some (zr 10 0), some (zi (nI f)), some (zi (nI sd)), some (zi (fSh g f0 (4 * l + a)).2), some (zi (fSh g f0 (4 * l + a)).1), some (zi (nI l)), some (zi (nI sl)), some (zi (nI a)), u8] [] M (zRR rl rs) (fun v2 I2 G2 => some (zi (fSh g f0 (4 * n)).1) = v2 ∧ zRel I2 ∧ ∃ rl2 rs2, G2 = zRR rl2 rs2) := by
          intro q2
          induction q2 with
          | zero =>
            intro a ha M hM u8
            have : a = 4 := by omega
            subst this
            refine z_auto rfl ?_
            refine z_jp rfl ?_
            refine z_auto rfl ?_
            refine z_ast (k := (42 + l)) rfl (nI_add 42 l) (by show 42 + l < 937; omega) ?_
            have h5 := ih (l + 1) (by omega) (zup M 40 0 (42 + l) (nI sl)) (fun c i k a1 a2 a3 => by
              by_cases q : c = 40 ∧ i = 0 ∧ k = 42 + l
              · obtain ⟨rfl, rfl, rfl⟩ := q
                rw [zup_eq, hJ 40 0 _ (by decide) (by decide) (Or.inl (by decide)), r5]
              · rw [zup_ne q]
                exact hM c i k a1 a2 a3 q) (some (zi (nI sl))) (some (zi (nI 4))) u8
            rw [nI_succ, Nat.mul_succ] at h5
            refine z_auto rfl ?_
            refine z_jp rfl ?_
            exact h5
          | succ q2 iha =>
            intro a ha M hM u8
            refine z_auto rfl ?_
            refine z_br rfl (fun c2 => ?_) (fun c2 => ?_)
            · exact absurd c2 (Int32.not_le.mpr (nI_lt (a := a) (b := 4) (by omega) (by decide)))
            · refine z_auto rfl ?_
              refine z_ast (k := (42 + l)) rfl (nI_add 42 l) (by show 42 + l < 937; omega) ?_
              obtain ⟨N, hN⟩ : ∃ N, N = zup M 40 0 (42 + l) (nI a) := ⟨_, rfl⟩
              rw [← hN]
              have n42 : N 40 0 (42 + l) = nI a := by rw [hN, zup_eq]
              have hJN : zFl l J N := fun c i k a1 a2 a3 a4 => by
                rw [hN, zup_ne a4]
                exact hM c i k a1 a2 a3 a4
              clear hN
              have st : ∀ v : Int32, ((v < (fSh g f0 (4 * l + a)).2 ∧ v = g l a) ∨ ((fSh g f0 (4 * l + a)).2 ≤ v ∧ fSh g f0 (4 * l + a + 1) = fSh g f0 (4 * l + a))) → ∀ P, zFl l J P → zW (d + 12) kX10_shift (zblk kX10_shift 6) [some (zr 10 0), some (zi (nI f)), some (zi (nI sd)), some (zi (fSh g f0 (4 * l + a)).2), some (zi (fSh g f0 (4 * l + a)).1), some (zi (nI l)), some (zi (nI sl)), some (zi (nI a)), u8] [zi v] P (zRR rl rs) (fun v2 I2 G2 => some (zi (fSh g f0 (4 * n)).1) = v2 ∧ zRel I2 ∧ ∃ rl2 rs2, G2 = zRR rl2 rs2) := by
                intro v hv P hP
                have h5 := iha (a + 1) (by omega) P hP (some (zi v))
                rw [nI_succ, show 4 * l + (a + 1) = 4 * l + a + 1 by omega] at h5
                refine z_auto rfl ?_
                refine z_br rfl (fun c3 => ?_) (fun c3 => ?_)
                · have e5 : fSh g f0 (4 * l + a + 1) = fSh g f0 (4 * l + a) := by
                    rcases hv with q | q
                    · exact absurd c3 (Int32.not_le.mpr q.1)
                    · exact q.2
                  rw [e5] at h5
                  refine z_auto rfl ?_
                  refine z_jp rfl ?_
                  refine z_auto rfl ?_
                  refine z_br rfl (fun c4 => ?_) (fun c4 => ?_)
                  · refine z_auto rfl ?_
                    refine z_jp rfl ?_
                    refine z_auto rfl ?_
                    refine z_jp rfl ?_
                    exact h5
                  · exact absurd c3 c4
                · have hlt : v < (fSh g f0 (4 * l + a)).2 ∧ v = g l a := by
                    rcases hv with q | q
                    · exact q
                    · exact absurd q.1 c3
                  have e5 : fSh g f0 (4 * l + a + 1) = (nI (10 * l + a), v) := by
                    rw [fSh, show (4 * l + a) / 4 = l by omega, show (4 * l + a) % 4 = a by omega, ← hlt.2, if_pos hlt.1]
                  rw [e5] at h5
                  refine z_auto rfl ?_
                  rw [Int32.mul_comm 10 (nI l), show nI l * 10 = nI (l * 10) from pk_mul l 10, nI_add, Nat.mul_comm l 10]
                  refine z_auto rfl ?_
                  refine z_jp rfl ?_
                  refine z_auto rfl ?_
                  refine z_br rfl (fun c4 => ?_) (fun c4 => ?_)
                  · exact absurd c4 c3
                  · refine z_auto rfl ?_
                    refine z_jp rfl ?_
                    refine z_auto rfl ?_
                    refine z_jp rfl ?_
                    exact h5
              have n40 : N 40 0 = (zup (zup I 24 0 l (nI a)) 40 0 (42 + l) (nI a)) 40 0 := funext (fun x => by
                by_cases q : x = 42 + l
                · subst q
                  rw [zup_eq, n42]
                · rw [zup_k q, zup_ne (by omega), hJN 40 0 x (by decide) (by decide) (Or.inl (by decide)) (by omega)]
                  exact hJ 40 0 x (by decide) (by decide) (Or.inl (by decide)))
              have n14 : N 10 0 14 = 0 := (hJN 10 0 14 (by decide) (by decide) (by decide) (by omega)).trans ((zFr_14 hJ).trans h14)
              have n15 : N 10 0 15 = nI 0 := (hJN 10 0 15 (by decide) (by decide) (by decide) (by omega)).trans ((zFr_15 hJ).trans h15)
              have stp : fSh g f0 (4 * l + a + 1) = if g l a < (fSh g f0 (4 * l + a)).2 then (nI (10 * l + a), g l a) else fSh g f0 (4 * l + a) := by
                rw [fSh, show (4 * l + a) / 4 = l by omega, show (4 * l + a) % 4 = a by omega]
              refine z_auto rfl ?_
              refine z_br rfl (fun c3 => ?_) (fun c3 => ?_)
              · refine z_auto rfl ?_
                refine z_cl rfl (m_fm (zSt8_24 hS (l := l) (a := a) (by omega) (by omega)) n40 hf (by decide : 0 ≤ 100) n15 n14 (fun P hP _ _ _ => ?_))
                rw [fFo_40, show (nI 0 : Int32) = 0 from rfl, ← hg l a]
                refine z_auto rfl ?_
                refine z_jp rfl ?_
                refine st (g l a) ?_ P (fun c i k a1 a2 a3 a4 => (hP c i k a1 a2 a3).trans (hJN c i k a1 a2 a3 a4))
                by_cases c4 : g l a < (fSh g f0 (4 * l + a)).2
                · exact Or.inl ⟨c4, rfl⟩
                · exact Or.inr ⟨Int32.not_lt.mp c4, by rw [stp, if_neg c4]⟩
              · have c3 := Classical.not_not.mp c3
                refine z_auto rfl ?_
                refine z_jp rfl ?_
                refine st 100000 (Or.inr ⟨hbig _, ?_⟩) N hJN
                have eg : g l a = f0 := by
                  rw [hg, c3, ← p4, zup_self, hf0]
                rw [stp, eg, if_neg (Int32.not_lt.mpr (fSh_le _))]
        refine z_auto rfl ?_
        refine z_jp rfl ?_
        exact inner 4 0 rfl K (fun c i k a1 a2 a3 _ => hK c i k a1 a2 a3) _
  refine z_auto rfl ?_
  refine z_cl rfl (m_isFloor_y hf ?_)
  refine z_auto rfl ?_
  refine z_st rfl ?_
  refine z_auto rfl ?_
  refine z_cl rfl (m_isSide_y hsd ?_)
  refine z_auto rfl ?_
  refine z_jp rfl ?_
  refine z_auto rfl ?_
  refine z_cl rfl (m_fa hS (zFa.r hJ) hf (by decide : 0 ≤ 100) ((zFr_15 hJ).trans h15) ((zFr_14 hJ).trans h14) (fun K hK _ _ _ => ?_))
  rw [show (nI 0 : Int32) = 0 from rfl, ← hf0]
  refine z_auto rfl ?_
  refine z_jp rfl ?_
  exact outer n 0 (Nat.zero_add _) K hK _ _ _
set_option maxHeartbeats 4000000 in
set_option maxRecDepth 100000 in
theorem p_shift (x1 x2 : Int32) : zPr 78 149 [zi x1, zi x2] := by
  intro d I rl rs hR
  rcases n_cases x1 20 (by decide) with ⟨f, hf, rfl⟩ | hx1
  · rcases n_cases x2 3 (by decide) with ⟨sd, hsd, rfl⟩ | hx2
    · obtain ⟨C, n, k, t, hS, h14, h15⟩ := r_st hR
      have h8 := hS.1.1.2.2.1
      obtain ⟨g, hg⟩ : ∃ g : Nat → Nat → Int32, ∀ l a, g l a = fFo (zup I 24 0 l (nI a)) C n t (nI f) (nI sd) 0 0 := ⟨_, fun _ _ => rfl⟩
      obtain ⟨f0, hf0⟩ : ∃ f0, f0 = fFo I C n t (nI f) (nI sd) 0 0 := ⟨_, rfl⟩
      have loop : ∀ q i, i + q = 4 * n → ∀ J, zFr I J → ∀ rl rs u6, zW (d + 12) kX9_shift (zblk kX9_shift 3) [some (zr 9 0), some (zi (nI f)), some (zi (nI sd)), some (zi (fSh g f0 i).2), some (zi (fSh g f0 i).1), some (zi (nI i)), u6] [] J (zRR rl rs) (fun v1 I1 G1 => ∃ rl1 rs1, G1 = zRR rl1 rs1 ∧ zWm (d + 12) 149 [zr 10 0, zi (nI f), zi (nI sd)] I1 G1 (fun v2 I2 G2 => v1 = v2 ∧ zRel I2 ∧ ∃ rl2 rs2, G2 = zRR rl2 rs2)) := by
        intro q
        induction q with
        | zero =>
          intro i hi J hJ rl rs u6
          have : i = 4 * n := by omega
          subst this
          have jn : J 4 0 7 = nI n := (zCu_fr hJ hS.2.1).2.2.2.1
          refine z_auto rfl ?_
          rw [jn, show nI n * 4 = nI (n * 4) from pk_mul n 4, Nat.mul_comm n 4]
          refine z_auto rfl ?_
          refine z_br rfl (fun c => ?_) (fun c => ?_)
          · refine z_auto rfl ?_
            exact z_rt rfl (zPr_i (fun rl' rs' => m_shift hS hR hJ h14 h15 hf hsd hg hf0))
          · exact absurd (Int32.le_refl _) c
        | succ q ih =>
          intro i hi J hJ rl rs u6
          have jn : J 4 0 7 = nI n := (zCu_fr hJ hS.2.1).2.2.2.1
          have d1 : nI i / 4 = nI (i / 4) := pk_div (a := i) (d := 4) (by omega) (by omega) (by omega)
          have d2 : nI i - nI i / 4 * 4 = nI (i % 4) := pk_rem (a := i) (d := 4) (by omega) (by omega) (by omega)
          refine z_auto rfl ?_
          rw [jn, show nI n * 4 = nI (n * 4) from pk_mul n 4, Nat.mul_comm n 4]
          refine z_auto rfl ?_
          refine z_br rfl (fun c => ?_) (fun c => ?_)
          · exact absurd c (Int32.not_le.mpr (nI_lt (by omega) (by omega)))
          · refine z_auto rfl ?_
            refine z_br rfl (fun c9 => ?_) (fun c9 => ?_)
            · exact absurd c9 (Int32.not_le.mpr (nI_lt (a := i) (b := 32) (by omega) (by decide)))
            · refine z_auto rfl ?_
              first | refine z_st rfl ?_ | refine z_ck rfl (by decide) ?_
              rw [d1]
              refine z_auto rfl ?_
              first | refine z_st rfl ?_ | refine z_ck rfl (by decide) ?_
              rw [d2]
              refine z_auto rfl ?_
              refine z_cl rfl (c_shifted hS hJ (l := i / 4) (a := i % 4) (by omega) (fun K hK => ?_))
              rw [← hg]
              have h5 := ih (i + 1) (by omega) K hK (some (4, 0)) rs (some (zi (g (i / 4) (i % 4))))
              rw [fSh, nI_succ] at h5
              refine z_auto rfl ?_
              refine z_br rfl (fun c2 => ?_) (fun c2 => ?_)
              · rw [if_neg (Int32.not_lt.mpr c2)] at h5
                refine z_auto rfl ?_
                refine z_jp rfl ?_
                exact h5
              · rw [if_pos (Int32.not_le.mp c2)] at h5
                refine z_auto rfl ?_
                first | refine z_st rfl ?_ | refine z_ck rfl (by decide) ?_
                rw [d1]
                refine z_auto rfl ?_
                first | refine z_st rfl ?_ | refine z_ck rfl (by decide) ?_
                rw [d2]
                refine z_auto rfl ?_
                rw [Int32.mul_comm 10 (nI (i / 4)), show nI (i / 4) * 10 = nI (i / 4 * 10) from pk_mul (i / 4) 10, nI_add, Nat.mul_comm (i / 4) 10]
                refine z_auto rfl ?_
                refine z_jp rfl ?_
                refine z_auto rfl ?_
                refine z_jp rfl ?_
                exact h5
      refine z_auto rfl ?_
      refine z_cl rfl (c_isFloor_y hf ?_)
      refine z_auto rfl ?_
      refine z_st rfl ?_
      refine z_auto rfl ?_
      refine z_cl rfl (c_isSide_y hsd ?_)
      refine z_auto rfl ?_
      refine z_jp rfl ?_
      refine z_auto rfl ?_
      refine z_cl rfl (s_forceOf hS.2.1 (fun K hK => ?_))
      rw [← hf0]
      refine z_auto rfl ?_
      refine z_jp rfl ?_
      exact loop (4 * n) 0 (Nat.zero_add _) K hK.1 _ _ _
    · refine z_auto rfl ?_
      refine z_cl rfl (c_isFloor_y hf ?_)
      refine z_auto rfl ?_
      refine z_st rfl ?_
      refine z_auto rfl ?_
      refine z_cl rfl (c_isSide_n hx2 ?_)
      refine z_auto rfl ?_
      refine z_st rfl ?_
      refine z_auto rfl ?_
      refine z_jp rfl ?_
      refine z_auto rfl ?_
      refine z_rt rfl (zPr_i (fun rl' rs' => ?_))
      refine z_auto rfl ?_
      refine z_cl rfl (m_isFloor_y hf ?_)
      refine z_auto rfl ?_
      refine z_st rfl ?_
      refine z_auto rfl ?_
      refine z_cl rfl (m_isSide_n hx2 ?_)
      refine z_auto rfl ?_
      refine z_st rfl ?_
      refine z_auto rfl ?_
      refine z_jp rfl ?_
      refine z_auto rfl ?_
      exact z_rt rfl (zPr_o hR)
  · refine z_auto rfl ?_
    refine z_cl rfl (c_isFloor_n hx1 ?_)
    refine z_auto rfl ?_
    refine z_jp rfl ?_
    refine z_auto rfl ?_
    refine z_rt rfl (zPr_i (fun rl' rs' => ?_))
    refine z_auto rfl ?_
    refine z_cl rfl (m_isFloor_n hx1 ?_)
    refine z_auto rfl ?_
    refine z_jp rfl ?_
    refine z_auto rfl ?_
    exact z_rt rfl (zPr_o hR)
end
