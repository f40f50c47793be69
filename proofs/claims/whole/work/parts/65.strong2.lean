/-! strong: the class's finding, the pair -/
section
variable {d : Nat} {I : zMI} {rl rs : Option (Nat × Nat)} {Q : zPQ} {G : zMR} {n k t : Nat} {C : List zCl}
theorem fFi_ok {E V : Nat → Nat → Int32} {i b : Nat} : fFi E V i b = 0 ∨ fFi E V i b = 1 := by
  rcases fFi_01 (E := E) (V := V) (b := b) i with h | h
  · exact Or.inr h.1
  · exact Or.inl h.1
set_option maxHeartbeats 4000000 in
set_option maxRecDepth 100000 in
theorem s_findFits (hS : zSt8 I C n k t) {m : Nat} (hH : zbH (I 7 0) (I 26 0) (I 27 0) (I 28 0) (I 40 0) 2 74 1 m) {E V : Nat → Nat → Int32} (hE : ∀ i b, E i b = (fEg I C n t (I 26 0 i) (I 27 0 i) 0 0 (nI b) (0, 1)).2) (hV : ∀ i b, V i b = I 28 0 i)
    (h : ∀ K, zFa I K → K 10 0 14 = I 10 0 14 → K 10 0 15 = I 10 0 15 → (∀ b, b < 100 → K 51 0 b = fFi E V m b) → ∀ rl, Q none K (zRR rl rs)) : zWm (d + 4) 105 [zr 9 0] I (zRR rl rs) Q := by
  obtain ⟨z1, z2, z3, z4⟩ := hH
  have e01 : ∀ i b, E i b = 0 ∨ E i b = 1 := fun i b => by
    rw [hE]
    exact fEg_01 (Or.inr rfl)
  have rows : ∀ q i, i + q = m → ∀ J, zFa I J → J 10 0 14 = I 10 0 14 → J 10 0 15 = I 10 0 15 → (∀ b, b < 100 → J 51 0 b = fFi E V i b) → ∀ rl u3, zW (d + 4) kX9_findFits (zblk kX9_findFits 3) [some (zr 9 0), some (zr 7 0), some (zi (nI i)), u3] [] J (zRR rl rs) Q := by
    intro q
    induction q with
    | zero =>
      intro i hi J hJ j14 j15 hf rl u3
      have : i = m := by omega
      subst this
      have j7 : J 7 0 3 = nI i := (zFa_k hJ 7 0 3 (by omega) (by omega)).trans z1
      refine z_auto rfl ?_
      rw [j7]
      refine z_auto rfl ?_
      refine z_br rfl (fun c => ?_) (fun c => ?_)
      · refine z_auto rfl ?_
        exact z_rt rfl (h J hJ j14 j15 hf rl)
      · exact absurd (Int32.le_refl _) c
    | succ q ih =>
      intro i hi J hJ j14 j15 hf rl u3
      obtain ⟨f, sd, x, ⟨q1, q2, q3⟩, ⟨p0, p1, p2⟩, r1, r2, r3⟩ := z4 i (by omega)
      have j7 : J 7 0 3 = nI m := (zFa_k hJ 7 0 3 (by omega) (by omega)).trans z1
      have j26 : J 26 0 i = nI f := (zFa_k hJ 26 0 i (by omega) (by omega)).trans p0
      have j27 : J 27 0 i = nI sd := (zFa_k hJ 27 0 i (by omega) (by omega)).trans p1
      have hC := (zSt8_fr hJ hS).2.1
      obtain ⟨e1, e2, e3, e4, e5, e6, e7, e8⟩ := hC
      refine z_auto rfl ?_
      rw [j7]
      refine z_auto rfl ?_
      refine z_br rfl (fun c => ?_) (fun c => ?_)
      · exact absurd c (Int32.not_le.mpr (nI_lt (by omega) (by omega)))
      · refine z_auto rfl ?_
        refine z_br rfl (fun c1 => ?_) (fun c1 => ?_)
        · exact absurd c1 (Int32.not_le.mpr (nI_lt (a := i) (b := 8) (by omega) (by decide)))
        · refine z_auto rfl ?_
          refine z_cl rfl (s_holding e1 e2 ?_)
          refine z_auto rfl ?_
          refine z_ald (k := i) rfl rfl (by show i < 8; omega) ?_
          refine z_auto rfl ?_
          refine z_ald (k := i) rfl rfl (by show i < 8; omega) ?_
          rw [j26, j27]
          refine z_auto rfl ?_
          refine z_cl rfl (s_happen e3 e4 e5 (by omega) e6 (fun N hN g0 g1 g2 g3 g4 g5 => ?_))
          have hIN : zFa I N := hJ.tr (zFa.r hN)
          have n28 : N 28 0 i = nI x := (zFa_k hIN 28 0 i (by omega) (by omega)).trans p2
          have n14 : N 10 0 14 = I 10 0 14 := (zFr_14 hN).trans j14
          have n15 : N 10 0 15 = I 10 0 15 := (zFr_15 hN).trans j15
          have n51 : ∀ b, b < 100 → N 51 0 b = fFi E V i b := fun b hb => (hN 51 0 b (by decide) (by decide) (Or.inl (by decide))).trans (hf b hb)
          have hz : ∀ b, (zla2 (N 3 0 7) (N 3 0 8) (N 3 0 9) (nI b) (0, 1)).2 = E i b := fun b => by
            rw [hE, p0, p1, g2, g3, g5, fAll_fa hJ]
            rfl
          have bears : ∀ q b, b + q = 100 → ∀ K, zFa N K → (∀ y, (y = 7 ∨ y = 8 ∨ y = 9) → K 3 0 y = N 3 0 y) → K 10 0 14 = I 10 0 14 → K 10 0 15 = I 10 0 15 → (∀ b', b' < b → K 51 0 b' = fFi E V (i + 1) b') → (∀ b', b ≤ b' → b' < 100 → K 51 0 b' = fFi E V i b') → ∀ rl, zW (d + 4) kX9_findFits (zblk kX9_findFits 4) [some (zr 9 0), some (zr 7 0), some (zi (nI i)), some (zi (nI b))] [] K (zRR rl rs) Q := by
            intro q
            induction q with
            | zero =>
              intro b hb K hK k3 k14 k15 hb1 hb2 rl
              have : b = 100 := by omega
              subst this
              have h5 := ih (i + 1) (by omega) K (hIN.tr hK) k14 k15 hb1 rl (some (zi (nI 100)))
              rw [nI_succ] at h5
              refine z_auto rfl ?_
              refine z_jp rfl ?_
              refine z_auto rfl ?_
              refine z_jp rfl ?_
              exact h5
            | succ q ihb =>
              intro b hb K hK k3 k14 k15 hb1 hb2 rl
              refine z_auto rfl ?_
              refine z_br rfl (fun c2 => ?_) (fun c2 => ?_)
              · exact absurd c2 (Int32.not_le.mpr (nI_lt (a := b) (b := 100) (by omega) (by decide)))
              · refine z_auto rfl ?_
                refine z_cl rfl (s_meetNew ?_)
                rw [k3 7 (by omega), k3 8 (by omega), k3 9 (by omega)]
                obtain ⟨M, hM⟩ : ∃ M, M = zup (zup K 2 2 0 (zla2 (N 3 0 7) (N 3 0 8) (N 3 0 9) (nI b) (0, 1)).1) 2 2 1 (zla2 (N 3 0 7) (N 3 0 8) (N 3 0 9) (nI b) (0, 1)).2 := ⟨_, rfl⟩
                rw [← hM]
                have fM : ∀ c i k, ¬ (c = 2 ∧ i = 2) → M c i k = K c i k := fun c i k h1 => by rw [hM, zup_ne (by omega), zup_ne (by omega)]
                have m21 : M 2 2 1 = E i b := by rw [hM, zup_eq, hz]
                clear hM
                have hKM : zFa K M := fun c i k a1 a2 a3 a4 a5 a6 a7 a8 => fM c i k (by omega)
                have m51 : M 51 0 b = fFi E V i b := (fM 51 0 b (by omega)).trans (hb2 b (Nat.le_refl _) (by omega))
                have m28 : M 28 0 i = nI x := (fM 28 0 i (by omega)).trans ((zFa_k hK 28 0 i (by omega) (by omega)).trans n28)
                have tail : ∀ v : Int32, v = (if E i b = V i b then 1 else 0) → zW (d + 4) kX9_findFits (zblk kX9_findFits 8) [some (zr 9 0), some (zr 7 0), some (zi (nI i)), some (zi (nI b))] [zi v, zi (fFi E V i b), zi (nI b), zr 51 0] M (zRR rl rs) Q := by
                  intro v hv
                  have h5 := ihb (b + 1) (by omega) (zup M 51 0 b (fFi E V (i + 1) b)) ((hK.tr hKM).tr (fun c i k a1 a2 a3 a4 a5 a6 a7 a8 => by rw [zup_ne (by omega)])) (fun y hy => by rw [zup_ne (by omega), fM 3 0 y (by omega)]; exact k3 y hy) (by rw [zup_ne (by omega), fM _ _ _ (by omega)]; exact k14) (by rw [zup_ne (by omega), fM _ _ _ (by omega)]; exact k15) (fun b' hb' => by
                    by_cases e : b' = b
                    · subst e
                      exact zup_eq
                    · rw [zup_k e, fM 51 0 b' (by omega)]
                      exact hb1 b' (by omega)) (fun b' h1 h2 => by
                    rw [zup_k (by omega), fM 51 0 b' (by omega)]
                    exact hb2 b' (by omega) h2) rl
                  rw [nI_succ] at h5
                  have ev : fFi E V i b &&& v = fFi E V (i + 1) b := by rw [hv, fFi]
                  refine z_auto rfl ?_
                  rw [ev]
                  refine z_bst (k := b) rfl rfl (by show b < 100; omega) fFi_ok ?_
                  refine z_auto rfl ?_
                  refine z_jp rfl ?_
                  exact h5
                have hVi : V i b = nI x := (hV i b).trans p2
                refine z_auto rfl ?_
                refine z_bld (k := b) rfl rfl (by show b < 100; omega) ?_
                rw [m51]
                refine z_auto rfl ?_
                rw [m21]
                refine z_auto rfl ?_
                refine z_ald (k := i) rfl rfl (by show i < 8; omega) ?_
                rw [m28]
                rcases (show x = 0 ∨ x = 1 by omega) with rfl | rfl
                · refine z_auto rfl ?_
                  refine z_jp rfl ?_
                  refine z_auto rfl ?_
                  refine z_jp rfl ?_
                  refine z_auto rfl ?_
                  refine z_br rfl (fun c3 => ?_) (fun c3 => ?_)
                  · refine z_auto rfl ?_
                    refine z_jp rfl ?_
                    exact tail 0 (by rw [hVi, if_neg (show ¬ E i b = nI 0 from c3)])
                  · refine z_auto rfl ?_
                    refine z_jp rfl ?_
                    exact tail 1 (by rw [hVi, if_pos (show E i b = nI 0 from Classical.not_not.mp c3)])
                · refine z_auto rfl ?_
                  refine z_st rfl ?_
                  refine z_auto rfl ?_
                  refine z_jp rfl ?_
                  refine z_auto rfl ?_
                  refine z_br rfl (fun c3 => ?_) (fun c3 => ?_)
                  · refine z_auto rfl ?_
                    refine z_jp rfl ?_
                    exact tail 0 (by rw [hVi, if_neg (show ¬ E i b = nI 1 from c3)])
                  · refine z_auto rfl ?_
                    refine z_jp rfl ?_
                    exact tail 1 (by rw [hVi, if_pos (show E i b = nI 1 from Classical.not_not.mp c3)])
          refine z_auto rfl ?_
          refine z_jp rfl ?_
          exact bears 100 0 rfl N zFa.rf (fun _ _ => rfl) n14 n15 (fun b' hb' => absurd hb' (Nat.not_lt_zero b')) (fun b' _ h2 => n51 b' h2) _
  have init : ∀ q b, b + q = 100 → ∀ K, zFa I K → K 10 0 14 = I 10 0 14 → K 10 0 15 = I 10 0 15 → (∀ b', b' < b → K 51 0 b' = 1) → zW (d + 4) kX9_findFits (zblk kX9_findFits 1) [some (zr 9 0), some (zi (nI b)), none, none] [] K (zRR rl rs) Q := by
    intro q
    induction q with
    | zero =>
      intro b hb K hK k14 k15 hb1
      have : b = 100 := by omega
      subst this
      refine z_auto rfl ?_
      refine z_jp rfl ?_
      refine z_auto rfl ?_
      refine z_jp rfl ?_
      exact rows m 0 (Nat.zero_add _) K hK k14 k15 hb1 rl none
    | succ q ihb =>
      intro b hb K hK k14 k15 hb1
      refine z_auto rfl ?_
      refine z_br rfl (fun c2 => ?_) (fun c2 => ?_)
      · exact absurd c2 (Int32.not_le.mpr (nI_lt (a := b) (b := 100) (by omega) (by decide)))
      · refine z_auto rfl ?_
        refine z_bst (k := b) rfl rfl (by show b < 100; omega) (Or.inr rfl) ?_
        have h5 := ihb (b + 1) (by omega) (zup K 51 0 b 1) (hK.tr (fun c i k a1 a2 a3 a4 a5 a6 a7 a8 => by rw [zup_ne (by omega)])) (by rw [zup_ne (by omega)]; exact k14) (by rw [zup_ne (by omega)]; exact k15) (fun b' hb' => by
          by_cases e : b' = b
          · subst e
            exact zup_eq
          · rw [zup_k e]
            exact hb1 b' (by omega))
        rw [nI_succ] at h5
        refine z_auto rfl ?_
        refine z_jp rfl ?_
        exact h5
  refine z_auto rfl ?_
  refine z_jp rfl ?_
  exact init 100 0 rfl I zFa.rf rfl rfl (fun b' hb' => absurd hb' (Nat.not_lt_zero b'))
set_option maxHeartbeats 4000000 in
set_option maxRecDepth 100000 in
theorem p_strong (x1 : Int32) : zPr 82 155 [zi x1] := by
  intro d I rl rs hR
  rcases n_cases x1 1 (by decide) with ⟨w, hw, rfl⟩ | hx
  · obtain ⟨C, n, k, t, hS, h14, h15⟩ := r_st hR
    have hS0 := hS
    obtain ⟨⟨b1, b2, ⟨m, b3⟩, b4, b5, b6⟩, -, -⟩ := hS0
    have hH : zbH (I 7 0) (I 26 0) (I 27 0) (I 28 0) (I 40 0) 2 74 1 m := b3
    obtain ⟨E, hE⟩ : ∃ E : Nat → Nat → Int32, ∀ i b, E i b = (fEg I C n t (I 26 0 i) (I 27 0 i) 0 0 (nI b) (0, 1)).2 := ⟨_, fun _ _ => rfl⟩
    obtain ⟨V, hV⟩ : ∃ V : Nat → Nat → Int32, ∀ i b, V i b = I 28 0 i := ⟨fun i _ => I 28 0 i, fun _ _ => rfl⟩
    obtain ⟨p, hp⟩ : ∃ p : Nat → Bool, ∀ b, p b = decide (fFi E V m b = 1) := ⟨_, fun _ => rfl⟩
    have hp1 : ∀ b, (∀ i, i < m → (fEg I C n t (I 26 0 i) (I 27 0 i) 0 0 (nI b) (0, 1)).2 = I 28 0 i) → p b = true := by
      intro b hb
      rw [hp]
      rcases fFi_01 (E := E) (V := V) (b := b) m with h | h
      · exact decide_eq_true h.1
      · exact absurd (fun j hj => by rw [hE, hV]; exact hb j hj) h.2
    have hp0 : ∀ b, (¬ ∀ i, i < m → (fEg I C n t (I 26 0 i) (I 27 0 i) 0 0 (nI b) (0, 1)).2 = I 28 0 i) → p b = false := by
      intro b hb
      rw [hp]
      rcases fFi_01 (E := E) (V := V) (b := b) m with h | h
      · exact absurd (fun j hj => by
          have := h.2 j hj
          rw [hE, hV] at this
          exact this) hb
      · exact decide_eq_false (by rw [h.1]; decide)
    obtain ⟨r, hr, hb, hl⟩ : ∃ r, r ≤ 100 ∧ (r = 100 ∨ p (if w = 0 then r else 99 - r) = true) ∧ ∀ g, g < r → p (if w = 0 then g else 99 - g) = false := by
      rcases n_first (fun g => p (if w = 0 then g else 99 - g) = false) 100 with h | ⟨f, h1, h2, h3⟩
      · exact ⟨100, Nat.le_refl _, Or.inl rfl, h⟩
      · exact ⟨f, by omega, Or.inr (by revert h2; cases p (if w = 0 then f else 99 - f) <;> simp), h3⟩
    obtain ⟨v, hv⟩ : ∃ v : Int32, v = if r = 100 then -5 else nI (if w = 0 then r else 99 - r) := ⟨_, rfl⟩
    have hv2 : v = if w = 0 then fLe p 100 else fGr p 100 := by
      rw [hv]
      by_cases c : r = 100
      · rw [if_pos c]
        by_cases cw : w = 0
        · rw [if_pos cw]
          exact (fLe_0 100 (fun g hg => by
            have := hl g (by omega)
            rw [if_pos cw] at this
            exact this)).1.symm
        · rw [if_neg cw]
          exact (fLe_0 100 (fun g hg => by
            have := hl (99 - g) (by omega)
            rw [if_neg cw, show 99 - (99 - g) = g by omega] at this
            exact this)).2.symm
      · rw [if_neg c]
        have hb2 := hb.resolve_left c
        by_cases cw : w = 0
        · rw [if_pos cw, if_pos cw]
          rw [if_pos cw] at hb2
          have := fLe_1 (p := p) (r := r) (by omega) (fun g hg => by
            have := hl g hg
            rw [if_pos cw] at this
            exact this) hb2 (99 - r)
          rw [show r + 1 + (99 - r) = 100 by omega] at this
          exact this.symm
        · rw [if_neg cw, if_neg cw]
          rw [if_neg cw] at hb2
          have := fGr_1 (p := p) (r := 99 - r) hb2 r (fun g h1 h2 => by
            have := hl (99 - g) (by omega)
            rw [if_neg cw, show 99 - (99 - g) = g by omega] at this
            exact this)
          rw [show 99 - r + 1 + r = 100 by omega] at this
          exact this.symm
    have mrun : ∀ J, zFa I J → J 10 0 14 = I 10 0 14 → J 10 0 15 = I 10 0 15 → ∀ rl' rs', zWm (d + 12) 155 [zr 10 0, zi (nI w)] J (zRR rl' rs') (fun v2 I2 G2 => some (zi v) = v2 ∧ zRel I2 ∧ ∃ rl2 rs2, G2 = zRR rl2 rs2) := by
      intro J hJ j14 j15 rl' rs'
      have loop : ∀ q i, i + q = 100 → ∀ K, zFM J K → zW (d + 12) kX10_strong (zblk kX10_strong 2) [some (zr 10 0), some (zi (nI w)), some (zi (fLe p i)), some (zi (fGr p i)), some (zi (nI i))] [] K (zRR rl' rs') (fun v2 I2 G2 => some (zi v) = v2 ∧ zRel I2 ∧ ∃ rl2 rs2, G2 = zRR rl2 rs2) := by
        intro q
        induction q with
        | zero =>
          intro i hi K hK
          have : i = 100 := by omega
          subst this
          have hRK := zRel_M hK (zRel_fr hJ (j14.trans h14) (j15.trans h15) hR)
          refine z_auto rfl ?_
          refine z_jp rfl ?_
          rcases w with _ | _ | w
          · refine z_auto rfl ?_
            refine z_st rfl ?_
            refine z_auto rfl ?_
            refine z_jp rfl ?_
            refine z_auto rfl ?_
            exact z_rt rfl (zPr_o2 (by rw [hv2]; rfl) hRK)
          · refine z_auto rfl ?_
            refine z_jp rfl ?_
            refine z_auto rfl ?_
            refine z_jp rfl ?_
            refine z_auto rfl ?_
            exact z_rt rfl (zPr_o2 (by rw [hv2]; rfl) hRK)
          · omega
        | succ q ih =>
          intro i hi K hK
          refine z_auto rfl ?_
          refine z_br rfl (fun c => ?_) (fun c => ?_)
          · exact absurd c (Int32.not_le.mpr (nI_lt (a := i) (b := 100) (by omega) (by decide)))
          · refine z_auto rfl ?_
            refine z_cl rfl (m_asSeen hS (hJ.tr (zFa.M hK)) ((zFM_14 hK).trans (j14.trans h14)) ((zFM_15 hK).trans (j15.trans h15)) hH (fun hall L hL => ?_) (fun hall L hL => ?_))
            · have h5 := ih (i + 1) (by omega) L (hK.tr hL)
              rw [fLe, fGr, hp1 i hall, if_pos rfl, if_pos rfl, nI_succ] at h5
              refine z_auto rfl ?_
              refine z_st rfl ?_
              refine z_auto rfl ?_
              refine z_br rfl (fun c2 => ?_) (fun c2 => ?_)
              · rw [if_neg c2] at h5
                refine z_auto rfl ?_
                refine z_jp rfl ?_
                refine z_auto rfl ?_
                refine z_jp rfl ?_
                refine z_auto rfl ?_
                refine z_jp rfl ?_
                exact h5
              · rw [if_pos (Classical.not_not.mp c2)] at h5
                refine z_auto rfl ?_
                refine z_jp rfl ?_
                refine z_auto rfl ?_
                refine z_jp rfl ?_
                refine z_auto rfl ?_
                refine z_jp rfl ?_
                exact h5
            · have h5 := ih (i + 1) (by omega) L (hK.tr hL)
              rw [fLe, fGr, hp0 i hall, nI_succ] at h5
              refine z_auto rfl ?_
              refine z_jp rfl ?_
              refine z_auto rfl ?_
              refine z_jp rfl ?_
              exact h5
      refine z_auto rfl ?_
      refine z_cl rfl (m_in_y (lo := 0) (hi := 1) (Nat.zero_le _) hw (by decide) ?_)
      refine z_auto rfl ?_
      refine z_jp rfl ?_
      refine z_auto rfl ?_
      refine z_jp rfl ?_
      exact loop 100 0 rfl J zFM.rf
    have loop : ∀ J, zFa I J → J 10 0 14 = I 10 0 14 → J 10 0 15 = I 10 0 15 → (∀ b, b < 100 → J 51 0 b = fFi E V m b) → ∀ rl rs, ∀ q i, i + q = r → ∀ u3, zW (d + 12) kX9_strong (zblk kX9_strong 3) [some (zr 9 0), some (zi (nI w)), some (zi (nI i)), u3] [] J (zRR rl rs) (fun v1 I1 G1 => ∃ rl1 rs1, G1 = zRR rl1 rs1 ∧ zWm (d + 12) 155 [zr 10 0, zi (nI w)] I1 G1 (fun v2 I2 G2 => v1 = v2 ∧ zRel I2 ∧ ∃ rl2 rs2, G2 = zRR rl2 rs2)) := by
      intro J hJ j14 j15 hf rl rs q
      have pf : ∀ b, b < 100 → (p b = true → J 51 0 b = 1) ∧ (p b = false → J 51 0 b = 0) := fun b hb => by
        rw [hf b hb, hp]
        rcases fFi_01 (E := E) (V := V) (b := b) m with h | h
        · rw [h.1]
          exact ⟨fun _ => rfl, fun q => absurd q (by decide)⟩
        · rw [h.1]
          exact ⟨fun q => absurd q (by decide), fun _ => rfl⟩
      have five : ∀ (b : Nat), b < 100 → ∀ (y : Int32) u3, ∀ P : zPQ, (p b = true → P (some (zi (nI b))) J (zRR rl rs)) → (p b = false → zW (d + 12) kX9_strong (zblk kX9_strong 6) [some (zr 9 0), some (zi (nI w)), some (zi y), some (zi (nI b))] [] J (zRR rl rs) P) → zW (d + 12) kX9_strong (zblk kX9_strong 5) [some (zr 9 0), some (zi (nI w)), some (zi y), u3] [zi (nI b)] J (zRR rl rs) P := by
        intro b hb y u3 P k1 k0
        refine z_auto rfl ?_
        refine z_bld (k := b) rfl rfl (by show b < 100; omega) ?_
        cases hpb : p b with
        | true =>
          rw [(pf b hb).1 hpb]
          refine z_auto rfl ?_
          refine z_st rfl ?_
          refine z_auto rfl ?_
          exact z_rt rfl (k1 hpb)
        | false =>
          rw [(pf b hb).2 hpb]
          refine z_auto rfl ?_
          refine z_jp rfl ?_
          exact k0 hpb
      induction q with
      | zero =>
        intro i hi u3
        have : i = r := by omega
        subst this
        by_cases c : i = 100
        · subst c
          refine z_auto rfl ?_
          refine z_jp rfl ?_
          refine z_auto rfl ?_
          exact z_rt rfl (zPr_i (by rw [if_pos rfl] at hv; rw [← hv]; exact mrun J hJ j14 j15))
        · rw [if_neg c] at hv
          have hb2 := hb.resolve_left c
          refine z_auto rfl ?_
          refine z_br rfl (fun c1 => ?_) (fun c1 => ?_)
          · exact absurd c1 (Int32.not_le.mpr (nI_lt (a := i) (b := 100) (by omega) (by decide)))
          · rcases (show w = 0 ∨ w = 1 by omega) with rfl | rfl
            · rw [if_pos rfl] at hb2 hv
              refine z_auto rfl ?_
              refine z_st rfl ?_
              refine z_auto rfl ?_
              refine z_jp rfl ?_
              exact five i (by omega) _ _ _ (fun _ => by rw [← hv]; exact zPr_i (mrun J hJ j14 j15)) (fun q => absurd (q.symm.trans hb2) (by decide))
            · rw [if_neg (by decide)] at hb2 hv
              have e : nI 100 - 1 - nI i = nI (99 - i) := by
                rw [show nI 100 - 1 = nI ((99 - i) + i) by rw [show 99 - i + i = 99 by omega]; decide, ← nI_add, Int32.add_sub_cancel]
              refine z_auto rfl ?_
              refine z_jp rfl ?_
              refine z_auto rfl ?_
              rw [show nI (zal 51) - 1 - nI i = nI (99 - i) from e]
              refine z_auto rfl ?_
              refine z_jp rfl ?_
              exact five (99 - i) (by omega) _ _ _ (fun _ => by rw [← hv]; exact zPr_i (mrun J hJ j14 j15)) (fun q => absurd (q.symm.trans hb2) (by decide))
      | succ q ih =>
        intro i hi u3
        have hl2 := hl i (by omega)
        refine z_auto rfl ?_
        refine z_br rfl (fun c1 => ?_) (fun c1 => ?_)
        · exact absurd c1 (Int32.not_le.mpr (nI_lt (a := i) (b := 100) (by omega) (by decide)))
        · rcases (show w = 0 ∨ w = 1 by omega) with rfl | rfl
          · rw [if_pos rfl] at hl2
            have h5 := ih (i + 1) (by omega) (some (zi (nI i)))
            rw [nI_succ] at h5
            refine z_auto rfl ?_
            refine z_st rfl ?_
            refine z_auto rfl ?_
            refine z_jp rfl ?_
            refine five i (by omega) _ _ _ (fun q => absurd (q.symm.trans hl2) (by decide)) (fun _ => ?_)
            refine z_auto rfl ?_
            refine z_jp rfl ?_
            exact h5
          · rw [if_neg (by decide)] at hl2
            have e : nI 100 - 1 - nI i = nI (99 - i) := by
              rw [show nI 100 - 1 = nI ((99 - i) + i) by rw [show 99 - i + i = 99 by omega]; decide, ← nI_add, Int32.add_sub_cancel]
            have h5 := ih (i + 1) (by omega) (some (zi (nI (99 - i))))
            rw [nI_succ i] at h5
            refine z_auto rfl ?_
            refine z_jp rfl ?_
            refine z_auto rfl ?_
            rw [show nI (zal 51) - 1 - nI i = nI (99 - i) from e]
            refine z_auto rfl ?_
            refine z_jp rfl ?_
            refine five (99 - i) (by omega) _ _ _ (fun q => absurd (q.symm.trans hl2) (by decide)) (fun _ => ?_)
            refine z_auto rfl ?_
            refine z_jp rfl ?_
            exact h5
    have go : ∀ u2 u3, zW (d + 12) kX9_strong (zblk kX9_strong 2) [some (zr 9 0), some (zi (nI w)), u2, u3] [] I (zRR rl rs) (fun v1 I1 G1 => ∃ rl1 rs1, G1 = zRR rl1 rs1 ∧ zWm (d + 12) 155 [zr 10 0, zi (nI w)] I1 G1 (fun v2 I2 G2 => v1 = v2 ∧ zRel I2 ∧ ∃ rl2 rs2, G2 = zRR rl2 rs2)) := by
      intro u2 u3
      refine z_auto rfl ?_
      refine z_cl rfl (s_findFits hS hH hE hV (fun K hK k14 k15 hf rl => ?_))
      refine z_auto rfl ?_
      refine z_jp rfl ?_
      exact loop K hK k14 k15 hf rl rs r 0 (Nat.zero_add _) u3
    refine z_auto rfl ?_
    refine z_br rfl (fun c => ?_) (fun c => ?_)
    · exact absurd c (nI_pos (by omega))
    · refine z_auto rfl ?_
      refine z_br rfl (fun c2 => ?_) (fun c2 => ?_)
      · exact go none none
      · exact absurd (nI_le (b := 1) hw (by decide)) c2
  · have mrun : ∀ rl' rs', zWm (d + 12) 155 [zr 10 0, zi x1] I (zRR rl' rs') (fun v2 I2 G2 => some (zi (-1)) = v2 ∧ zRel I2 ∧ ∃ rl2 rs2, G2 = zRR rl2 rs2) := by
      intro rl' rs'
      refine z_auto rfl ?_
      refine z_cl rfl (m_in_n hx ?_)
      refine z_auto rfl ?_
      refine z_st rfl ?_
      refine z_auto rfl ?_
      exact z_rt rfl (zPr_o hR)
    refine z_auto rfl ?_
    refine z_br rfl (fun c => ?_) (fun c => ?_)
    · refine z_auto rfl ?_
      exact z_rt rfl (zPr_i mrun)
    · refine z_auto rfl ?_
      refine z_br rfl (fun c2 => ?_) (fun c2 => ?_)
      · exact absurd hx (fun q => q.elim c (fun q => absurd q (Int32.not_lt.mpr c2)))
      · refine z_auto rfl ?_
        refine z_jp rfl ?_
        refine z_auto rfl ?_
        exact z_rt rfl (zPr_i mrun)
end
