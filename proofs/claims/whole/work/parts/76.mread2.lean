/-! the model reads conditions -/
def mOne (I : zMI) (c : Nat → Nat) (N a : Nat) (rl rs : Option (Nat × Nat)) (o d m : Nat) (g : Nat → fR) : Prop := ∀ (J : zMI) (p : Nat) (B : List Int32) (Q : zPQ), zPq a I J p o B → p ≤ N → B.length ≤ p → (∀ q st K, g p = (q, some st) → zPq a I K q o (B ++ st.map zms) → Q none K (zRR rl rs)) → (∀ q K, g p = (q, none) → zPw a I K q → Q none K (zRR rl rs)) → zWm d m [zr 10 0] J (zRR rl rs) Q
section
variable {d : Nat} {I J : zMI} {rl rs : Option (Nat × Nat)} {Q : zPQ} {c : Nat → Nat} {N p a o : Nat} {B : List Int32}
set_option maxHeartbeats 4000000 in
set_option maxRecDepth 100000 in
theorem m_factor_w (hJ : zPw a I J p) (h : Q none J (zRR rl rs)) : zWm d 120 [zr 10 0] J (zRR rl rs) Q := by
  refine z_auto rfl ?_
  rw [hJ.2.2]
  refine z_auto rfl ?_
  refine z_st rfl ?_
  refine z_auto rfl ?_
  exact z_rt rfl h
set_option maxHeartbeats 4000000 in
set_option maxRecDepth 100000 in
theorem m_every_w (hJ : zPw a I J p) (h : Q none J (zRR rl rs)) : zWm (d + 1) 121 [zr 10 0] J (zRR rl rs) Q := by
  refine z_auto rfl ?_
  refine z_cl rfl (m_factor_w hJ ?_)
  refine z_auto rfl ?_
  refine z_jp rfl ?_
  refine z_auto rfl ?_
  rw [hJ.2.2]
  refine z_auto rfl ?_
  refine z_jp rfl ?_
  refine z_auto rfl ?_
  exact z_rt rfl h
set_option maxHeartbeats 4000000 in
set_option maxRecDepth 100000 in
theorem m_some_w (hJ : zPw a I J p) (h : Q none J (zRR rl rs)) : zWm (d + 2) 122 [zr 10 0] J (zRR rl rs) Q := by
  refine z_auto rfl ?_
  refine z_cl rfl (m_every_w hJ ?_)
  refine z_auto rfl ?_
  refine z_jp rfl ?_
  refine z_auto rfl ?_
  rw [hJ.2.2]
  refine z_auto rfl ?_
  refine z_jp rfl ?_
  refine z_auto rfl ?_
  exact z_rt rfl h
set_option maxHeartbeats 4000000 in
set_option maxRecDepth 100000 in
theorem m_every {g : Nat → fR} {F : Nat} (hI : zTm2 I c N a) (hg : fGd N F g) (ho : mOne I c N a rl rs o (d + 1) 120 g) : mOne I c N a rl rs o (d + 2) 121 (fPar c g 38 1501) := by
  have i2 := hI.2.1
  have i3 := hI.2.2.1
  intro J p B Q hJ hp hB h1 h0
  have wrong : ∀ (K : zMI) (q : Nat), zPw a I K q → Q none K (zRR rl rs) → zW (d + 2) kX10_every (zblk kX10_every 1) [some (zr 10 0)] [] K (zRR rl rs) Q := by
    intro K q hK hq
    refine z_auto rfl ?_
    rw [hK.2.2]
    refine z_auto rfl ?_
    refine z_jp rfl ?_
    refine z_auto rfl ?_
    exact z_rt rfl hq
  have loop : ∀ k p st K, zPq a I K p o (B ++ st.map zms) → p ≤ N → (B ++ st.map zms).length ≤ p → 100 < k + p → (∀ q st' K', fMor c g 38 1501 k p st = (q, some st') → zPq a I K' q o (B ++ st'.map zms) → Q none K' (zRR rl rs)) → (∀ q K', fMor c g 38 1501 k p st = (q, none) → zPw a I K' q → Q none K' (zRR rl rs)) → zW (d + 2) kX10_every (zblk kX10_every 1) [some (zr 10 0)] [] K (zRR rl rs) Q := by
    intro k
    induction k with
    | zero =>
      intro p st K hK hp hB hk h1 h0
      omega
    | succ k ih =>
      intro p st K hK hp hB hk h1 h0
      refine z_auto rfl ?_
      rw [hK.2.2.1]
      refine z_auto rfl ?_
      refine z_st rfl ?_
      refine z_auto rfl ?_
      refine z_cl rfl (m_here hI hK.1 hK.2.1 hp ?_)
      refine z_auto rfl ?_
      refine z_br rfl (fun c1 => ?_) (fun c1 => ?_)
      · have e : ¬ c p = 38 := fun q => c1 ((zN_eq (y := 38) (by decide)).mpr q)
        refine z_auto rfl ?_
        exact z_rt rfl (h1 p st K (by rw [fMor, if_neg e]) hK)
      · have e : c p = 38 := (zN_eq (y := 38) (by decide)).mp (Classical.not_not.mp c1)
        have hpN : p < N := (i3 p).mp (by omega)
        have hgp := hg (p + 1) hpN
        refine z_auto rfl ?_
        rw [hK.2.1]
        refine z_auto rfl ?_
        rw [show nI p + 1 = nI (p + 1) from (nI_succ p).symm]
        refine z_auto rfl ?_
        refine z_cl rfl (ho _ (p + 1) (B ++ st.map zms) _ (zPq_sp hK) hpN (by omega) (fun q st2 M e2 hM => ?_) (fun q M e2 hM => ?_))
        · rw [e2] at hgp
          obtain ⟨g1, g2, g3⟩ := hgp
          obtain ⟨g4, g5, g6⟩ := g3 st2 rfl
          dsimp only at g1 g2 g4 g5
          have hlen : (B ++ st.map zms ++ st2.map zms).length ≤ q - 1 := by
            rw [List.length_append, List.length_map]
            omega
          refine z_auto rfl ?_
          refine z_cl rfl (m_emits hI hM (by omega) (fun P hP => ?_))
          rw [show (B ++ st.map zms ++ st2.map zms ++ [-2] : List Int32) = B ++ (st ++ (st2 ++ [1501])).map zms by simp only [List.map_append, List.append_assoc, List.map_cons, List.map_nil]; rfl] at hP
          refine z_auto rfl ?_
          refine z_jp rfl ?_
          exact ih q (st ++ (st2 ++ [1501])) P hP g1 (by
            rw [List.length_append, List.length_map] at hlen ⊢
            rw [List.length_append, List.length_map] at hlen
            rw [List.length_append, List.length_append, List.length_singleton]
            omega) (by omega) (fun q' st' K' eq hK' => h1 q' st' K' (by rw [fMor, if_pos e, e2]; exact eq) hK') (fun q' K' eq hK' => h0 q' K' (by rw [fMor, if_pos e, e2]; exact eq) hK')
        · refine z_auto rfl ?_
          refine z_cl rfl (m_emits_w hM ?_)
          refine z_auto rfl ?_
          refine z_jp rfl ?_
          exact wrong M q hM (h0 q M (by rw [fMor, if_pos e, e2]) hM)
  have hgp := hg p hp
  refine z_auto rfl ?_
  refine z_cl rfl (ho J p B _ hJ hp hB (fun q st M e2 hM => ?_) (fun q M e2 hM => ?_))
  · rw [e2] at hgp
    obtain ⟨g1, g2, g3⟩ := hgp
    obtain ⟨g4, g5, g6⟩ := g3 st rfl
    dsimp only at g1 g2 g4 g5
    refine z_auto rfl ?_
    refine z_jp rfl ?_
    exact loop 100 q st M hM g1 (by rw [List.length_append, List.length_map]; omega) (by omega) (fun q' st' K' eq hK' => h1 q' st' K' (by rw [fPar, e2]; exact eq) hK') (fun q' K' eq hK' => h0 q' K' (by rw [fPar, e2]; exact eq) hK')
  · refine z_auto rfl ?_
    refine z_jp rfl ?_
    exact wrong M q hM (h0 q M (by rw [fPar, e2]) hM)
set_option maxHeartbeats 4000000 in
set_option maxRecDepth 100000 in
theorem m_some {g : Nat → fR} {F : Nat} (hI : zTm2 I c N a) (hg : fGd N F g) (ho : mOne I c N a rl rs o (d + 1) 121 g) : mOne I c N a rl rs o (d + 2) 122 (fPar c g 124 1502) := by
  have i2 := hI.2.1
  have i3 := hI.2.2.1
  intro J p B Q hJ hp hB h1 h0
  have wrong : ∀ (K : zMI) (q : Nat), zPw a I K q → Q none K (zRR rl rs) → zW (d + 2) kX10_some (zblk kX10_some 1) [some (zr 10 0)] [] K (zRR rl rs) Q := by
    intro K q hK hq
    refine z_auto rfl ?_
    rw [hK.2.2]
    refine z_auto rfl ?_
    refine z_jp rfl ?_
    refine z_auto rfl ?_
    exact z_rt rfl hq
  have loop : ∀ k p st K, zPq a I K p o (B ++ st.map zms) → p ≤ N → (B ++ st.map zms).length ≤ p → 100 < k + p → (∀ q st' K', fMor c g 124 1502 k p st = (q, some st') → zPq a I K' q o (B ++ st'.map zms) → Q none K' (zRR rl rs)) → (∀ q K', fMor c g 124 1502 k p st = (q, none) → zPw a I K' q → Q none K' (zRR rl rs)) → zW (d + 2) kX10_some (zblk kX10_some 1) [some (zr 10 0)] [] K (zRR rl rs) Q := by
    intro k
    induction k with
    | zero =>
      intro p st K hK hp hB hk h1 h0
      omega
    | succ k ih =>
      intro p st K hK hp hB hk h1 h0
      refine z_auto rfl ?_
      rw [hK.2.2.1]
      refine z_auto rfl ?_
      refine z_st rfl ?_
      refine z_auto rfl ?_
      refine z_cl rfl (m_here hI hK.1 hK.2.1 hp ?_)
      refine z_auto rfl ?_
      refine z_br rfl (fun c1 => ?_) (fun c1 => ?_)
      · have e : ¬ c p = 124 := fun q => c1 ((zN_eq (y := 124) (by decide)).mpr q)
        refine z_auto rfl ?_
        exact z_rt rfl (h1 p st K (by rw [fMor, if_neg e]) hK)
      · have e : c p = 124 := (zN_eq (y := 124) (by decide)).mp (Classical.not_not.mp c1)
        have hpN : p < N := (i3 p).mp (by omega)
        have hgp := hg (p + 1) hpN
        refine z_auto rfl ?_
        rw [hK.2.1]
        refine z_auto rfl ?_
        rw [show nI p + 1 = nI (p + 1) from (nI_succ p).symm]
        refine z_auto rfl ?_
        refine z_cl rfl (ho _ (p + 1) (B ++ st.map zms) _ (zPq_sp hK) hpN (by omega) (fun q st2 M e2 hM => ?_) (fun q M e2 hM => ?_))
        · rw [e2] at hgp
          obtain ⟨g1, g2, g3⟩ := hgp
          obtain ⟨g4, g5, g6⟩ := g3 st2 rfl
          dsimp only at g1 g2 g4 g5
          have hlen : (B ++ st.map zms ++ st2.map zms).length ≤ q - 1 := by
            rw [List.length_append, List.length_map]
            omega
          refine z_auto rfl ?_
          refine z_cl rfl (m_emits hI hM (by omega) (fun P hP => ?_))
          rw [show (B ++ st.map zms ++ st2.map zms ++ [-3] : List Int32) = B ++ (st ++ (st2 ++ [1502])).map zms by simp only [List.map_append, List.append_assoc, List.map_cons, List.map_nil]; rfl] at hP
          refine z_auto rfl ?_
          refine z_jp rfl ?_
          exact ih q (st ++ (st2 ++ [1502])) P hP g1 (by
            rw [List.length_append, List.length_map] at hlen ⊢
            rw [List.length_append, List.length_map] at hlen
            rw [List.length_append, List.length_append, List.length_singleton]
            omega) (by omega) (fun q' st' K' eq hK' => h1 q' st' K' (by rw [fMor, if_pos e, e2]; exact eq) hK') (fun q' K' eq hK' => h0 q' K' (by rw [fMor, if_pos e, e2]; exact eq) hK')
        · refine z_auto rfl ?_
          refine z_cl rfl (m_emits_w hM ?_)
          refine z_auto rfl ?_
          refine z_jp rfl ?_
          exact wrong M q hM (h0 q M (by rw [fMor, if_pos e, e2]) hM)
  have hgp := hg p hp
  refine z_auto rfl ?_
  refine z_cl rfl (ho J p B _ hJ hp hB (fun q st M e2 hM => ?_) (fun q M e2 hM => ?_))
  · rw [e2] at hgp
    obtain ⟨g1, g2, g3⟩ := hgp
    obtain ⟨g4, g5, g6⟩ := g3 st rfl
    dsimp only at g1 g2 g4 g5
    refine z_auto rfl ?_
    refine z_jp rfl ?_
    exact loop 100 q st M hM g1 (by rw [List.length_append, List.length_map]; omega) (by omega) (fun q' st' K' eq hK' => h1 q' st' K' (by rw [fPar, e2]; exact eq) hK') (fun q' K' eq hK' => h0 q' K' (by rw [fPar, e2]; exact eq) hK')
  · refine z_auto rfl ?_
    refine z_jp rfl ?_
    exact wrong M q hM (h0 q M (by rw [fPar, e2]) hM)
set_option maxHeartbeats 4000000 in
set_option maxRecDepth 100000 in
theorem m_test {J : zMI} (hI : zTm2 I c N a) (hJ : zPq a I J p o B) (hp : p ≤ N) (hB : B.length ≤ p) (h1 : ∀ q st K, fTst c p = (q, some st) → zPq a I K q o (B ++ st.map zms) → Q none K (zRR rl rs)) (h0 : ∀ q K, fTst c p = (q, none) → zPw a I K q → Q none K (zRR rl rs)) {u1 : Int32} {u2 u3 u4 : Option zAV} : zW (d + 2) kX10_factor (zblk kX10_factor 9) [some (zr 10 0), some (zi u1), u2, u3, u4] [] J (zRR rl rs) Q := by
  have i2 := hI.2.1
  have i3 := hI.2.2.1
  refine z_auto rfl ?_
  refine z_cl rfl (m_among hI hJ hp (j := 4) (l := [102, 115, 107, 116, 121]) (by decide) rfl (by decide) (by decide) (fun l K e1 hK => ?_) (fun e1 => ?_))
  · have l1 : l < 5 := fIx_lt _ _ _ e1
    have c1 : p < N := by
      apply Classical.byContradiction
      intro q
      rw [fIx_no (by decide) (fun q2 => q ((i3 p).mp q2))] at e1
      cases e1
    refine z_auto rfl ?_
    refine z_br rfl (fun g1 => ?_) (fun g1 => ?_)
    · refine z_auto rfl ?_
      refine z_jp rfl ?_
      refine z_auto rfl ?_
      refine z_ck rfl (show (0 : Int32) = 0 ∨ (0 : Int32) = 1 from Or.inl rfl) ?_
      refine z_auto rfl ?_
      rw [zup_eq]
      refine z_auto rfl ?_
      refine z_jp rfl ?_
      have hK0 := zPq_0 hK
      refine z_auto rfl ?_
      refine z_cl rfl (m_among hI hK0 c1 (j := 5) (l := [60, 61, 62]) (by decide) rfl (by decide) (by decide) (fun s M e2 hM => ?_) (fun e2 => ?_))
      · have l2 : s < 3 := fIx_lt _ _ _ e2
        have c2 : p + 1 < N := by
          apply Classical.byContradiction
          intro q
          rw [fIx_no (by decide) (fun q2 => q ((i3 (p + 1)).mp q2))] at e2
          cases e2
        refine z_auto rfl ?_
        refine z_jp rfl ?_
        refine z_auto rfl ?_
        rw [hM.2.2.1]
        refine z_auto rfl ?_
        refine z_st rfl ?_
        refine z_auto rfl ?_
        refine z_br rfl (fun g2 => ?_) (fun g2 => ?_)
        · refine z_auto rfl ?_
          refine z_jp rfl ?_
          refine z_auto rfl ?_
          refine z_ck rfl (show (0 : Int32) = 0 ∨ (0 : Int32) = 1 from Or.inl rfl) ?_
          refine z_auto rfl ?_
          refine z_cl rfl (m_figures hI (zPq_0 hM) c2 (fun q n P e3 hP => ?_) (fun e3 x P hP => ?_))
          · have hn := (fNum_gd i3 (p := p + 2) c2).2.2 n (by rw [e3])
            have ev : nI l + 8 * nI s + 32 * nI n = zms (300 * l + 100 * s + n) := by
              rw [zms, if_pos (by omega), show (300 * l + 100 * s + n) / 300 = l by omega, show (300 * l + 100 * s + n) % 300 / 100 = s by omega, show (300 * l + 100 * s + n) % 100 = n by omega, Int32.mul_comm 8 (nI s), Int32.mul_comm 32 (nI n), show nI s * 8 = nI (s * 8) from pk_mul s 8, show nI n * 32 = nI (n * 32) from pk_mul n 32, nI_add, nI_add, Nat.mul_comm s 8, Nat.mul_comm n 32]
            refine z_auto rfl ?_
            rw [ev]
            refine z_auto rfl ?_
            refine z_cl rfl (m_emits hI hP (by omega) (fun R hR => ?_))
            refine z_auto rfl ?_
            exact z_rt rfl (h1 q [300 * l + 100 * s + n] R (by rw [fTst, e1]; dsimp only; rw [e2]; dsimp only; rw [e3]) hR)
          · refine z_auto rfl ?_
            refine z_cl rfl (m_emits_w hP ?_)
            refine z_auto rfl ?_
            exact z_rt rfl (h0 (p + 2) P (by rw [fTst, e1]; dsimp only; rw [e2]; dsimp only; rw [e3]) hP)
        · exact absurd (Classical.not_not.mp g2) (fun q => absurd (show nI s < 0 by rw [q]; decide) (nI_pos (by omega)))
      · refine z_auto rfl ?_
        refine z_jp rfl ?_
        refine z_auto rfl ?_
        rw [hK0.2.2.1]
        refine z_auto rfl ?_
        refine z_st rfl ?_
        refine z_auto rfl ?_
        refine z_st rfl ?_
        refine z_auto rfl ?_
        refine z_jp rfl ?_
        refine z_auto rfl ?_
        refine z_jp rfl ?_
        refine z_auto rfl ?_
        refine z_ck rfl (show (1 : Int32) = 0 ∨ (1 : Int32) = 1 from Or.inr rfl) ?_
        refine z_auto rfl ?_
        refine z_cl rfl (m_figures_w (zPq_w hK0) (fun P hP => ?_))
        refine z_auto rfl ?_
        refine z_cl rfl (m_emits_w hP ?_)
        refine z_auto rfl ?_
        exact z_rt rfl (h0 (p + 1) P (by rw [fTst, e1]; dsimp only; rw [e2]) hP)
    · exact absurd (Classical.not_not.mp g1) (fun q => absurd (show nI l < 0 by rw [q]; decide) (nI_pos (by omega)))
  · refine z_auto rfl ?_
    refine z_st rfl ?_
    refine z_auto rfl ?_
    refine z_jp rfl ?_
    refine z_auto rfl ?_
    refine z_ck rfl (show (1 : Int32) = 0 ∨ (1 : Int32) = 1 from Or.inr rfl) ?_
    refine z_auto rfl ?_
    rw [zup_eq]
    refine z_auto rfl ?_
    refine z_st rfl ?_
    refine z_auto rfl ?_
    refine z_jp rfl ?_
    have hw := zPq_w hJ
    refine z_auto rfl ?_
    rw [hw.2.2]
    refine z_auto rfl ?_
    refine z_jp rfl ?_
    refine z_auto rfl ?_
    refine z_jp rfl ?_
    refine z_auto rfl ?_
    refine z_ck rfl (show (1 : Int32) = 0 ∨ (1 : Int32) = 1 from Or.inr rfl) ?_
    refine z_auto rfl ?_
    refine z_cl rfl (m_figures_w (zPw_7 hw) (fun P hP => ?_))
    refine z_auto rfl ?_
    refine z_cl rfl (m_emits_w hP ?_)
    refine z_auto rfl ?_
    exact z_rt rfl (h0 p P (by rw [fTst, e1]) hP)
set_option maxHeartbeats 4000000 in
set_option maxRecDepth 100000 in
theorem m_one (hI : zTm2 I c N a) : ∀ f, f ≤ 5 → ∀ d, mOne I c N a rl rs (5 - f) (3 * f + d + 3) 120 (fOne c f) := by
  have i2 := hI.2.1
  have i3 := hI.2.2.1
  intro f
  induction f with
  | zero =>
    intro hf d J p B Q hJ hp hB h1 h0
    have j8 : J 10 0 8 = 5 := hJ.2.2.2.1
    refine z_auto rfl ?_
    rw [hJ.2.2.1]
    refine z_auto rfl ?_
    refine z_jp rfl ?_
    refine z_auto rfl ?_
    refine z_cl rfl (m_here hI hJ.1 hJ.2.1 hp ?_)
    have two : ∀ x : Int32, (x = 33 ∨ x = 40) → (c p = 33 ∨ c p = 40) → zW (3 * 0 + d + 3) kX10_factor (zblk kX10_factor 2) [some (zr 10 0), some (zi x), none, none, none] [] J (zRR rl rs) Q := by
      intro x hx e
      refine z_auto rfl ?_
      rw [j8]
      refine z_auto rfl ?_
      refine z_st rfl ?_
      refine z_auto rfl ?_
      refine z_jp rfl ?_
      refine z_auto rfl ?_
      refine z_ck rfl (show (1 : Int32) = 0 ∨ (1 : Int32) = 1 from Or.inr rfl) ?_
      have e8 : zup J 10 0 7 1 10 0 8 = 5 := by rw [zup_k (by decide), j8]
      have e7 : ∀ v, zup (zup J 10 0 7 1) 10 0 8 v 10 0 7 = 1 := fun v => by rw [zup_k (by decide), zup_eq]
      have e5 : ∀ v, zup (zup J 10 0 7 1) 10 0 8 v 10 0 5 = nI p := fun v => by rw [zup_k (by decide), zup_k (by decide), hJ.2.1]
      refine z_auto rfl ?_
      rw [e8, e7, e5]
      refine z_auto rfl ?_
      refine z_st rfl ?_
      refine z_auto rfl ?_
      refine z_jp rfl ?_
      refine z_auto rfl ?_
      rw [show nI p + 0 = nI p from Int32.add_zero _]
      obtain ⟨W, hW⟩ : ∃ W, W = zup (zup (zup J 10 0 7 1) 10 0 8 (5 + 1)) 10 0 5 (nI p) := ⟨_, rfl⟩
      rw [← hW]
      have hw : zPw a I W p := by
        rw [hW]
        exact zPw_sp (zPw_op (zPq_w hJ))
      clear hW
      have fin : ∀ (P : zMI), zPw a I P p → Q none P (zRR rl rs) := fun P hP => h0 p P (by rw [fOne, if_pos e]) hP
      rcases hx with rfl | rfl
      · refine z_auto rfl ?_
        refine z_st rfl ?_
        refine z_auto rfl ?_
        refine z_cl rfl (m_factor_w hw ?_)
        refine z_auto rfl ?_
        refine z_cl rfl (m_emits_w hw ?_)
        refine z_auto rfl ?_
        refine z_jp rfl ?_
        refine z_auto rfl ?_
        exact z_rt rfl (fin _ (zPw_op hw))
      · refine z_auto rfl ?_
        refine z_jp rfl ?_
        refine z_auto rfl ?_
        refine z_cl rfl (m_some_w hw ?_)
        refine z_auto rfl ?_
        refine z_cl rfl (m_must_w hw (fun R hR => ?_))
        refine z_auto rfl ?_
        refine z_jp rfl ?_
        refine z_auto rfl ?_
        exact z_rt rfl (fin _ (zPw_op hR))
    refine z_auto rfl ?_
    refine z_br rfl (fun c1 => ?_) (fun c1 => ?_)
    · have e := (zN_eq (y := 33) (by decide)).mp c1
      rw [c1]
      exact two 33 (Or.inl rfl) (Or.inl e)
    · have e1 : ¬ c p = 33 := fun q => c1 ((zN_eq (y := 33) (by decide)).mpr q)
      refine z_auto rfl ?_
      refine z_br rfl (fun c2 => ?_) (fun c2 => ?_)
      · have e2 : ¬ c p = 40 := fun q => c2 ((zN_eq (y := 40) (by decide)).mpr q)
        have e3 : fOne c 0 p = fTst c p := by rw [fOne, if_neg (fun q => q.elim e1 e2)]
        exact m_test (d := 3 * 0 + d + 1) hI hJ hp hB (fun q st K e => h1 q st K (e3.trans e)) (fun q K e => h0 q K (e3.trans e))
      · have e := (zN_eq (y := 40) (by decide)).mp (Classical.not_not.mp c2)
        rw [Classical.not_not.mp c2]
        refine z_auto rfl ?_
        refine z_jp rfl ?_
        exact two 40 (Or.inr rfl) (Or.inr e)
  | succ f ih =>
    intro hf d J p B Q hJ hp hB h1 h0
    have go : 5 - (f + 1) < 5 := by omega
    rw [show 3 * (f + 1) + d + 3 = (3 * f + d + 3) + 1 + 1 + 1 by omega]
    have eo : nI (5 - (f + 1)) + 1 = nI (5 - f) := by
      rw [← nI_succ, show 5 - (f + 1) + 1 = 5 - f by omega]
    have eo2 : nI (5 - f) - 1 = nI (5 - (f + 1)) := by
      rw [← eo, Int32.add_sub_cancel]
    have j8 := hJ.2.2.2.1
    refine z_auto rfl ?_
    rw [hJ.2.2.1]
    refine z_auto rfl ?_
    refine z_jp rfl ?_
    refine z_auto rfl ?_
    refine z_cl rfl (m_here hI hJ.1 hJ.2.1 hp ?_)
    have two : ∀ x : Int32, (x = 33 ∧ c p = 33) ∨ (x = 40 ∧ c p = 40) → zW ((3 * f + d + 3) + 1 + 1 + 1) kX10_factor (zblk kX10_factor 2) [some (zr 10 0), some (zi x), none, none, none] [] J (zRR rl rs) Q := by
      intro x hx
      have hpN : p < N := (i3 p).mp (by omega)
      refine z_auto rfl ?_
      rw [j8]
      refine z_auto rfl ?_
      refine z_br rfl (fun c3 => ?_) (fun c3 => ?_)
      · refine z_auto rfl ?_
        refine z_jp rfl ?_
        refine z_auto rfl ?_
        refine z_ck rfl (show (0 : Int32) = 0 ∨ (0 : Int32) = 1 from Or.inl rfl) ?_
        have e8 : zup J 10 0 7 0 10 0 8 = nI (5 - (f + 1)) := by rw [zup_k (by decide), j8]
        have e7 : ∀ v, zup (zup J 10 0 7 0) 10 0 8 v 10 0 7 = 0 := fun v => by rw [zup_k (by decide), zup_eq]
        have e5 : ∀ v, zup (zup J 10 0 7 0) 10 0 8 v 10 0 5 = nI p := fun v => by rw [zup_k (by decide), zup_k (by decide), hJ.2.1]
        refine z_auto rfl ?_
        rw [e8, e7, e5, eo]
        refine z_auto rfl ?_
        refine z_jp rfl ?_
        refine z_auto rfl ?_
        refine z_jp rfl ?_
        refine z_auto rfl ?_
        rw [show nI p + 1 = nI (p + 1) from (nI_succ p).symm]
        obtain ⟨W, hW⟩ : ∃ W, W = zup (zup (zup J 10 0 7 0) 10 0 8 (nI (5 - f))) 10 0 5 (nI (p + 1)) := ⟨_, rfl⟩
        rw [← hW]
        have hw : zPq a I W (p + 1) (5 - f) B := by
          rw [hW]
          exact zPq_sp (zPq_op (zPq_0 hJ))
        clear hW
        have eight : ∀ (P : zMI) q st, zPq a I P q (5 - f) (B ++ st.map zms) → fOne c (f + 1) p = (q, some st) → zW ((3 * f + d + 3) + 1 + 1 + 1) kX10_factor (zblk kX10_factor 8) [some (zr 10 0), some (zi x), none, none, none] [] P (zRR rl rs) Q := by
          intro P q st hP e
          refine z_auto rfl ?_
          rw [hP.2.2.2.1, eo2]
          refine z_auto rfl ?_
          exact z_rt rfl (h1 q st _ e (zPq_op hP))
        have eight_w : ∀ (P : zMI) q, zPw a I P q → fOne c (f + 1) p = (q, none) → zW ((3 * f + d + 3) + 1 + 1 + 1) kX10_factor (zblk kX10_factor 8) [some (zr 10 0), some (zi x), none, none, none] [] P (zRR rl rs) Q := by
          intro P q hP e
          refine z_auto rfl ?_
          exact z_rt rfl (h0 q _ e (zPw_op hP))
        rcases hx with ⟨rfl, e⟩ | ⟨rfl, e⟩
        · have e40 : ¬ c p = 40 := by omega
          have hgp := fOne_gd i3 f (p + 1) hpN
          refine z_auto rfl ?_
          refine z_st rfl ?_
          refine z_auto rfl ?_
          refine z_cl rfl (ih (by omega) (d + 2) W (p + 1) B _ hw hpN (by omega) (fun q st P e2 hP => ?_) (fun q P e2 hP => ?_))
          · rw [e2] at hgp
            obtain ⟨g1, g2, g3⟩ := hgp
            obtain ⟨g4, g5, g6⟩ := g3 st rfl
            dsimp only at g1 g2 g4 g5
            refine z_auto rfl ?_
            refine z_cl rfl (m_emits hI hP (by rw [List.length_append, List.length_map]; omega) (fun R hR => ?_))
            rw [show (B ++ st.map zms ++ [-1] : List Int32) = B ++ (st ++ [1500]).map zms by simp only [List.map_append, List.append_assoc, List.map_cons, List.map_nil]; rfl] at hR
            refine z_auto rfl ?_
            refine z_jp rfl ?_
            exact eight R q _ hR (by rw [fOne, if_neg e40, if_pos e, e2])
          · refine z_auto rfl ?_
            refine z_cl rfl (m_emits_w hP ?_)
            refine z_auto rfl ?_
            refine z_jp rfl ?_
            exact eight_w P q hP (by rw [fOne, if_neg e40, if_pos e, e2])
        · have hgp := fAny_gd i3 (fOne_gd i3 f) (p + 1) hpN
          have hev := m_every (o := 5 - f) hI (fOne_gd i3 f) (ih (by omega) d)
          have hso := m_some hI (fPar_gd i3 (fOne_gd i3 f) (x := 38) (y := 1501) (by decide) (Or.inl rfl)) hev
          refine z_auto rfl ?_
          refine z_jp rfl ?_
          refine z_auto rfl ?_
          refine z_cl rfl (hso W (p + 1) B _ hw hpN (by omega) (fun q st P e2 hP => ?_) (fun q P e2 hP => ?_))
          · have e2 : fAny c (fOne c f) (p + 1) = (q, some st) := e2
            rw [e2] at hgp
            obtain ⟨g1, g2, g3⟩ := hgp
            dsimp only at g1 g2
            refine z_auto rfl ?_
            refine z_cl rfl (m_must hI hP g1 (x := 41) (by decide) (fun e3 R hR => ?_) (fun e3 R hR => ?_))
            · refine z_auto rfl ?_
              refine z_jp rfl ?_
              exact eight R (q + 1) st hR (by rw [fOne, if_pos e, e2]; dsimp only; rw [if_pos e3])
            · refine z_auto rfl ?_
              refine z_jp rfl ?_
              exact eight_w R q hR (by rw [fOne, if_pos e, e2]; dsimp only; rw [if_neg e3])
          · have e2 : fAny c (fOne c f) (p + 1) = (q, none) := e2
            refine z_auto rfl ?_
            refine z_cl rfl (m_must_w hP (fun R hR => ?_))
            refine z_auto rfl ?_
            refine z_jp rfl ?_
            exact eight_w R q hR (by rw [fOne, if_pos e, e2])
      · exact absurd ((nI_eq (a := 5 - (f + 1)) (b := 5) (by omega) (by decide)).mp (Classical.not_not.mp c3)) (by omega)
    refine z_auto rfl ?_
    refine z_br rfl (fun c1 => ?_) (fun c1 => ?_)
    · have e := (zN_eq (y := 33) (by decide)).mp c1
      rw [c1]
      exact two 33 (Or.inl ⟨rfl, e⟩)
    · have e1 : ¬ c p = 33 := fun q => c1 ((zN_eq (y := 33) (by decide)).mpr q)
      refine z_auto rfl ?_
      refine z_br rfl (fun c2 => ?_) (fun c2 => ?_)
      · have e2 : ¬ c p = 40 := fun q => c2 ((zN_eq (y := 40) (by decide)).mpr q)
        have e3 : fOne c (f + 1) p = fTst c p := by rw [fOne, if_neg e2, if_neg e1]
        exact m_test (d := 3 * f + d + 4) hI hJ hp hB (fun q st K e => h1 q st K (e3.trans e)) (fun q K e => h0 q K (e3.trans e))
      · have e := (zN_eq (y := 40) (by decide)).mp (Classical.not_not.mp c2)
        rw [Classical.not_not.mp c2]
        refine z_auto rfl ?_
        refine z_jp rfl ?_
        exact two 40 (Or.inr ⟨rfl, e⟩)
end
