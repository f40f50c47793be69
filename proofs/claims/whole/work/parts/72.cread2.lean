/-! the class reads conditions -/
def sOne (I : zMI) (c : Nat → Nat) (N : Nat) (rl : Option (Nat × Nat)) (d f : Nat) : Prop := ∀ (J : zMI) (p : Nat) (A : List Nat) (Q : zPQ), zPc I J p A → p ≤ N → A.length ≤ p → (∀ q st K, fOne c f p = (q, some st) → zPc I K q (A ++ st) → Q (some (zi 1)) K (zRR rl (some (29, 0)))) → (∀ q K A', fOne c f p = (q, none) → zPc I K q A' → Q (some (zi 0)) K (zRR rl (some (29, 0)))) → zWm d 44 [zr 5 0, zi (nI (5 - f))] J (zRR rl (some (29, 0))) Q
section
variable {d : Nat} {I J : zMI} {rl : Option (Nat × Nat)} {Q : zPQ} {c : Nat → Nat} {N p : Nat} {A : List Nat}
set_option maxHeartbeats 4000000 in
set_option maxRecDepth 100000 in
theorem s_readTest (hI : zTc2 I c N) (hJ : zPc I J p A) (hp : p ≤ N) (hA : A.length ≤ p) (h1 : ∀ q st K, fTst c p = (q, some st) → zPc I K q (A ++ st) → Q (some (zi 1)) K (zRR rl (some (29, 0)))) (h0 : ∀ q K A', fTst c p = (q, none) → zPc I K q A' → Q (some (zi 0)) K (zRR rl (some (29, 0)))) : zWm (d + 3) 45 [zr 5 0] J (zRR rl (some (29, 0))) Q := by
  have i2 := hI.2.1
  have i3 := hI.2.2.1
  refine z_auto rfl ?_
  refine z_cl rfl (s_readOneOf hI hJ hp (j := 4) (l := [102, 115, 107, 116, 121]) (by decide) rfl (by decide) (by decide) (fun l K e1 hK => ?_) (fun e1 => ?_))
  · have l1 : l < 5 := fIx_lt _ _ _ e1
    have c1 : p < N := by
      apply Classical.byContradiction
      intro q
      rw [fIx_no (by decide) (fun q2 => q ((i3 p).mp q2))] at e1
      cases e1
    refine z_auto rfl ?_
    refine z_br rfl (fun g1 => ?_) (fun g1 => ?_)
    · refine z_auto rfl ?_
      refine z_cl rfl (s_readOneOf hI hK c1 (j := 5) (l := [60, 61, 62]) (by decide) rfl (by decide) (by decide) (fun s M e2 hM => ?_) (fun e2 => ?_))
      · have l2 : s < 3 := fIx_lt _ _ _ e2
        have c2 : p + 1 < N := by
          apply Classical.byContradiction
          intro q
          rw [fIx_no (by decide) (fun q2 => q ((i3 (p + 1)).mp q2))] at e2
          cases e2
        refine z_auto rfl ?_
        refine z_jp rfl ?_
        refine z_auto rfl ?_
        refine z_br rfl (fun g2 => ?_) (fun g2 => ?_)
        · refine z_auto rfl ?_
          refine z_cl rfl (s_readNumber hI hM c2 (fun q n P e3 hP => ?_) (fun e3 => ?_))
          · have hn := (fNum_gd i3 (p := p + 2) c2).2.2 n (by rw [e3])
            refine z_auto rfl ?_
            refine z_jp rfl ?_
            refine z_auto rfl ?_
            refine z_br rfl (fun g3 => ?_) (fun g3 => ?_)
            · have ev : nI l * 300 + nI s * 100 + nI n = zcs (300 * l + 100 * s + n) := by
                rw [zcs, if_pos (by omega), show nI l * 300 = nI (l * 300) from pk_mul l 300, show nI s * 100 = nI (s * 100) from pk_mul s 100, nI_add, nI_add, Nat.mul_comm l 300, Nat.mul_comm s 100]
              refine z_auto rfl ?_
              rw [ev]
              refine z_auto rfl ?_
              refine z_cl rfl (s_addStep hP.2.2.1 (by omega) ?_)
              refine z_auto rfl ?_
              exact z_rt rfl (h1 q _ _ (by rw [fTst, e1]; dsimp only; rw [e2]; dsimp only; rw [e3]) (zPc_st hP))
            · exact absurd (nI_pos' (by omega)) g3
          · refine z_auto rfl ?_
            refine z_jp rfl ?_
            refine z_auto rfl ?_
            refine z_st rfl ?_
            refine z_auto rfl ?_
            exact z_rt rfl (h0 (p + 2) M A (by rw [fTst, e1]; dsimp only; rw [e2]; dsimp only; rw [e3]) hM)
        · exact absurd (nI_pos' (by omega)) g2
      · refine z_auto rfl ?_
        refine z_jp rfl ?_
        refine z_auto rfl ?_
        refine z_st rfl ?_
        refine z_auto rfl ?_
        refine z_jp rfl ?_
        refine z_auto rfl ?_
        refine z_st rfl ?_
        refine z_auto rfl ?_
        exact z_rt rfl (h0 (p + 1) K A (by rw [fTst, e1]; dsimp only; rw [e2]) hK)
    · exact absurd (nI_pos' (by omega)) g1
  · refine z_auto rfl ?_
    refine z_st rfl ?_
    refine z_auto rfl ?_
    refine z_jp rfl ?_
    refine z_auto rfl ?_
    refine z_st rfl ?_
    refine z_auto rfl ?_
    refine z_jp rfl ?_
    refine z_auto rfl ?_
    refine z_st rfl ?_
    refine z_auto rfl ?_
    exact z_rt rfl (h0 p J A (by rw [fTst, e1]) hJ)
set_option maxHeartbeats 4000000 in
set_option maxRecDepth 100000 in
theorem s_any {f F : Nat} (hI : zTc2 I c N) (hg : fGd N F (fOne c f)) (ho : sOne I c N rl (d + 1) f) (hJ : zPc I J p A) (hp : p ≤ N) (hA : A.length ≤ p) (h1 : ∀ q st K, fAny c (fOne c f) p = (q, some st) → zPc I K q (A ++ st) → Q (some (zi 1)) K (zRR rl (some (29, 0)))) (h0 : ∀ q K A', fAny c (fOne c f) p = (q, none) → zPc I K q A' → Q (some (zi 0)) K (zRR rl (some (29, 0)))) : zWm (d + 2) 43 [zr 5 0, zi (nI (5 - f))] J (zRR rl (some (29, 0))) Q := by
  have i2 := hI.2.1
  have i3 := hI.2.2.1
  have hg2 : fGd N (F + 1) (fPar c (fOne c f) 38 1501) := fPar_gd i3 hg (by decide) (Or.inl rfl)
  have inner : ∀ (m : Nat) (A : List Nat) k i, i + k = 100 → ∀ p st K, zPc I K p (A ++ st) → p ≤ N → (A ++ st).length ≤ p → (∀ q st' K' x, fMor c (fOne c f) 38 1501 k p st = (q, some st') → zPc I K' q (A ++ st') → zW (d + 2) kX5_readAny (zblk kX5_readAny 5) [some (zr 5 0), some (zi (nI (5 - f))), some (zi (nI m)), some (zi x)] [] K' (zRR rl (some (29, 0))) Q) → (∀ q K' A', fMor c (fOne c f) 38 1501 k p st = (q, none) → zPc I K' q A' → Q (some (zi 0)) K' (zRR rl (some (29, 0)))) → zW (d + 2) kX5_readAny (zblk kX5_readAny 3) [some (zr 5 0), some (zi (nI (5 - f))), some (zi (nI m)), some (zi (nI i))] [] K (zRR rl (some (29, 0))) Q := by
    intro m A k
    induction k with
    | zero =>
      intro i hi p st K hK hp hA h5 h0
      have : i = 100 := by omega
      subst this
      refine z_auto rfl ?_
      refine z_jp rfl ?_
      exact h5 p st K _ rfl hK
    | succ k ih =>
      intro i hi p st K hK hp hA h5 h0
      refine z_auto rfl ?_
      refine z_br rfl (fun c1 => ?_) (fun c1 => ?_)
      · exact absurd c1 (Int32.not_le.mpr (nI_lt (a := i) (b := 100) (by omega) (by decide)))
      · refine z_auto rfl ?_
        refine z_cl rfl (s_pass hI hK hp (x := 38) (by decide) (fun e M hM => ?_) (fun e => ?_))
        · have hpN : p < N := (i3 p).mp (by omega)
          have hgp := hg (p + 1) hpN
          refine z_auto rfl ?_
          refine z_st rfl ?_
          refine z_auto rfl ?_
          refine z_cl rfl (ho M (p + 1) (A ++ st) _ hM hpN (by omega) (fun q st2 P e2 hP => ?_) (fun q P A' e2 hP => ?_))
          · rw [e2] at hgp
            obtain ⟨g1, g2, g3⟩ := hgp
            obtain ⟨g4, g5, g6⟩ := g3 st2 rfl
            dsimp only at g1 g2 g4 g5
            have hlen : (A ++ st ++ st2).length ≤ q - 1 := by
              rw [List.length_append]
              omega
            refine z_auto rfl ?_
            refine z_jp rfl ?_
            refine z_auto rfl ?_
            refine z_cl rfl (s_addStep hP.2.2.1 (by omega) ?_)
            have hP2 := zPc_st (t := 1501) hP
            rw [show zcs 1501 = -2 by decide, show A ++ st ++ st2 ++ [1501] = A ++ (st ++ (st2 ++ [1501])) by simp only [List.append_assoc]] at hP2
            have h7 := ih (i + 1) (by omega) q (st ++ (st2 ++ [1501])) _ hP2 g1 (by
              rw [← show A ++ st ++ st2 ++ [1501] = A ++ (st ++ (st2 ++ [1501])) by simp only [List.append_assoc], List.length_append, List.length_singleton]
              omega) (fun q' st' K' x eq hK' => h5 q' st' K' x (by rw [fMor, if_pos e, e2]; exact eq) hK') (fun q' K' A' eq hK' => h0 q' K' A' (by rw [fMor, if_pos e, e2]; exact eq) hK')
            rw [nI_succ] at h7
            refine z_auto rfl ?_
            refine z_jp rfl ?_
            exact h7
          · refine z_auto rfl ?_
            refine z_st rfl ?_
            refine z_auto rfl ?_
            exact z_rt rfl (h0 q P A' (by rw [fMor, if_pos e, e2]) hP)
        · refine z_auto rfl ?_
          refine z_jp rfl ?_
          exact h5 p st K _ (by rw [fMor, if_neg e]) hK
  have part : ∀ (m p : Nat) (A : List Nat) K u3, zPc I K p A → p ≤ N → A.length ≤ p → m < 100 → (∀ q st K' x, fPar c (fOne c f) 38 1501 p = (q, some st) → zPc I K' q (A ++ st) → zW (d + 2) kX5_readAny (zblk kX5_readAny 5) [some (zr 5 0), some (zi (nI (5 - f))), some (zi (nI m)), some (zi x)] [] K' (zRR rl (some (29, 0))) Q) → (∀ q K' A', fPar c (fOne c f) 38 1501 p = (q, none) → zPc I K' q A' → Q (some (zi 0)) K' (zRR rl (some (29, 0)))) → zW (d + 2) kX5_readAny (zblk kX5_readAny 1) [some (zr 5 0), some (zi (nI (5 - f))), some (zi (nI m)), u3] [] K (zRR rl (some (29, 0))) Q := by
    intro m p A K u3 hK hp hA hm h5 h0
    have hgp := hg p hp
    refine z_auto rfl ?_
    refine z_br rfl (fun c1 => ?_) (fun c1 => ?_)
    · exact absurd c1 (Int32.not_le.mpr (nI_lt (a := m) (b := 100) (by omega) (by decide)))
    · refine z_auto rfl ?_
      refine z_cl rfl (ho K p A _ hK hp hA (fun q st2 P e2 hP => ?_) (fun q P A' e2 hP => ?_))
      · rw [e2] at hgp
        obtain ⟨g1, g2, g3⟩ := hgp
        obtain ⟨g4, g5, g6⟩ := g3 st2 rfl
        dsimp only at g1 g2 g4 g5
        refine z_auto rfl ?_
        refine z_jp rfl ?_
        refine z_auto rfl ?_
        refine z_jp rfl ?_
        exact inner m A 100 0 rfl q st2 P hP g1 (by rw [List.length_append]; omega) (fun q' st' K' x eq hK' => h5 q' st' K' x (by rw [fPar, e2]; exact eq) hK') (fun q' K' A' eq hK' => h0 q' K' A' (by rw [fPar, e2]; exact eq) hK')
      · refine z_auto rfl ?_
        refine z_st rfl ?_
        refine z_auto rfl ?_
        exact z_rt rfl (h0 q P A' (by rw [fPar, e2]) hP)
  have outer : ∀ k m, m + k = 100 → ∀ p st K u3, zPc I K p (A ++ st) → p ≤ N → (A ++ st).length ≤ p → m < p → (∀ q st' K', fMor c (fPar c (fOne c f) 38 1501) 124 1502 k p st = (q, some st') → zPc I K' q (A ++ st') → Q (some (zi 1)) K' (zRR rl (some (29, 0)))) → (∀ q K' A', fMor c (fPar c (fOne c f) 38 1501) 124 1502 k p st = (q, none) → zPc I K' q A' → Q (some (zi 0)) K' (zRR rl (some (29, 0)))) → zW (d + 2) kX5_readAny (zblk kX5_readAny 6) [some (zr 5 0), some (zi (nI (5 - f))), some (zi (nI m)), u3] [] K (zRR rl (some (29, 0))) Q := by
    intro k
    induction k with
    | zero =>
      intro m hm p st K u3 hK hp hA hmp h1 h0
      omega
    | succ k ih =>
      intro m hm p st K u3 hK hp hA hmp h1 h0
      refine z_auto rfl ?_
      refine z_cl rfl (s_pass hI hK hp (x := 124) (by decide) (fun e M hM => ?_) (fun e => ?_))
      · have hpN : p < N := (i3 p).mp (by omega)
        have hgp := hg2 (p + 1) hpN
        have hpt := part (m + 1) (p + 1) (A ++ st) M u3 hM hpN (by omega) (by omega) (fun q st2 P x e2 hP => by
          rw [e2] at hgp
          obtain ⟨g1, g2, g3⟩ := hgp
          obtain ⟨g4, g5, g6⟩ := g3 st2 rfl
          dsimp only at g1 g2 g4 g5
          have hlen : (A ++ st ++ st2).length ≤ q - 1 := by
            rw [List.length_append]
            omega
          refine z_auto rfl ?_
          refine z_br rfl (fun c2 => ?_) (fun c2 => ?_)
          · exact absurd c2 (Int32.not_le.mpr (nI_lt (a := 0) (b := m + 1) (by omega) (by omega)))
          · refine z_auto rfl ?_
            refine z_cl rfl (s_addStep hP.2.2.1 (by omega) ?_)
            have hP2 := zPc_st (t := 1502) hP
            rw [show zcs 1502 = -3 by decide, show A ++ st ++ st2 ++ [1502] = A ++ (st ++ (st2 ++ [1502])) by simp only [List.append_assoc]] at hP2
            refine z_auto rfl ?_
            refine z_jp rfl ?_
            exact ih (m + 1) (by omega) q (st ++ (st2 ++ [1502])) _ _ hP2 g1 (by
              rw [← show A ++ st ++ st2 ++ [1502] = A ++ (st ++ (st2 ++ [1502])) by simp only [List.append_assoc], List.length_append, List.length_singleton]
              omega) (by omega) (fun q' st' K' eq hK' => h1 q' st' K' (by rw [fMor, if_pos e, e2]; exact eq) hK') (fun q' K' A' eq hK' => h0 q' K' A' (by rw [fMor, if_pos e, e2]; exact eq) hK')) (fun q P A' e2 hP => h0 q P A' (by rw [fMor, if_pos e, e2]) hP)
        rw [nI_succ] at hpt
        refine z_auto rfl ?_
        refine z_jp rfl ?_
        refine z_auto rfl ?_
        refine z_jp rfl ?_
        exact hpt
      · refine z_auto rfl ?_
        refine z_st rfl ?_
        refine z_auto rfl ?_
        exact z_rt rfl (h1 p st K (by rw [fMor, if_neg e]) hK)
  have hgp := hg2 p hp
  refine z_auto rfl ?_
  refine z_jp rfl ?_
  refine part 0 p A J _ hJ hp hA (by decide) (fun q st K x e2 hK => ?_) (fun q K A' e2 hK => h0 q K A' (by rw [fAny, fPar, e2]) hK)
  rw [e2] at hgp
  obtain ⟨g1, g2, g3⟩ := hgp
  obtain ⟨g4, g5, g6⟩ := g3 st rfl
  dsimp only at g1 g2 g4 g5
  refine z_auto rfl ?_
  refine z_jp rfl ?_
  exact outer 100 0 rfl q st K _ hK g1 (by rw [List.length_append]; omega) (by omega) (fun q' st' K' eq hK' => h1 q' st' K' (by rw [fAny, fPar, e2]; exact eq) hK') (fun q' K' A' eq hK' => h0 q' K' A' (by rw [fAny, fPar, e2]; exact eq) hK')
set_option maxHeartbeats 4000000 in
set_option maxRecDepth 100000 in
theorem s_one (hI : zTc2 I c N) : ∀ f, f ≤ 5 → ∀ d, sOne I c N rl (2 * f + d + 4) f := by
  have i2 := hI.2.1
  have i3 := hI.2.2.1
  intro f
  induction f with
  | zero =>
    intro hf d J p A Q hJ hp hA h1 h0
    refine z_auto rfl ?_
    refine z_cl rfl (s_next hI hJ hp ?_)
    have bad : (c p = 33 ∨ c p = 40) → Q (some (zi 0)) J (zRR rl (some (29, 0))) := fun q => h0 p J A (by rw [fOne, if_pos q]) hJ
    refine z_auto rfl ?_
    refine z_br rfl (fun c1 => ?_) (fun c1 => ?_)
    · have e := (zN_eq (y := 33) (by decide)).mp c1
      refine z_auto rfl ?_
      refine z_st rfl ?_
      refine z_auto rfl ?_
      refine z_st rfl ?_
      refine z_auto rfl ?_
      refine z_jp rfl ?_
      refine z_auto rfl ?_
      exact z_rt rfl (bad (Or.inl e))
    · have e1 : ¬ c p = 33 := fun q => c1 ((zN_eq (y := 33) (by decide)).mpr q)
      refine z_auto rfl ?_
      refine z_br rfl (fun c2 => ?_) (fun c2 => ?_)
      · have e := (zN_eq (y := 40) (by decide)).mp c2
        refine z_auto rfl ?_
        refine z_st rfl ?_
        refine z_auto rfl ?_
        refine z_st rfl ?_
        refine z_auto rfl ?_
        refine z_jp rfl ?_
        refine z_auto rfl ?_
        exact z_rt rfl (bad (Or.inr e))
      · have e2 : ¬ c p = 40 := fun q => c2 ((zN_eq (y := 40) (by decide)).mpr q)
        have e3 : fOne c 0 p = fTst c p := by rw [fOne, if_neg (fun q => q.elim e1 e2)]
        refine z_auto rfl ?_
        refine z_cl rfl (s_readTest hI hJ hp hA (fun q st K e hK => ?_) (fun q K A' e hK => ?_))
        · refine z_auto rfl ?_
          exact z_rt rfl (h1 q st K (e3.trans e) hK)
        · refine z_auto rfl ?_
          exact z_rt rfl (h0 q K A' (e3.trans e) hK)
  | succ f ih =>
    intro hf d J p A Q hJ hp hA h1 h0
    have go : 5 - (f + 1) < 5 := by omega
    rw [show 2 * (f + 1) + d + 4 = (2 * f + d + 4) + 1 + 1 by omega]
    have eo : nI (5 - (f + 1)) + 1 = nI (5 - f) := by
      rw [← nI_succ, show 5 - (f + 1) + 1 = 5 - f by omega]
    refine z_auto rfl ?_
    refine z_cl rfl (s_next hI hJ hp ?_)
    refine z_auto rfl ?_
    refine z_br rfl (fun c1 => ?_) (fun c1 => ?_)
    · have e := (zN_eq (y := 33) (by decide)).mp c1
      have e40 : ¬ c p = 40 := by omega
      have hpN : p < N := (i3 p).mp (by omega)
      have hgp := fOne_gd i3 f (p + 1) hpN
      refine z_auto rfl ?_
      refine z_br rfl (fun c3 => ?_) (fun c3 => ?_)
      · exact absurd c3 (nI_pos (by omega))
      · refine z_auto rfl ?_
        refine z_br rfl (fun c4 => ?_) (fun c4 => ?_)
        · refine z_auto rfl ?_
          rw [hJ.2.1]
          refine z_auto rfl ?_
          rw [show nI p + 1 = nI (p + 1) from (nI_succ p).symm, c1]
          refine z_auto rfl ?_
          refine z_jp rfl ?_
          refine z_auto rfl ?_
          rw [eo]
          refine z_auto rfl ?_
          refine z_cl rfl (ih (by omega) (d + 1) _ (p + 1) A _ (zPc_at hJ) hpN (by omega) (fun q st K e2 hK => ?_) (fun q K A' e2 hK => ?_))
          · rw [e2] at hgp
            obtain ⟨g1, g2, g3⟩ := hgp
            obtain ⟨g4, g5, g6⟩ := g3 st rfl
            dsimp only at g1 g2 g4 g5
            refine z_auto rfl ?_
            refine z_jp rfl ?_
            refine z_auto rfl ?_
            refine z_cl rfl (s_addStep hK.2.2.1 (by rw [List.length_append]; omega) ?_)
            have hP2 := zPc_st (t := 1500) hK
            rw [show zcs 1500 = -1 by decide, List.append_assoc] at hP2
            refine z_auto rfl ?_
            exact z_rt rfl (h1 q _ _ (by rw [fOne, if_neg e40, if_pos e, e2]) hP2)
          · refine z_auto rfl ?_
            refine z_st rfl ?_
            refine z_auto rfl ?_
            exact z_rt rfl (h0 q K A' (by rw [fOne, if_neg e40, if_pos e, e2]) hK)
        · exact absurd (nI_lt (b := 5) go (by decide)) c4
    · have e1 : ¬ c p = 33 := fun q => c1 ((zN_eq (y := 33) (by decide)).mpr q)
      refine z_auto rfl ?_
      refine z_br rfl (fun c2 => ?_) (fun c2 => ?_)
      · have e := (zN_eq (y := 40) (by decide)).mp c2
        have hpN : p < N := (i3 p).mp (by omega)
        have hgp := fAny_gd i3 (fOne_gd i3 f) (p + 1) hpN
        refine z_auto rfl ?_
        refine z_br rfl (fun c3 => ?_) (fun c3 => ?_)
        · exact absurd c3 (nI_pos (by omega))
        · refine z_auto rfl ?_
          refine z_br rfl (fun c4 => ?_) (fun c4 => ?_)
          · refine z_auto rfl ?_
            rw [hJ.2.1]
            refine z_auto rfl ?_
            rw [show nI p + 1 = nI (p + 1) from (nI_succ p).symm, c2]
            refine z_auto rfl ?_
            refine z_st rfl ?_
            refine z_auto rfl ?_
            rw [eo]
            refine z_auto rfl ?_
            refine z_cl rfl (s_any (d := 2 * f + d + 3) hI (fOne_gd i3 f) (ih (by omega) d) (zPc_at hJ) hpN (by omega) (fun q st K e2 hK => ?_) (fun q K A' e2 hK => ?_))
            · rw [e2] at hgp
              obtain ⟨g1, g2, g3⟩ := hgp
              dsimp only at g1 g2
              refine z_auto rfl ?_
              refine z_st rfl ?_
              refine z_auto rfl ?_
              refine z_cl rfl (s_pass hI hK g1 (x := 41) (by decide) (fun e3 M hM => ?_) (fun e3 => ?_))
              · refine z_auto rfl ?_
                refine z_st rfl ?_
                refine z_auto rfl ?_
                refine z_jp rfl ?_
                refine z_auto rfl ?_
                exact z_rt rfl (h1 (q + 1) st M (by rw [fOne, if_pos e, e2]; dsimp only; rw [if_pos e3]) hM)
              · refine z_auto rfl ?_
                refine z_jp rfl ?_
                refine z_auto rfl ?_
                refine z_jp rfl ?_
                refine z_auto rfl ?_
                exact z_rt rfl (h0 q K _ (by rw [fOne, if_pos e, e2]; dsimp only; rw [if_neg e3]) hK)
            · refine z_auto rfl ?_
              refine z_jp rfl ?_
              refine z_auto rfl ?_
              refine z_jp rfl ?_
              refine z_auto rfl ?_
              exact z_rt rfl (h0 q K A' (by rw [fOne, if_pos e, e2]) hK)
          · exact absurd (nI_lt (b := 5) go (by decide)) c4
      · have e2 : ¬ c p = 40 := fun q => c2 ((zN_eq (y := 40) (by decide)).mpr q)
        have e3 : fOne c (f + 1) p = fTst c p := by rw [fOne, if_neg e2, if_neg e1]
        refine z_auto rfl ?_
        refine z_cl rfl (s_readTest hI hJ hp hA (fun q st K e hK => ?_) (fun q K A' e hK => ?_))
        · refine z_auto rfl ?_
          exact z_rt rfl (h1 q st K (e3.trans e) hK)
        · refine z_auto rfl ?_
          exact z_rt rfl (h0 q K A' (e3.trans e) hK)
end
