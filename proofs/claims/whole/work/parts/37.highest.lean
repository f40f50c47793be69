/-! highest -/
theorem n_first (P : Nat → Prop) : ∀ m, (∀ g, g < m → P g) ∨ ∃ f, f < m ∧ ¬ P f ∧ ∀ g, g < f → P g
  | 0 => Or.inl (fun g hg => absurd hg (Nat.not_lt_zero g))
  | m + 1 => by
    rcases n_first P m with h | ⟨f, h1, h2, h3⟩
    · by_cases c : P m
      · exact Or.inl (fun g hg => by
          rcases Nat.lt_or_ge g m with q | q
          · exact h g q
          · rw [show g = m by omega]; exact c)
      · exact Or.inr ⟨m, Nat.lt_succ_self m, c, h⟩
    · exact Or.inr ⟨f, by omega, h2, h3⟩
/-- the egg is whole behind this fall -/
def fWh (I : zMI) (C : List zCl) (n t : Nat) (f a add out : Int32) : Prop := (fEg I C n t f a add out (zlast C 0 20) (I 2 0 0, I 2 0 1)).2 = 1
def fHi (i : Nat) : Int32 := if i = 0 then -5 else nI (i - 1)
section
variable {d : Nat} {I : zMI} {rl rs : Option (Nat × Nat)} {Q : zPQ} {G : zMR} {n k t : Nat} {C : List zCl}
/-- the class's fall behind others -/
theorem c_sw {J : zMI} (hS : zSt8 I C n k t) (hJ : zFr I J) {f a add out : Int32} (h1 : ∀ K, zFr I K → fWh I C n t f a add out → Q (some (zi 1)) K (zRR (some (4, 0)) rs)) (h0 : ∀ K, zFr I K → ¬ fWh I C n t f a add out → Q (some (zi 0)) K (zRR (some (4, 0)) rs)) : zWm (d + 5) 101 [zr 9 0, zi f, zi a, zi add, zi out] J (zRR rl rs) Q := by
  have e : J 2 0 = I 2 0 := funext (fun k => hJ 2 0 k (by decide) (by decide) (Or.inr (by decide)))
  refine s_staysWhole (zCu_fr hJ hS.2.1) (fun K hK hw => h1 K (hJ.tr hK.1) ?_) (fun K hK hw => h0 K (hJ.tr hK.1) ?_)
  · rw [fEg_fr hJ, e] at hw
    exact hw
  · rw [fEg_fr hJ, e] at hw
    intro q
    rw [fWh, hw] at q
    revert q
    decide
/-- the model's fall behind others -/
theorem m_sw {J : zMI} (hS : zSt8 I C n k t) (hJ : zFa I J) {ad f : Nat} (hf : f ≤ 20) (hd : ad ≤ 100) (h15 : J 10 0 15 = nI ad) {out a : Int32} (h14 : J 10 0 14 = out) (h1 : ∀ K x, zFM J K → K 10 0 18 = 1 → fWh I C n t (nI f) a (nI ad) out → Q (some (zi x)) K (zRR rl rs)) (h0 : ∀ K x, zFM J K → K 10 0 18 = 0 → ¬ fWh I C n t (nI f) a (nI ad) out → Q (some (zi x)) K (zRR rl rs)) : zWm (d + 3) 143 [zr 10 0, zi (nI f), zi a] J (zRR rl rs) Q := by
  refine m_fa hS hJ hf hd h15 h14 (fun K hK _ _ h17 => ?_)
  have h18 : K 10 0 18 = (fEg I C n t (nI f) a (nI ad) out (zlast C 0 20) (I 2 0 0, I 2 0 1)).2 := congrArg Prod.snd h17
  rcases fEg_01 (I := I) (n := n) (t := t) (C := C) (f := nI f) (a := a) (add := nI ad) (out := out) (b := zlast C 0 20) (s := (I 2 0 0, I 2 0 1)) hS.2.1.2.2.2.2.2.2.2 with q | q
  · refine h0 K _ hK (h18.trans q) (fun p => ?_)
    rw [fWh, q] at p
    revert p
    decide
  · exact h1 K _ hK (h18.trans q) q
theorem zFM_14 {J K : zMI} (h : zFM J K) : K 10 0 14 = J 10 0 14 := h 10 0 14 (by decide) (by decide) (by decide)
theorem zFM_15 {J K : zMI} (h : zFM J K) : K 10 0 15 = J 10 0 15 := h 10 0 15 (by decide) (by decide) (by decide)
theorem zFr_14 {J K : zMI} (h : zFr J K) : K 10 0 14 = J 10 0 14 := h 10 0 14 (by decide) (by decide) (Or.inl (by decide))
theorem zFr_15 {J K : zMI} (h : zFr J K) : K 10 0 15 = J 10 0 15 := h 10 0 15 (by decide) (by decide) (Or.inl (by decide))
set_option maxHeartbeats 4000000 in
set_option maxRecDepth 100000 in
theorem p_highest (x1 : Int32) : zPr 75 146 [zi x1] := by
  intro d I rl rs hR
  rcases n_cases x1 3 (by decide) with ⟨a, ha, rfl⟩ | hx1
  · obtain ⟨C, n, k, t, hS, h14, h15⟩ := r_st hR
    obtain ⟨e, he, hb, hl⟩ : ∃ e, e ≤ 21 ∧ (e = 21 ∨ ¬ fWh I C n t (nI e) (nI a) 0 0) ∧ ∀ g, g < e → fWh I C n t (nI g) (nI a) 0 0 := by
      rcases n_first (fun g => fWh I C n t (nI g) (nI a) 0 0) 21 with h | ⟨f, h1, h2, h3⟩
      · exact ⟨21, by omega, Or.inl rfl, h⟩
      · exact ⟨f, by omega, Or.inr h2, h3⟩
    have mrun : ∀ J, zFr I J → ∀ rl' rs', zWm (d + 12) 146 [zr 10 0, zi (nI a)] J (zRR rl' rs') (fun v2 I2 G2 => some (zi (fHi e)) = v2 ∧ zRel I2 ∧ ∃ rl2 rs2, G2 = zRR rl2 rs2) := by
      intro J hJ rl' rs'
      have hRJ := zRel_r hJ hR
      refine z_auto rfl ?_
      refine z_cl rfl (m_isSide_y ha ?_)
      refine z_auto rfl ?_
      refine z_jp rfl ?_
      refine z_auto rfl ?_
      refine z_jp rfl ?_
      have loop : ∀ m i, i + m = e → ∀ K, zFM J K → ∀ u : List (Option zAV), zW (d + 12) kX10_highest (zblk kX10_highest 2) ([some (zr 10 0), some (zi (nI a)), some (zi (fHi i)), some (zi 1), some (zi (nI i))] ++ u) [] K (zRR rl' rs') (fun v2 I2 G2 => some (zi (fHi e)) = v2 ∧ zRel I2 ∧ ∃ rl2 rs2, G2 = zRR rl2 rs2) := by
        intro m
        induction m with
        | zero =>
          intro i hi K hK u
          have : i = e := by omega
          subst this
          refine z_auto rfl ?_
          refine z_br rfl (fun c => ?_) (fun c => ?_)
          · refine z_auto rfl ?_
            exact z_rt rfl (zPr_o (zRel_M hK hRJ))
          · refine z_auto rfl ?_
            refine z_st rfl ?_
            have hi20 : i ≤ 20 := by
              apply Classical.byContradiction
              intro q
              exact c (nI_lt (a := 20) (b := i) (by omega) (by omega))
            refine z_auto rfl ?_
            refine z_cl rfl (m_sw hS ((zFa.r hJ).tr (zFa.M hK)) hi20 (by decide) ((zFM_15 hK).trans ((zFr_15 hJ).trans h15)) ((zFM_14 hK).trans ((zFr_14 hJ).trans h14)) (fun L x hL h18 hw => ?_) (fun L x hL h18 hw => ?_))
            · rcases hb with q | q
              · omega
              · exact absurd hw q
            · refine z_auto rfl ?_
              rw [h18]
              refine z_auto rfl ?_
              refine z_jp rfl ?_
              refine z_auto rfl ?_
              refine z_jp rfl ?_
              refine z_auto rfl ?_
              refine z_jp rfl ?_
              refine z_auto rfl ?_
              refine z_br rfl (fun c2 => ?_) (fun c2 => ?_)
              · refine z_auto rfl ?_
                exact z_rt rfl (zPr_o (zRel_M (hK.tr hL) hRJ))
              · refine z_auto rfl ?_
                refine z_jp rfl ?_
                refine z_auto rfl ?_
                exact z_rt rfl (zPr_o (zRel_M (hK.tr hL) hRJ))
        | succ m ih =>
          intro i hi K hK u
          refine z_auto rfl ?_
          refine z_br rfl (fun c => ?_) (fun c => ?_)
          · exact absurd c (Int32.not_lt.mpr (nI_le (b := 20) (by omega) (by decide)))
          · refine z_auto rfl ?_
            refine z_st rfl ?_
            refine z_auto rfl ?_
            refine z_cl rfl (m_sw hS ((zFa.r hJ).tr (zFa.M hK)) (f := i) (by omega) (by decide) ((zFM_15 hK).trans ((zFr_15 hJ).trans h15)) ((zFM_14 hK).trans ((zFr_14 hJ).trans h14)) (fun L x hL h18 hw => ?_) (fun L x hL h18 hw => ?_))
            · refine z_auto rfl ?_
              rw [h18]
              refine z_auto rfl ?_
              refine z_st rfl ?_
              refine z_auto rfl ?_
              refine z_jp rfl ?_
              have h5 := ih (i + 1) (by omega) L (hK.tr hL) u
              rw [nI_succ] at h5
              refine z_auto rfl ?_
              refine z_jp rfl ?_
              exact h5
            · exact absurd (hl i (by omega)) hw
      exact loop e 0 (Nat.zero_add _) J zFM.rf _
    have loop : ∀ m i, i + m = e → ∀ J, zFr I J → ∀ rl rs, zW (d + 12) kX9_highest (zblk kX9_highest 2) [some (zr 9 0), some (zi (nI a)), some (zi (nI i))] [] J (zRR rl rs) (fun v1 I1 G1 => ∃ rl1 rs1, G1 = zRR rl1 rs1 ∧ zWm (d + 12) 146 [zr 10 0, zi (nI a)] I1 G1 (fun v2 I2 G2 => v1 = v2 ∧ zRel I2 ∧ ∃ rl2 rs2, G2 = zRR rl2 rs2)) := by
      intro m
      induction m with
      | zero =>
        intro i hi J hJ rl rs
        have : i = e := by omega
        subst this
        refine z_auto rfl ?_
        refine z_br rfl (fun c => ?_) (fun c => ?_)
        · have : i = 21 := by
            apply Classical.byContradiction
            intro q
            exact absurd c (Int32.not_lt.mpr (nI_le (b := 20) (by omega) (by decide)))
          subst this
          refine z_auto rfl ?_
          exact z_rt rfl (zPr_i (mrun J hJ))
        · refine z_auto rfl ?_
          refine z_cl rfl (c_sw hS hJ (fun K hK hw => ?_) (fun K hK hw => ?_))
          · rcases hb with q | q
            · subst q
              exact absurd (nI_lt (a := 20) (b := 21) (by decide) (by decide)) c
            · exact absurd hw q
          · refine z_auto rfl ?_
            refine z_st rfl ?_
            refine z_auto rfl ?_
            refine z_br rfl (fun c2 => ?_) (fun c2 => ?_)
            · have hi0 : i ≠ 0 := fun q => c2 (by rw [q]; rfl)
              have e1 : nI i - 1 = fHi i := by
                rw [fHi, if_neg hi0]
                obtain ⟨j, rfl⟩ : ∃ j, i = j + 1 := ⟨i - 1, by omega⟩
                rw [nI_succ, Int32.add_sub_cancel]
                rfl
              refine z_auto rfl ?_
              rw [e1]
              refine z_auto rfl ?_
              refine z_jp rfl ?_
              refine z_auto rfl ?_
              exact z_rt rfl (zPr_i (mrun K hK))
            · have hi0 : i = 0 := (nI_eq (a := i) (b := 0) (by omega) (by omega)).mp (Classical.not_not.mp c2)
              subst hi0
              refine z_auto rfl ?_
              refine z_jp rfl ?_
              refine z_auto rfl ?_
              exact z_rt rfl (zPr_i (mrun K hK))
      | succ m ih =>
        intro i hi J hJ rl rs
        refine z_auto rfl ?_
        refine z_br rfl (fun c => ?_) (fun c => ?_)
        · exact absurd c (Int32.not_lt.mpr (nI_le (b := 20) (by omega) (by decide)))
        · refine z_auto rfl ?_
          refine z_cl rfl (c_sw hS hJ (fun K hK hw => ?_) (fun K hK hw => ?_))
          · refine z_auto rfl ?_
            refine z_jp rfl ?_
            have h5 := ih (i + 1) (by omega) K hK (some (4, 0)) rs
            rw [nI_succ] at h5
            refine z_auto rfl ?_
            refine z_jp rfl ?_
            exact h5
          · exact absurd (hl i (by omega)) hw
    refine z_auto rfl ?_
    refine z_cl rfl (c_isSide_y ha ?_)
    refine z_auto rfl ?_
    refine z_jp rfl ?_
    refine z_auto rfl ?_
    refine z_jp rfl ?_
    exact loop e 0 (Nat.zero_add _) I zFr.rf rl rs
  · refine z_auto rfl ?_
    refine z_cl rfl (c_isSide_n hx1 ?_)
    refine z_auto rfl ?_
    refine z_st rfl ?_
    refine z_auto rfl ?_
    refine z_rt rfl (zPr_i (fun rl' rs' => ?_))
    refine z_auto rfl ?_
    refine z_cl rfl (m_isSide_n hx1 ?_)
    refine z_auto rfl ?_
    refine z_st rfl ?_
    refine z_auto rfl ?_
    exact z_rt rfl (zPr_o hR)
end
