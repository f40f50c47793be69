/-! lighter -/
def fLi (W : Nat → Nat) (p : Nat → Bool) : Nat → Option (Nat × Nat)
  | 0 => none
  | s + 1 => match fLi W p s with
    | none => if p s = true then some (s, W s) else none
    | some q => if W s < q.2 ∧ p s = true then some (s, W s) else some q
def fBst : Option (Nat × Nat) → Int32
  | none => -5
  | some q => nI q.1
def fLc : Option (Nat × Nat) → Int32
  | none => -5
  | some q => nI q.2
def fLm : Option (Nat × Nat) → Int32
  | none => 100000
  | some q => nI q.2
theorem fLi_le {W : Nat → Nat} {p : Nat → Bool} {M : Nat} (hW : ∀ s, W s ≤ M) : ∀ s q, fLi W p s = some q → q.1 < s ∧ q.2 ≤ M
  | 0, q, h => by cases h
  | s + 1, q, h => by
    rw [fLi] at h
    split at h
    · split at h
      · cases h
        exact ⟨Nat.lt_succ_self s, hW s⟩
      · cases h
    · rename_i q0 e
      have := fLi_le hW s q0 e
      split at h
      · cases h
        exact ⟨Nat.lt_succ_self s, hW s⟩
      · cases h
        exact ⟨by omega, this.2⟩
theorem n_pow : ∀ n, n ≤ 8 → (1 : Int32) <<< (nI n &&& 31) = nI (2 ^ n) ∧ (1 : Int32) <<< (nI n &&& 31) - 1 = nI (2 ^ n - 1) ∧ 2 ^ n ≤ 256 ∧ 1 ≤ 2 ^ n := by decide +kernel
section
variable {d : Nat} {I : zMI} {rl rs : Option (Nat × Nat)} {Q : zPQ} {G : zMR} {n k t : Nat} {C : List zCl}
set_option maxHeartbeats 4000000 in
set_option maxRecDepth 100000 in
theorem m_lighter {J : zMI} (hS : zSt8 I C n k t) (hR : zRel I) (hJ : zFr I J) (h14 : I 10 0 14 = 0) (h15 : I 10 0 15 = 0) {f a w : Nat} (hf : f ≤ 20) (ha : a ≤ 3) (hw : w ≤ 1) {W : Nat → Nat} {p : Nat → Bool} (hW : ∀ s, W s ≤ 160 ∧ zww (fun k => I 40 0 (34 + k)) (nI s) n = nI (W s)) (hp1 : ∀ s, fWh I C n t (nI f) (nI a) 0 (nI s) → p s = true) (hp0 : ∀ s, ¬ fWh I C n t (nI f) (nI a) 0 (nI s) → p s = false) : zWm (d + 12) 148 [zr 10 0, zi (nI f), zi (nI a), zi (nI w)] J (zRR rl rs) (fun v2 I2 G2 => some (zi (if w = 0 then fBst (fLi W p (2 ^ n)) else fLc (fLi W p (2 ^ n)))) = v2 ∧ zRel I2 ∧ ∃ rl2 rs2, G2 = zRR rl2 rs2) := by
  have h8 := hS.1.1.2.2.1
  obtain ⟨p1, p2, p3, p4⟩ := n_pow n h8
  have hle := fLi_le (W := W) (p := p) (fun s => (hW s).1)
  have loop : ∀ q s, s + q = 2 ^ n → ∀ K, zFa J K → K 10 0 14 = 0 → K 10 0 15 = 0 → ∀ u7, zW (d + 12) kX10_lighter (zblk kX10_lighter 3) [some (zr 10 0), some (zi (nI f)), some (zi (nI a)), some (zi (nI w)), some (zi (fBst (fLi W p s))), some (zi (fLm (fLi W p s))), some (zi (nI s)), u7] [] K (zRR rl rs) (fun v2 I2 G2 => some (zi (if w = 0 then fBst (fLi W p (2 ^ n)) else fLc (fLi W p (2 ^ n)))) = v2 ∧ zRel I2 ∧ ∃ rl2 rs2, G2 = zRR rl2 rs2) := by
    intro q
    induction q with
    | zero =>
      intro s hs K hK k14 k15 u7
      have hs2 : s = 2 ^ n := by omega
      subst hs2
      have k0 : K 40 0 0 = nI n := (zSt8_fr ((zFa.r hJ).tr hK) hS).1.1.2.1
      have hRK : zRel K := zRel_fr ((zFa.r hJ).tr hK) k14 k15 hR
      refine z_auto rfl ?_
      refine z_ald (k := 0) rfl rfl (by decide) ?_
      rw [k0]
      refine z_auto rfl ?_
      rw [p1]
      refine z_auto rfl ?_
      refine z_br rfl (fun c => ?_) (fun c => ?_)
      · rcases w with _ | _ | w
        · refine z_auto rfl ?_
          refine z_jp rfl ?_
          refine z_auto rfl ?_
          refine z_jp rfl ?_
          refine z_auto rfl ?_
          exact z_rt rfl (zPr_o2 rfl hRK)
        · refine z_auto rfl ?_
          refine z_st rfl ?_
          cases ho : fLi W p (2 ^ n) with
          | none =>
            refine z_auto rfl ?_
            refine z_st rfl ?_
            refine z_auto rfl ?_
            refine z_jp rfl ?_
            refine z_auto rfl ?_
            refine z_jp rfl ?_
            refine z_auto rfl ?_
            exact z_rt rfl (zPr_o2 rfl hRK)
          | some o =>
            have := hle _ _ ho
            refine z_auto rfl ?_
            refine z_br rfl (fun c2 => ?_) (fun c2 => ?_)
            · refine z_auto rfl ?_
              refine z_jp rfl ?_
              refine z_auto rfl ?_
              exact z_rt rfl (zPr_o2 rfl hRK)
            · exact absurd (show nI o.1 < 0 by rw [show nI o.1 = -5 from Classical.not_not.mp c2]; decide) (nI_pos (by omega))
        · omega
      · exact absurd (Int32.le_refl _) c
    | succ q ih =>
      intro s hs K hK k14 k15 u7
      have k40 : K 40 0 = I 40 0 := funext (fun x => (hK 40 0 x (by decide) (by decide) (by decide) (by decide) (by decide) (by decide) (by decide) (Or.inl (by decide))).trans (hJ 40 0 x (by decide) (by decide) (Or.inl (by decide))))
      have k0 : K 40 0 0 = nI n := (zSt8_fr ((zFa.r hJ).tr hK) hS).1.1.2.1
      have h5 := ih (s + 1) (by omega)
      obtain ⟨hW1, hW2⟩ := hW s
      refine z_auto rfl ?_
      refine z_ald (k := 0) rfl rfl (by decide) ?_
      rw [k0]
      refine z_auto rfl ?_
      rw [p1]
      refine z_auto rfl ?_
      refine z_br rfl (fun c => ?_) (fun c => ?_)
      · exact absurd c (Int32.not_le.mpr (nI_lt (by omega) (by omega)))
      · refine z_auto rfl ?_
        refine z_cl rfl (m_weight k0 h8 ?_)
        rw [k40, hW2]
        have skip : fLi W p (s + 1) = fLi W p s → ∀ M, zFa J M → M 10 0 14 = 0 → M 10 0 15 = 0 → ∀ u7, zW (d + 12) kX10_lighter (zblk kX10_lighter 8) [some (zr 10 0), some (zi (nI f)), some (zi (nI a)), some (zi (nI w)), some (zi (fBst (fLi W p s))), some (zi (fLm (fLi W p s))), some (zi (nI s)), u7] [] M (zRR rl rs) (fun v2 I2 G2 => some (zi (if w = 0 then fBst (fLi W p (2 ^ n)) else fLc (fLi W p (2 ^ n)))) = v2 ∧ zRel I2 ∧ ∃ rl2 rs2, G2 = zRR rl2 rs2) := by
          intro e M hM m14 m15 u7
          have h6 := h5 M hM m14 m15 u7
          rw [e, nI_succ] at h6
          refine z_auto rfl ?_
          refine z_jp rfl ?_
          exact h6
        refine z_auto rfl ?_
        refine z_br rfl (fun c2 => ?_) (fun c2 => ?_)
        · refine skip ?_ K hK k14 k15 _
          rw [fLi]
          cases ho : fLi W p s with
          | none =>
            rw [ho] at c2
            exact absurd c2 (Int32.not_le.mpr (nI_lt (a := W s) (b := 100000) (by omega) (by decide)))
          | some o =>
            rw [ho] at c2
            have := hle _ _ ho
            have : ¬ W s < o.2 := fun q => absurd c2 (Int32.not_le.mpr (nI_lt q (by omega)))
            simp only [this, false_and, if_false]
        · have hup : p s = true → fLi W p (s + 1) = some (s, W s) := by
            intro hps
            rw [fLi]
            cases ho : fLi W p s with
            | none => simp only [hps, if_true]
            | some o =>
              rw [ho] at c2
              have := hle _ _ ho
              have : W s < o.2 := by
                apply Classical.byContradiction
                intro q
                exact c2 (nI_le (by omega) (by omega))
              simp only [this, hps, and_self, if_true]
          have hdn : p s = false → fLi W p (s + 1) = fLi W p s := by
            intro hps
            rw [fLi]
            cases ho : fLi W p s with
            | none => simp only [hps]; rfl
            | some o => simp [hps]
          have hK2 : zFa J (zup K 10 0 14 (nI s)) := hK.tr (fun c i k a1 a2 a3 a4 a5 a6 a7 a8 => by rw [zup_ne (by omega)])
          have e15 : zup K 10 0 14 (nI s) 10 0 15 = nI 0 := by rw [zup_k (by decide)]; exact k15
          have fin : ∀ L, zFM (zup K 10 0 14 (nI s)) L → zFa J (zup L 10 0 14 0) ∧ zup L 10 0 14 0 10 0 14 = 0 ∧ zup L 10 0 14 0 10 0 15 = 0 ∧ zup L 10 0 14 0 10 0 18 = L 10 0 18 := fun L hL => ⟨(hK2.tr (zFa.M hL)).tr (fun c i k a1 a2 a3 a4 a5 a6 a7 a8 => by rw [zup_ne (by omega)]), zup_eq, by rw [zup_k (by decide)]; exact (zFM_15 hL).trans e15, zup_k (by decide)⟩
          refine z_auto rfl ?_
          refine z_cl rfl (m_sw hS ((zFa.r hJ).tr hK2) hf (by decide : 0 ≤ 100) e15 zup_eq (fun L x hL h18 hwh => ?_) (fun L x hL h18 hwh => ?_))
          · obtain ⟨f1, f2, f3, f4⟩ := fin L hL
            have f5 := f4.trans h18
            have h6 := h5 _ f1 f2 f3 (some (zi (nI (W s))))
            rw [hup (hp1 s hwh), nI_succ] at h6
            refine z_auto rfl ?_
            rw [f5]
            refine z_auto rfl ?_
            refine z_st rfl ?_
            refine z_auto rfl ?_
            refine z_jp rfl ?_
            refine z_auto rfl ?_
            rw [f5]
            refine z_auto rfl ?_
            refine z_st rfl ?_
            refine z_auto rfl ?_
            refine z_jp rfl ?_
            refine z_auto rfl ?_
            refine z_jp rfl ?_
            refine z_auto rfl ?_
            refine z_jp rfl ?_
            exact h6
          · obtain ⟨f1, f2, f3, f4⟩ := fin L hL
            have f5 := f4.trans h18
            refine z_auto rfl ?_
            rw [f5]
            refine z_auto rfl ?_
            refine z_jp rfl ?_
            refine z_auto rfl ?_
            refine z_jp rfl ?_
            refine z_auto rfl ?_
            rw [f5]
            refine z_auto rfl ?_
            refine z_jp rfl ?_
            refine z_auto rfl ?_
            refine z_jp rfl ?_
            refine z_auto rfl ?_
            refine z_jp rfl ?_
            exact skip (hdn (hp0 s hwh)) _ f1 f2 f3 _
  refine z_auto rfl ?_
  refine z_cl rfl (m_isFloor_y hf ?_)
  refine z_auto rfl ?_
  refine z_st rfl ?_
  refine z_auto rfl ?_
  refine z_cl rfl (m_isSide_y ha ?_)
  refine z_auto rfl ?_
  refine z_st rfl ?_
  refine z_auto rfl ?_
  refine z_cl rfl (m_in_y (lo := 0) (hi := 1) (Nat.zero_le _) hw (by decide) ?_)
  refine z_auto rfl ?_
  refine z_jp rfl ?_
  refine z_auto rfl ?_
  refine z_jp rfl ?_
  exact loop (2 ^ n) 0 (Nat.zero_add _) J zFa.rf ((zFr_14 hJ).trans h14) ((zFr_15 hJ).trans h15) _
set_option maxHeartbeats 4000000 in
set_option maxRecDepth 100000 in
theorem p_lighter (x1 x2 x3 : Int32) : zPr 77 148 [zi x1, zi x2, zi x3] := by
  intro d I rl rs hR
  rcases n_cases x1 20 (by decide) with ⟨f, hf, rfl⟩ | hx1
  · rcases n_cases x2 3 (by decide) with ⟨a, ha, rfl⟩ | hx2
    · rcases n_cases x3 1 (by decide) with ⟨w, hw, rfl⟩ | hx3
      · obtain ⟨C, n, k, t, hS, h14, h15⟩ := r_st hR
        have h8 := hS.1.1.2.2.1
        have hb1 := hS.1.1
        obtain ⟨p1, p2, p3, p4⟩ := n_pow n h8
        obtain ⟨W, hW⟩ : ∃ W : Nat → Nat, ∀ s, W s ≤ 160 ∧ zww (fun k => I 40 0 (34 + k)) (nI s) n = nI (W s) := by
          have h : ∀ s : Nat, ∃ y : Nat, y ≤ 20 * n ∧ zww (fun k => I 40 0 (34 + k)) (nI s) n = nI y := fun s => zww_nat n h8 (fun k hk => by
            obtain ⟨kd, v, th, w, sd, q, ⟨p0, p1, p2, p3, p4⟩, r1, r2, r3, r4, r5⟩ := hb1.2.2.2.1 k hk
            exact ⟨w, by omega, r4⟩)
          refine ⟨fun s => Classical.choose (h s), fun s => ⟨?_, (Classical.choose_spec (h s)).2⟩⟩
          exact Nat.le_trans (Classical.choose_spec (h s)).1 (by omega)
        have hWc : ∀ s, zww (I 23 0) (nI s) n = nI (W s) := fun s => (zww_cong n (fun k hk => by
          obtain ⟨kd, v, th, w, sd, q, ⟨p0, p1, p2, p3, p4⟩, r1, r2, r3, r4, r5⟩ := hb1.2.2.2.1 k hk
          exact p3.trans r4.symm)).trans (hW s).2
        obtain ⟨p, hp1, hp0⟩ : ∃ p : Nat → Bool, (∀ s, fWh I C n t (nI f) (nI a) 0 (nI s) → p s = true) ∧ (∀ s, ¬ fWh I C n t (nI f) (nI a) 0 (nI s) → p s = false) := ⟨fun s => @decide (fWh I C n t (nI f) (nI a) 0 (nI s)) (Classical.propDecidable _), fun s h => by simp only [h, decide_true], fun s h => by simp only [h, decide_false]⟩
        have hle := fLi_le (W := W) (p := p) (fun s => (hW s).1)
        have loop : ∀ q s, s + q = 2 ^ n → ∀ J, zFr I J → ∀ rl rs u8, zW (d + 12) kX9_lighter (zblk kX9_lighter 3) [some (zr 9 0), some (zi (nI f)), some (zi (nI a)), some (zi (nI w)), some (zi (fBst (fLi W p s))), some (zi (fLc (fLi W p s))), some (zi (nI (2 ^ n - 1))), some (zi (nI s)), u8] [] J (zRR rl rs) (fun v1 I1 G1 => ∃ rl1 rs1, G1 = zRR rl1 rs1 ∧ zWm (d + 12) 148 [zr 10 0, zi (nI f), zi (nI a), zi (nI w)] I1 G1 (fun v2 I2 G2 => v1 = v2 ∧ zRel I2 ∧ ∃ rl2 rs2, G2 = zRR rl2 rs2)) := by
          intro q
          induction q with
          | zero =>
            intro s hs J hJ rl rs u8
            have hs2 : s = 2 ^ n := by omega
            subst hs2
            refine z_auto rfl ?_
            refine z_br rfl (fun c => ?_) (fun c => ?_)
            · rcases w with _ | _ | w
              · refine z_auto rfl ?_
                refine z_st rfl ?_
                refine z_auto rfl ?_
                refine z_jp rfl ?_
                refine z_auto rfl ?_
                exact z_rt rfl (zPr_i (fun rl' rs' => m_lighter (w := 0) hS hR hJ h14 h15 hf ha hw hW hp1 hp0))
              · refine z_auto rfl ?_
                refine z_jp rfl ?_
                refine z_auto rfl ?_
                refine z_jp rfl ?_
                refine z_auto rfl ?_
                exact z_rt rfl (zPr_i (fun rl' rs' => m_lighter (w := 1) hS hR hJ h14 h15 hf ha hw hW hp1 hp0))
              · omega
            · exact absurd (nI_lt (a := 2 ^ n - 1) (b := 2 ^ n) (by omega) (by omega)) c
          | succ q ih =>
            intro s hs J hJ rl rs u8
            obtain ⟨hW1, hW2⟩ := hW s
            have jn : J 4 0 7 = nI n := (zCu_fr hJ hS.2.1).2.2.2.1
            refine z_auto rfl ?_
            refine z_br rfl (fun c => ?_) (fun c => ?_)
            · exact absurd c (Int32.not_lt.mpr (nI_le (by omega) (by omega)))
            · refine z_auto rfl ?_
              refine z_cl rfl (s_weight jn h8 ?_)
              rw [zFr_f hJ (c := 23) (by decide) (by decide) (by decide), hWc s]
              have skip : fLi W p (s + 1) = fLi W p s → ∀ M, zFr I M → ∀ rl rs u8, zW (d + 12) kX9_lighter (zblk kX9_lighter 5) [some (zr 9 0), some (zi (nI f)), some (zi (nI a)), some (zi (nI w)), some (zi (fBst (fLi W p s))), some (zi (fLc (fLi W p s))), some (zi (nI (2 ^ n - 1))), some (zi (nI s)), u8] [] M (zRR rl rs) (fun v1 I1 G1 => ∃ rl1 rs1, G1 = zRR rl1 rs1 ∧ zWm (d + 12) 148 [zr 10 0, zi (nI f), zi (nI a), zi (nI w)] I1 G1 (fun v2 I2 G2 => v1 = v2 ∧ zRel I2 ∧ ∃ rl2 rs2, G2 = zRR rl2 rs2)) := by
                intro e M hM rl rs u8
                have h6 := ih (s + 1) (by omega) M hM rl rs u8
                rw [e, nI_succ] at h6
                refine z_auto rfl ?_
                refine z_jp rfl ?_
                exact h6
              have four : (p s = true → fLi W p (s + 1) = some (s, W s)) → (p s = false → fLi W p (s + 1) = fLi W p s) → ∀ u, u = nI (W s) → zW (d + 12) kX9_lighter (zblk kX9_lighter 4) [some (zr 9 0), some (zi (nI f)), some (zi (nI a)), some (zi (nI w)), some (zi (fBst (fLi W p s))), some (zi (fLc (fLi W p s))), some (zi (nI (2 ^ n - 1))), some (zi (nI s)), some (zi u)] [] J (zRR rl rs) (fun v1 I1 G1 => ∃ rl1 rs1, G1 = zRR rl1 rs1 ∧ zWm (d + 12) 148 [zr 10 0, zi (nI f), zi (nI a), zi (nI w)] I1 G1 (fun v2 I2 G2 => v1 = v2 ∧ zRel I2 ∧ ∃ rl2 rs2, G2 = zRR rl2 rs2)) := by
                intro hup hdn u hu
                subst hu
                refine z_auto rfl ?_
                refine z_cl rfl (c_sw hS hJ (fun L hL hwh => ?_) (fun L hL hwh => ?_))
                · have h6 := ih (s + 1) (by omega) L hL (some (4, 0)) rs (some (zi (nI (W s))))
                  rw [hup (hp1 s hwh), nI_succ] at h6
                  refine z_auto rfl ?_
                  refine z_st rfl ?_
                  refine z_auto rfl ?_
                  refine z_jp rfl ?_
                  refine z_auto rfl ?_
                  refine z_jp rfl ?_
                  exact h6
                · refine z_auto rfl ?_
                  refine z_jp rfl ?_
                  exact skip (hdn (hp0 s hwh)) L hL _ _ _
              cases ho : fLi W p s with
              | none =>
                rw [ho] at four
                refine z_auto rfl ?_
                refine z_jp rfl ?_
                exact four (fun hps => by rw [fLi, ho]; simp only [hps, if_true]) (fun hps => by rw [fLi, ho]; simp only [hps]; rfl) _ rfl
              | some o =>
                rw [ho] at four skip
                have hl := hle _ _ ho
                refine z_auto rfl ?_
                refine z_br rfl (fun c2 => ?_) (fun c2 => ?_)
                · exact absurd c2 (nI_pos (by omega))
                · refine z_auto rfl ?_
                  refine z_br rfl (fun c3 => ?_) (fun c3 => ?_)
                  · have hn : ¬ W s < o.2 := fun q => absurd c3 (Int32.not_le.mpr (nI_lt q (by omega)))
                    exact skip (by rw [fLi, ho]; simp only [hn, false_and, if_false]) J hJ _ _ _
                  · have hn : W s < o.2 := by
                      apply Classical.byContradiction
                      intro q
                      exact c3 (nI_le (by omega) (by omega))
                    refine z_auto rfl ?_
                    refine z_jp rfl ?_
                    exact four (fun hps => by rw [fLi, ho]; simp only [hn, hps, and_self, if_true]) (fun hps => by rw [fLi, ho]; simp [hps]) _ rfl
        refine z_auto rfl ?_
        refine z_cl rfl (c_isFloor_y hf ?_)
        refine z_auto rfl ?_
        refine z_st rfl ?_
        refine z_auto rfl ?_
        refine z_cl rfl (c_isSide_y ha ?_)
        refine z_auto rfl ?_
        refine z_st rfl ?_
        refine z_auto rfl ?_
        refine z_br rfl (fun c => ?_) (fun c => ?_)
        · exact absurd c (nI_pos (by omega))
        · refine z_auto rfl ?_
          refine z_br rfl (fun c2 => ?_) (fun c2 => ?_)
          · refine z_auto rfl ?_
            refine z_cl rfl (s_allBits ?_)
            refine z_auto rfl ?_
            rw [hb1.1, p2]
            refine z_auto rfl ?_
            refine z_jp rfl ?_
            exact loop (2 ^ n) 0 (Nat.zero_add _) I zFr.rf rl rs _
          · exact absurd (nI_le (b := 1) hw (by decide)) c2
      · have mrun : ∀ rl' rs', zWm (d + 12) 148 [zr 10 0, zi (nI f), zi (nI a), zi x3] I (zRR rl' rs') (fun v2 I2 G2 => some (zi (-1)) = v2 ∧ zRel I2 ∧ ∃ rl2 rs2, G2 = zRR rl2 rs2) := by
          intro rl' rs'
          refine z_auto rfl ?_
          refine z_cl rfl (m_isFloor_y hf ?_)
          refine z_auto rfl ?_
          refine z_st rfl ?_
          refine z_auto rfl ?_
          refine z_cl rfl (m_isSide_y ha ?_)
          refine z_auto rfl ?_
          refine z_st rfl ?_
          refine z_auto rfl ?_
          refine z_cl rfl (m_in_n hx3 ?_)
          refine z_auto rfl ?_
          refine z_st rfl ?_
          refine z_auto rfl ?_
          refine z_jp rfl ?_
          refine z_auto rfl ?_
          exact z_rt rfl (zPr_o hR)
        refine z_auto rfl ?_
        refine z_cl rfl (c_isFloor_y hf ?_)
        refine z_auto rfl ?_
        refine z_st rfl ?_
        refine z_auto rfl ?_
        refine z_cl rfl (c_isSide_y ha ?_)
        refine z_auto rfl ?_
        refine z_st rfl ?_
        refine z_auto rfl ?_
        refine z_br rfl (fun c => ?_) (fun c => ?_)
        · refine z_auto rfl ?_
          exact z_rt rfl (zPr_i mrun)
        · refine z_auto rfl ?_
          refine z_br rfl (fun c2 => ?_) (fun c2 => ?_)
          · exact absurd hx3 (fun q => q.elim c (fun q => absurd q (Int32.not_lt.mpr c2)))
          · refine z_auto rfl ?_
            refine z_jp rfl ?_
            refine z_auto rfl ?_
            exact z_rt rfl (zPr_i mrun)
    · refine z_auto rfl ?_
      refine z_cl rfl (c_isFloor_y hf ?_)
      refine z_auto rfl ?_
      refine z_st rfl ?_
      refine z_auto rfl ?_
      refine z_cl rfl (c_isSide_n hx2 ?_)
      refine z_auto rfl ?_
      refine z_jp rfl ?_
      refine z_auto rfl ?_
      refine z_rt rfl (zPr_i (fun rl' rs' => ?_))
      refine z_auto rfl ?_
      refine z_cl rfl (m_isFloor_y hf ?_)
      refine z_auto rfl ?_
      refine z_st rfl ?_
      refine z_auto rfl ?_
      refine z_cl rfl (m_isSide_n hx2 ?_)
      refine z_auto rfl ?_
      refine z_jp rfl ?_
      refine z_auto rfl ?_
      exact z_rt rfl (zPr_o hR)
  · refine z_auto rfl ?_
    refine z_cl rfl (c_isFloor_n hx1 ?_)
    refine z_auto rfl ?_
    refine z_jp rfl ?_
    refine z_auto rfl ?_
    refine z_rt rfl (zPr_i (fun rl' rs' => ?_))
    refine z_auto rfl ?_
    refine z_cl rfl (m_isFloor_n hx1 ?_)
    refine z_auto rfl ?_
    refine z_jp rfl ?_
    refine z_auto rfl ?_
    exact z_rt rfl (zPr_o hR)
end
