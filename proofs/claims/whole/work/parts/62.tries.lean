/-! tries -/
def fC : Nat → Nat → Nat
  | 0, _ => 1
  | b + 1, m => fC b m * (m - b) / (b + 1)
/-- how many floors e eggs and m falls tell apart -/
def fT : Nat → Nat → Nat
  | 0, _ => 0
  | e + 1, m => fT e m + fC (e + 1) m
theorem fT_s : ∀ m, m < 100 → fT 1 (m + 1) = fT 1 m + 1 + fT 0 m ∧ fT 2 (m + 1) = fT 2 m + 1 + fT 1 m ∧ fT 3 (m + 1) = fT 3 m + 1 + fT 2 m ∧ fT 4 (m + 1) = fT 4 m + 1 + fT 3 m := by decide +kernel
theorem fT_ge : ∀ m, m < 101 → ∀ e, e < 4 → m ≤ fT (e + 1) m := by decide +kernel
theorem fT_lt : ∀ m, m < 101 → ∀ e, e < 5 → fT e m < 100000000 := by decide +kernel
theorem fC_s : ∀ m, m < 101 → ∀ b, b < 4 → nI (fC b m) * (nI m - nI (b + 1) + 1) / nI (b + 1) = nI (fC (b + 1) m) := by decide +kernel
theorem fT_0 : ∀ e, e < 5 → fT e 0 = 0 := by decide +kernel
section
variable {d : Nat} {I : zMI} {rl rs : Option (Nat × Nat)} {Q : zPQ} {G : zMR}
set_option maxHeartbeats 4000000 in
set_option maxRecDepth 100000 in
theorem s_told {m e : Nat} (hm : m < 101) (he : e ≤ 4) (h : Q (some (zi (nI (fT e m)))) I G) : zWm d 104 [zi (nI m), zi (nI e)] I G Q := by
  have loop : ∀ q b, b + q = e → zW d kX9_floorsTold (zblk kX9_floorsTold 1) [some (zi (nI m)), some (zi (nI e)), some (zi (nI (fC b m))), some (zi (nI (fT b m))), some (zi (nI (b + 1)))] [] I G Q := by
    intro q
    induction q with
    | zero =>
      intro b hb
      have : b = e := by omega
      subst this
      refine z_auto rfl ?_
      refine z_br rfl (fun c => ?_) (fun c => ?_)
      · refine z_auto rfl ?_
        exact z_rt rfl h
      · exact absurd (nI_lt (a := b) (b := b + 1) (by omega) (by omega)) c
    | succ q ih =>
      intro b hb
      refine z_auto rfl ?_
      refine z_br rfl (fun c => ?_) (fun c => ?_)
      · exact absurd c (Int32.not_lt.mpr (nI_le (a := b + 1) (b := e) (by omega) (by omega)))
      · refine z_auto rfl ?_
        refine z_br rfl (fun c2 => ?_) (fun c2 => ?_)
        · exact absurd c2 (Int32.not_lt.mpr (nI_le (a := b + 1) (b := 4) (by omega) (by decide)))
        · refine z_auto rfl ?_
          refine z_ck rfl (fun q => absurd ((nI_eq (a := b + 1) (b := 0) (by omega) (by decide)).mp q) (by omega)) ?_
          rw [fC_s m hm b (by omega)]
          have h5 := ih (b + 1) (by omega)
          rw [fT, nI_succ (b + 1)] at h5
          refine z_auto rfl ?_
          rw [nI_add]
          refine z_auto rfl ?_
          refine z_jp rfl ?_
          exact h5
  refine z_auto rfl ?_
  refine z_jp rfl ?_
  exact loop e 0 (Nat.zero_add _)
/-- only tells is written -/
def zTl (I J : zMI) : Prop := ∀ c i k, ¬ (c = 44 ∧ i = 0) → J c i k = I c i k
set_option maxHeartbeats 4000000 in
set_option maxRecDepth 100000 in
theorem p_tries (x1 x2 : Int32) : zPr 79 150 [zi x1, zi x2] := by
  intro d I rl rs hR
  rcases n_cases x1 4 (by decide) with ⟨e, he, rfl⟩ | hx1
  · rcases n_cases x2 99 (by decide) with ⟨fl, hfl, rfl⟩ | hx2
    · rcases Nat.eq_zero_or_pos e with he0 | he1
      · subst he0
        refine z_auto rfl ?_
        refine z_jp rfl ?_
        refine z_auto rfl ?_
        refine z_rt rfl (zPr_i (fun rl' rs' => ?_))
        refine z_auto rfl ?_
        refine z_cl rfl (m_in_n (Or.inl (by decide)) ?_)
        refine z_auto rfl ?_
        refine z_jp rfl ?_
        refine z_auto rfl ?_
        exact z_rt rfl (zPr_o hR)
      · obtain ⟨r, hr, hb, hl⟩ : ∃ r, r ≤ fl ∧ fl ≤ fT e r ∧ ∀ g, g < r → fT e g < fl := by
          rcases n_first (fun g => fT e g < fl) fl with h | ⟨f, h1, h2, h3⟩
          · obtain ⟨e', rfl⟩ : ∃ e', e = e' + 1 := ⟨e - 1, by omega⟩
            exact ⟨fl, Nat.le_refl _, fT_ge fl (by omega) e' (by omega), h⟩
          · exact ⟨f, by omega, by omega, h3⟩
        have mrun : ∀ rl' rs', zWm (d + 12) 150 [zr 10 0, zi (nI e), zi (nI fl)] I (zRR rl' rs') (fun v2 I2 G2 => some (zi (nI r)) = v2 ∧ zRel I2 ∧ ∃ rl2 rs2, G2 = zRR rl2 rs2) := by
          intro rl' rs'
          have loop : ∀ q i, i + q = r → ∀ K, zTl I K → (∀ j, j < 5 → K 44 0 j = nI (fT j i)) → ∀ u4, zW (d + 12) kX10_tries (zblk kX10_tries 5) [some (zr 10 0), some (zi (nI e)), some (zi (nI fl)), some (zi (nI i)), u4] [] K (zRR rl' rs') (fun v2 I2 G2 => some (zi (nI r)) = v2 ∧ zRel I2 ∧ ∃ rl2 rs2, G2 = zRR rl2 rs2) := by
            intro q
            induction q with
            | zero =>
              intro i hi K hK hv u4
              have : i = r := by omega
              subst this
              refine z_auto rfl ?_
              refine z_ald (k := e) rfl rfl (by show e < 5; omega) ?_
              rw [hv e (by omega)]
              have hlt := fT_lt i (by omega) e (by omega)
              refine z_auto rfl ?_
              refine z_br rfl (fun c => ?_) (fun c => ?_)
              · refine z_auto rfl ?_
                refine z_rt rfl (zPr_o ?_)
                refine zRel_fr (I := I) (fun c i k _ _ _ _ h44 _ _ _ => hK c i k (by omega)) ?_ ?_ hR
                · obtain ⟨n, k, t, _, _, _, _, h5, h6⟩ := hR
                  exact (hK 10 0 14 (by omega)).trans h5
                · obtain ⟨n, k, t, _, _, _, _, h5, h6⟩ := hR
                  exact (hK 10 0 15 (by omega)).trans h6
              · exact absurd (nI_le hb (by omega)) c
            | succ q ih =>
              intro i hi K hK hv u4
              have hlt := fT_lt i (by omega) e (by omega)
              have hli := hl i (by omega)
              obtain ⟨s1, s2, s3, s4⟩ := fT_s i (by omega)
              refine z_auto rfl ?_
              refine z_ald (k := e) rfl rfl (by show e < 5; omega) ?_
              rw [hv e (by omega)]
              refine z_auto rfl ?_
              refine z_br rfl (fun c => ?_) (fun c => ?_)
              · exact absurd c (Int32.not_le.mpr (nI_lt hli (by omega)))
              · have hs : ∀ j, j < 4 → nI (fT (j + 1) i) + 1 + nI (fT j i) = nI (fT (j + 1) (i + 1)) := by
                  intro j hj
                  have : fT (j + 1) (i + 1) = fT (j + 1) i + 1 + fT j i := by
                    rcases (show j = 0 ∨ j = 1 ∨ j = 2 ∨ j = 3 by omega) with rfl | rfl | rfl | rfl
                    · exact s1
                    · exact s2
                    · exact s3
                    · exact s4
                  rw [this, ← nI_succ, nI_add]
                refine z_auto rfl ?_
                refine z_jp rfl ?_
                refine z_auto rfl ?_
                refine z_st rfl ?_
                refine z_auto rfl ?_
                refine z_ald (k := 4) rfl rfl (by decide) ?_
                rw [hv 4 (by decide)]
                refine z_auto rfl ?_
                refine z_ald (k := 3) rfl rfl (by decide) ?_
                rw [hv 3 (by decide)]
                refine z_auto rfl ?_
                rw [hs 3 (by decide)]
                refine z_auto rfl ?_
                refine z_ast (k := 4) rfl rfl (by decide) ?_
                refine z_auto rfl ?_
                refine z_jp rfl ?_
                refine z_auto rfl ?_
                refine z_st rfl ?_
                refine z_auto rfl ?_
                refine z_ald (k := 3) rfl rfl (by decide) ?_
                rw [zup_k (by decide), hv 3 (by decide)]
                refine z_auto rfl ?_
                refine z_ald (k := 2) rfl rfl (by decide) ?_
                rw [zup_k (by decide), hv 2 (by decide)]
                refine z_auto rfl ?_
                rw [hs 2 (by decide)]
                refine z_auto rfl ?_
                refine z_ast (k := 3) rfl rfl (by decide) ?_
                refine z_auto rfl ?_
                refine z_jp rfl ?_
                refine z_auto rfl ?_
                refine z_st rfl ?_
                refine z_auto rfl ?_
                refine z_ald (k := 2) rfl rfl (by decide) ?_
                rw [zup_k (by decide), zup_k (by decide), hv 2 (by decide)]
                refine z_auto rfl ?_
                refine z_ald (k := 1) rfl rfl (by decide) ?_
                rw [zup_k (by decide), zup_k (by decide), hv 1 (by decide)]
                refine z_auto rfl ?_
                rw [hs 1 (by decide)]
                refine z_auto rfl ?_
                refine z_ast (k := 2) rfl rfl (by decide) ?_
                refine z_auto rfl ?_
                refine z_jp rfl ?_
                refine z_auto rfl ?_
                refine z_st rfl ?_
                refine z_auto rfl ?_
                refine z_ald (k := 1) rfl rfl (by decide) ?_
                rw [zup_k (by decide), zup_k (by decide), zup_k (by decide), hv 1 (by decide)]
                refine z_auto rfl ?_
                refine z_ald (k := 0) rfl rfl (by decide) ?_
                rw [zup_k (by decide), zup_k (by decide), zup_k (by decide), hv 0 (by decide)]
                refine z_auto rfl ?_
                rw [hs 0 (by decide)]
                refine z_auto rfl ?_
                refine z_ast (k := 1) rfl rfl (by decide) ?_
                refine z_auto rfl ?_
                refine z_jp rfl ?_
                refine z_auto rfl ?_
                refine z_jp rfl ?_
                have h5 := ih (i + 1) (by omega) (zup (zup (zup (zup K 44 0 4 (nI (fT 4 (i + 1)))) 44 0 3 (nI (fT 3 (i + 1)))) 44 0 2 (nI (fT 2 (i + 1)))) 44 0 1 (nI (fT 1 (i + 1)))) (fun c i k h1 => by
                  rw [zup_ne (by omega), zup_ne (by omega), zup_ne (by omega), zup_ne (by omega)]
                  exact hK c i k h1) (fun j hj => by
                  rcases (show j = 0 ∨ j = 1 ∨ j = 2 ∨ j = 3 ∨ j = 4 by omega) with rfl | rfl | rfl | rfl | rfl
                  · rw [zup_k (by decide), zup_k (by decide), zup_k (by decide), zup_k (by decide), hv 0 (by decide)]
                    rfl
                  · rw [zup_eq]
                  · rw [zup_k (by decide), zup_eq]
                  · rw [zup_k (by decide), zup_k (by decide), zup_eq]
                  · rw [zup_k (by decide), zup_k (by decide), zup_k (by decide), zup_eq])
                rw [nI_succ] at h5
                refine z_auto rfl ?_
                refine z_jp rfl ?_
                exact h5 _
          refine z_auto rfl ?_
          refine z_cl rfl (m_in_y (lo := 1) (hi := 4) he1 he (by decide) ?_)
          refine z_auto rfl ?_
          refine z_st rfl ?_
          refine z_auto rfl ?_
          refine z_cl rfl (m_in_y (lo := 0) (hi := 99) (Nat.zero_le _) hfl (by decide) ?_)
          refine z_auto rfl ?_
          refine z_jp rfl ?_
          refine z_auto rfl ?_
          refine z_jp rfl ?_
          refine z_auto rfl ?_
          refine z_st rfl ?_
          refine z_auto rfl ?_
          refine z_ast (k := 0) rfl rfl (by decide) ?_
          refine z_auto rfl ?_
          refine z_jp rfl ?_
          refine z_auto rfl ?_
          refine z_st rfl ?_
          refine z_auto rfl ?_
          refine z_ast (k := 1) rfl rfl (by decide) ?_
          refine z_auto rfl ?_
          refine z_jp rfl ?_
          refine z_auto rfl ?_
          refine z_st rfl ?_
          refine z_auto rfl ?_
          refine z_ast (k := 2) rfl rfl (by decide) ?_
          refine z_auto rfl ?_
          refine z_jp rfl ?_
          refine z_auto rfl ?_
          refine z_st rfl ?_
          refine z_auto rfl ?_
          refine z_ast (k := 3) rfl rfl (by decide) ?_
          refine z_auto rfl ?_
          refine z_jp rfl ?_
          refine z_auto rfl ?_
          refine z_st rfl ?_
          refine z_auto rfl ?_
          refine z_ast (k := 4) rfl rfl (by decide) ?_
          refine z_auto rfl ?_
          refine z_jp rfl ?_
          refine z_auto rfl ?_
          refine z_jp rfl ?_
          refine z_auto rfl ?_
          refine z_jp rfl ?_
          refine loop r 0 (Nat.zero_add _) _ (fun c i k h1 => by rw [zup_ne (by omega), zup_ne (by omega), zup_ne (by omega), zup_ne (by omega), zup_ne (by omega)]) (fun j hj => ?_) _
          rw [fT_0 j hj]
          rcases (show j = 0 ∨ j = 1 ∨ j = 2 ∨ j = 3 ∨ j = 4 by omega) with rfl | rfl | rfl | rfl | rfl
          · rw [zup_k (by decide), zup_k (by decide), zup_k (by decide), zup_k (by decide), zup_eq]; rfl
          · rw [zup_k (by decide), zup_k (by decide), zup_k (by decide), zup_eq]; rfl
          · rw [zup_k (by decide), zup_k (by decide), zup_eq]; rfl
          · rw [zup_k (by decide), zup_eq]; rfl
          · rw [zup_eq]; rfl
        have loop : ∀ q i, i + q = r → zW (d + 12) kX9_tries (zblk kX9_tries 3) [some (zr 9 0), some (zi (nI e)), some (zi (nI fl)), some (zi (nI i))] [] I (zRR rl rs) (fun v1 I1 G1 => ∃ rl1 rs1, G1 = zRR rl1 rs1 ∧ zWm (d + 12) 150 [zr 10 0, zi (nI e), zi (nI fl)] I1 G1 (fun v2 I2 G2 => v1 = v2 ∧ zRel I2 ∧ ∃ rl2 rs2, G2 = zRR rl2 rs2)) := by
          intro q
          induction q with
          | zero =>
            intro i hi
            have : i = r := by omega
            subst this
            refine z_auto rfl ?_
            refine z_br rfl (fun c => ?_) (fun c => ?_)
            · have : i = fl := by
                apply Classical.byContradiction
                intro q
                exact absurd c (Int32.not_le.mpr (nI_lt (a := i) (b := fl) (by omega) (by omega)))
              refine z_auto rfl ?_
              exact z_rt rfl (zPr_i (by rw [← this]; rw [← this] at mrun; exact mrun))
            · have hlt := fT_lt i (by omega) e (by omega)
              refine z_auto rfl ?_
              refine z_cl rfl (s_told (by omega) he ?_)
              refine z_auto rfl ?_
              refine z_br rfl (fun c2 => ?_) (fun c2 => ?_)
              · exact absurd c2 (Int32.not_lt.mpr (nI_le hb (by omega)))
              · refine z_auto rfl ?_
                exact z_rt rfl (zPr_i mrun)
          | succ q ih =>
            intro i hi
            have hli := hl i (by omega)
            have hlt := fT_lt i (by omega) e (by omega)
            refine z_auto rfl ?_
            refine z_br rfl (fun c => ?_) (fun c => ?_)
            · exact absurd c (Int32.not_le.mpr (nI_lt (a := i) (b := fl) (by omega) (by omega)))
            · refine z_auto rfl ?_
              refine z_cl rfl (s_told (by omega) he ?_)
              have h5 := ih (i + 1) (by omega)
              rw [nI_succ] at h5
              refine z_auto rfl ?_
              refine z_br rfl (fun c2 => ?_) (fun c2 => ?_)
              · refine z_auto rfl ?_
                refine z_jp rfl ?_
                exact h5
              · exact absurd (nI_lt hli (by omega)) c2
        refine z_auto rfl ?_
        refine z_br rfl (fun c1 => ?_) (fun c1 => ?_)
        · exact absurd c1 (Int32.not_lt.mpr (nI_le (a := 1) (b := e) (by omega) (by omega)))
        · refine z_auto rfl ?_
          refine z_br rfl (fun c2 => ?_) (fun c2 => ?_)
          · exact absurd c2 (Int32.not_lt.mpr (nI_le (a := e) (b := 4) (by omega) (by decide)))
          · refine z_auto rfl ?_
            refine z_br rfl (fun c3 => ?_) (fun c3 => ?_)
            · exact absurd c3 (nI_pos (by omega))
            · refine z_auto rfl ?_
              refine z_br rfl (fun c4 => ?_) (fun c4 => ?_)
              · refine z_auto rfl ?_
                refine z_jp rfl ?_
                exact loop r 0 (Nat.zero_add _)
              · exact absurd (nI_le (a := fl) (b := 99) (by omega) (by decide)) c4
    · have mrun : ∀ rl' rs', zWm (d + 12) 150 [zr 10 0, zi (nI e), zi x2] I (zRR rl' rs') (fun v2 I2 G2 => some (zi (-2)) = v2 ∧ zRel I2 ∧ ∃ rl2 rs2, G2 = zRR rl2 rs2) := by
        intro rl' rs'
        refine z_auto rfl ?_
        refine z_cl rfl (m_in_c (fun _ _ => ?_) (fun _ => ?_))
        · refine z_auto rfl ?_
          refine z_st rfl ?_
          refine z_auto rfl ?_
          refine z_cl rfl (m_in_n hx2 ?_)
          refine z_auto rfl ?_
          refine z_st rfl ?_
          refine z_auto rfl ?_
          refine z_jp rfl ?_
          refine z_auto rfl ?_
          exact z_rt rfl (zPr_o hR)
        · refine z_auto rfl ?_
          refine z_jp rfl ?_
          refine z_auto rfl ?_
          exact z_rt rfl (zPr_o hR)
      refine z_auto rfl ?_
      refine z_br rfl (fun c1 => ?_) (fun c1 => ?_)
      · refine z_auto rfl ?_
        exact z_rt rfl (zPr_i mrun)
      · refine z_auto rfl ?_
        refine z_br rfl (fun c2 => ?_) (fun c2 => ?_)
        · refine z_auto rfl ?_
          exact z_rt rfl (zPr_i mrun)
        · refine z_auto rfl ?_
          refine z_br rfl (fun c3 => ?_) (fun c3 => ?_)
          · refine z_auto rfl ?_
            exact z_rt rfl (zPr_i mrun)
          · refine z_auto rfl ?_
            refine z_br rfl (fun c4 => ?_) (fun c4 => ?_)
            · exact absurd hx2 (fun q => q.elim c3 (fun q => absurd q (Int32.not_lt.mpr c4)))
            · refine z_auto rfl ?_
              refine z_jp rfl ?_
              refine z_auto rfl ?_
              exact z_rt rfl (zPr_i mrun)
  · have mrun : ∀ rl' rs', zWm (d + 12) 150 [zr 10 0, zi x1, zi x2] I (zRR rl' rs') (fun v2 I2 G2 => some (zi (-2)) = v2 ∧ zRel I2 ∧ ∃ rl2 rs2, G2 = zRR rl2 rs2) := by
      intro rl' rs'
      refine z_auto rfl ?_
      refine z_cl rfl (m_in_n (hx1.imp (fun q => Int32.lt_trans q (by decide)) id) ?_)
      refine z_auto rfl ?_
      refine z_jp rfl ?_
      refine z_auto rfl ?_
      exact z_rt rfl (zPr_o hR)
    refine z_auto rfl ?_
    refine z_br rfl (fun c1 => ?_) (fun c1 => ?_)
    · refine z_auto rfl ?_
      exact z_rt rfl (zPr_i mrun)
    · refine z_auto rfl ?_
      refine z_br rfl (fun c2 => ?_) (fun c2 => ?_)
      · refine z_auto rfl ?_
        exact z_rt rfl (zPr_i mrun)
      · exact absurd hx1 (fun q => q.elim (fun q => c1 (Int32.lt_trans q (by decide))) c2)
end
