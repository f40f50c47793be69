/-! drop, broken -/
section
variable {d : Nat} {I : zMI} {rl rs : Option (Nat × Nat)} {Q : zPQ} {G : zMR} {n k t : Nat} {C : List zCl}
set_option maxHeartbeats 4000000 in
set_option maxRecDepth 100000 in
theorem m_fm {M : zMI} (hS : zSt8 I C n k t) (h40 : M 40 0 = I 40 0) {ad f : Nat} (hf : f ≤ 20) (hd : ad ≤ 100) (h15 : M 10 0 15 = nI ad) {out a : Int32} (h14 : M 10 0 14 = out)
    (h : ∀ K : zMI, zFM M K → K 10 0 19 = (fAll I C n t (nI f) a (nI ad) out).1 → K 10 0 16 = (fAll I C n t (nI f) a (nI ad) out).2.1.2.2 → (K 10 0 17, K 10 0 18) = fEg I C n t (nI f) a (nI ad) out (zlast C 0 20) (I 2 0 0, I 2 0 1) → Q (some (zi (fFo I C n t (nI f) a (nI ad) out))) K (zRR rl rs)) : zWm (d + 3) 143 [zr 10 0, zi (nI f), zi a] M (zRR rl rs) Q := by
  obtain ⟨hb, hC, hH⟩ := hS
  obtain ⟨h1, ⟨g1, g2, g3, g4, g5⟩, -, -, -, ⟨e1, e2, e3, e4, e5⟩⟩ := hb
  have hall := r_all h1 (t := t) (e1.trans e2.symm) (C := C) (f := nI f) (a := a) (add := nI ad) (out := out)
  obtain ⟨b, hb, eb⟩ := r_bl (s := I 40 0) (C := C) (n := n) (f := f) (ad := ad) (t := t) (ld := fLd C a (nI f)) (out := out) hC.2.2.1.2.2.2.1 hC.2.2.1.2.1 h1.2.2.1 (fun k hk => by
    obtain ⟨kd, v, th, w, sd, ⟨q1, q2, q3, q4, q5, q6⟩, -, r1, r2, r3, r4, r5⟩ := h1.2.2.2.1 k hk
    exact ⟨w, q5, r4⟩) hf hd e2 e3
  have hbl : 0 ≤ fBl C (nI f) (fLd C a (nI f)) (zww (fun k => I 40 0 (34 + k)) out n / 10) (I 40 0 6 - I 40 0 6 / 10 * 10) (nI ad) := by
    rw [eb]
    exact nI_pos' (by omega)
  have hw : zww (I 23 0) out n = zww (fun k => I 40 0 (34 + k)) out n := zww_cong n (fun k hk => by
    obtain ⟨kd, v, th, w, sd, q, ⟨p0, p1, p2, p3, p4⟩, r1, r2, r3, r4, r5⟩ := h1.2.2.2.1 k hk
    exact p3.trans r4.symm)
  have hfo : fFo I C n t (nI f) a (nI ad) out = mFo (mAll (I 40 0) C n t (nI f) a (nI ad) out) := by
    rw [r_fo (by rw [hw, e1, ← e2]; exact hbl), hall]
  have heg : (I 2 0 0, I 2 0 1) = (I 40 0 7, if I 40 0 8 = 0 then (1 : Int32) else 0) := by
    rw [e4]
    rcases e5 with ⟨q1, q2⟩ | ⟨q1, q2⟩
    · rw [q1, q2]; rfl
    · rw [q1, q2]; rfl
  rw [hfo, heg] at h
  unfold fEg at h
  rw [hall] at h
  refine m_fallsNow (C := C) (n := n) (t := t) (by rw [h40]; exact hH) (by rw [h40]; exact h1.2.1) h1.2.2.1 (by omega) (by rw [h40]; exact e2) (by rw [h40]; exact r_Ab h1 t) (by rw [h40, h15, h14]; exact hbl) ?_
  rw [h40, h15, h14]
  intro K hK _ q1 q2 q3
  exact h K hK q1 q2 q3
set_option maxHeartbeats 4000000 in
set_option maxRecDepth 100000 in
theorem p_broken (x1 : Int32) {b : Int32} (hb : b = 0 ∨ b = 1) : zPr 69 133 [zi x1, zi b] := by
  intro d I rl rs hR
  have hR0 := hR
  obtain ⟨n, k, t, ⟨b1, b2, b3, b4, b5, b6⟩, -, -, -, -, -⟩ := hR0
  have hn := b1.1
  have hm := b1.2.1
  have h8 := b1.2.2.1
  have h9 := b1.2.2.2.2.2.2.1
  rcases n_lay x1 n h8 with ⟨l, hl, rfl⟩ | hx1
  · have hl32 : l < 32 := by omega
    have fin : ∀ x, (∀ i, n ≤ i → bt x i = false) → zRel (zup (zup I 4 0 6 x) 40 0 9 x) := by
      intro x hx
      refine zRel_D hR (fun c i k h1 h2 h3 h4 => ?_) (fun t hE => ?_) (fun n' g1 g2 g3 g4 => ?_)
      · unfold zup
        rw [if_neg (by omega), if_neg (by omega)]
      · obtain ⟨e1, e2, e3, e4, e5⟩ := hE
        refine ⟨t, ?_, ?_, e3, ?_, ?_⟩
        · rw [zup_c (by decide), zup_c (by decide)]; exact e1
        · rw [zup_k (by decide), zup_c (by decide)]; exact e2
        · rw [zup_c (by decide), zup_c (by decide), zup_k (by decide), zup_c (by decide)]; exact e4
        · rw [zup_c (by decide), zup_c (by decide), zup_k (by decide), zup_c (by decide)]; exact e5
      · rw [zup_c (by decide), zup_eq, zup_eq]
        refine ⟨rfl, fun i hi => hx i ?_⟩
        rw [(nI_eq (a := n) (b := n') (by omega) (by omega)).mp (hm.symm.trans g1)]
        exact hi
    have hor : ∀ i, n ≤ i → bt (I 40 0 9 ||| (1 <<< (nI l &&& 31))) i = false := by
      intro i hi
      rw [b_or, b1.2.2.2.2.2.2.2 i hi]
      by_cases q : i < 32
      · rw [b_sh1 l hl32 q]
        simp
        omega
      · rw [b_big (by omega)]; rfl
    have hand : ∀ i, n ≤ i → bt (I 40 0 9 &&& ((1 <<< (nI l &&& 31)) ^^^ (-1))) i = false := by
      intro i hi
      rw [b_and, b1.2.2.2.2.2.2.2 i hi]
      rfl
    have mrun : ∀ (v x : Int32), (v = (I 40 0 9 >>> (nI l &&& 31)) &&& 1) → ((¬ b = 0 ∧ x = I 40 0 9 ||| (1 <<< (nI l &&& 31))) ∨ (b = 0 ∧ x = I 40 0 9 &&& ((1 <<< (nI l &&& 31)) ^^^ (-1)))) → ∀ rl' rs', zWm (d + 12) 133 [zr 10 0, zi (nI l), zi b] (zup I 4 0 6 x) (zRR rl' rs') (fun v2 I2 G2 => some (zi v) = v2 ∧ zRel I2 ∧ ∃ rl2 rs2, G2 = zRR rl2 rs2) := by
      intro v x hv hx rl' rs'
      refine z_auto rfl ?_
      refine z_cl rfl (m_isLayer_y (by rw [zup_c (by decide)]; exact hm) h8 hl ?_)
      refine z_auto rfl ?_
      refine z_jp rfl ?_
      refine z_auto rfl ?_
      refine z_ald (k := 9) rfl rfl (by decide) ?_
      rw [zup_c (by decide)]
      refine z_auto rfl ?_
      refine z_br rfl (fun c => ?_) (fun c => ?_)
      · rcases hx with q | q
        · exact absurd c q.1
        · refine z_auto rfl ?_
          refine z_ald (k := 9) rfl rfl (by decide) ?_
          rw [zup_c (by decide)]
          refine z_auto rfl ?_
          rw [← q.2]
          refine z_auto rfl ?_
          refine z_jp rfl ?_
          refine z_auto rfl ?_
          refine z_ast (k := 9) rfl rfl (by decide) ?_
          refine z_auto rfl ?_
          exact z_rt rfl (zPr_o2 (by rw [hv]) (fin x (by rw [q.2]; exact hand)))
      · rcases hx with q | q
        · refine z_auto rfl ?_
          refine z_ald (k := 9) rfl rfl (by decide) ?_
          rw [zup_c (by decide)]
          refine z_auto rfl ?_
          rw [← q.2]
          refine z_auto rfl ?_
          refine z_jp rfl ?_
          refine z_auto rfl ?_
          refine z_ast (k := 9) rfl rfl (by decide) ?_
          refine z_auto rfl ?_
          exact z_rt rfl (zPr_o2 (by rw [hv]) (fin x (by rw [q.2]; exact hor)))
        · exact absurd q.1 c
    refine z_auto rfl ?_
    refine z_cl rfl (c_has_y hn h8 hl ?_)
    refine z_auto rfl ?_
    refine z_jp rfl ?_
    refine z_auto rfl ?_
    refine z_cl rfl (s_isBroken (fun q1 => ?_) (fun q1 => ?_))
    · rw [h9] at q1
      refine z_auto rfl ?_
      refine z_cl rfl (s_mark (fun q2 => ?_) (fun q2 => ?_))
      · rw [h9]
        refine z_auto rfl ?_
        refine z_st rfl ?_
        refine z_auto rfl ?_
        refine z_jp rfl ?_
        refine z_auto rfl ?_
        exact z_rt rfl (zPr_i (mrun 1 _ q1.symm (Or.inl ⟨q2, rfl⟩)))
      · rw [h9]
        refine z_auto rfl ?_
        refine z_st rfl ?_
        refine z_auto rfl ?_
        refine z_jp rfl ?_
        refine z_auto rfl ?_
        exact z_rt rfl (zPr_i (mrun 1 _ q1.symm (Or.inr ⟨q2, rfl⟩)))
    · rw [h9] at q1
      have q0 : (I 40 0 9 >>> (nI l &&& 31)) &&& 1 = 0 := (b_bit0 _ hl32).mpr (by
        have : ¬ bt (I 40 0 9) l = true := fun q => q1 ((b_bit1 _ hl32).mpr q)
        simpa using this)
      refine z_auto rfl ?_
      refine z_cl rfl (s_mark (fun q2 => ?_) (fun q2 => ?_))
      · rw [h9]
        refine z_auto rfl ?_
        refine z_jp rfl ?_
        refine z_auto rfl ?_
        refine z_jp rfl ?_
        refine z_auto rfl ?_
        exact z_rt rfl (zPr_i (mrun 0 _ q0.symm (Or.inl ⟨q2, rfl⟩)))
      · rw [h9]
        refine z_auto rfl ?_
        refine z_jp rfl ?_
        refine z_auto rfl ?_
        refine z_jp rfl ?_
        refine z_auto rfl ?_
        exact z_rt rfl (zPr_i (mrun 0 _ q0.symm (Or.inr ⟨q2, rfl⟩)))
  · refine z_auto rfl ?_
    refine z_cl rfl (c_has_n hn h8 hx1 ?_)
    refine z_auto rfl ?_
    refine z_st rfl ?_
    refine z_auto rfl ?_
    refine z_rt rfl (zPr_i (fun rl' rs' => ?_))
    refine z_auto rfl ?_
    refine z_cl rfl (m_isLayer_n hm h8 hx1 ?_)
    refine z_auto rfl ?_
    refine z_st rfl ?_
    refine z_auto rfl ?_
    exact z_rt rfl (zPr_o hR)
end
