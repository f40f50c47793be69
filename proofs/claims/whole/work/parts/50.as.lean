/-! as -/
section
variable {d : Nat} {B : List (List zAI)} {is : List zAI} {L : zXL} {S : List zAV} {I : zMI} {G : zMR} {Q : zPQ} {k : Nat} {x : Int32}
theorem z_tld (hx : x = nI k) (hk : k < 7) (kk : zW d B is L (zi (ztab k) :: S) I G Q) : zW d B ((17, 0, 0, 0) :: is) L (zi x :: zr 61 0 :: S) I G Q := by
  have e : zex (17, 0, 0, 0) L (zi x :: zr 61 0 :: S) I G = (if zsh 61 = 1 then (if 0 ≤ x ∧ x.toNatClampNeg < zal 61 then zeN (L, zi (I 61 0 x.toNatClampNeg) :: S, I, G) else zeF) else if zsh 61 = 5 then (if 0 ≤ x ∧ x.toNatClampNeg < 7 then zeN (L, zi (ztab x.toNatClampNeg) :: S, I, G) else zeF) else zeF) := rfl
  subst hx
  have hcl : (nI k).toNatClampNeg = k := nI_clamp (by omega)
  rw [if_neg (by decide), if_pos (by decide), hcl, if_pos ⟨nI_pos' (by omega), hk⟩] at e
  exact z_st e kk
def fUn (kd k : Nat) : Int32 := if k = 0 ∨ k = kd ∨ (0 < k ∧ k < 4 ∧ kd = k + 3) then 1 else 0
theorem n_7 {k : Nat} (h : k ≤ 6) : k = 0 ∨ k = 1 ∨ k = 2 ∨ k = 3 ∨ k = 4 ∨ k = 5 ∨ k = 6 := by omega
set_option maxHeartbeats 4000000 in
set_option maxRecDepth 100000 in
theorem m_isUnder {kd k : Nat} (h1 : kd ≤ 6) (h2 : k ≤ 6) (h : Q (some (zi (fUn kd k))) I G) : zWm d 162 [zi (nI kd), zi (nI k)] I G Q := by
  rcases n_7 h1 with rfl | rfl | rfl | rfl | rfl | rfl | rfl <;> rcases n_7 h2 with rfl | rfl | rfl | rfl | rfl | rfl | rfl <;>
    repeat (refine z_auto rfl ?_; first | exact z_rt rfl h | refine z_jp rfl ?_ | refine z_st rfl ?_)
set_option maxHeartbeats 4000000 in
set_option maxRecDepth 100000 in
theorem s_isUnder {kd k : Nat} (h1 : kd ≤ 6) (h2 : k ≤ 6) (h : Q (some (zi (fUn kd k))) I G) : zWm d 27 [zi (nI kd), zi (nI k)] I G Q := by
  rcases n_7 h1 with rfl | rfl | rfl | rfl | rfl | rfl | rfl <;> rcases n_7 h2 with rfl | rfl | rfl | rfl | rfl | rfl | rfl <;>
    repeat (refine z_auto rfl ?_; first | exact z_rt rfl h | refine z_jp rfl ?_ | refine z_st rfl ?_)
set_option maxHeartbeats 4000000 in
set_option maxRecDepth 100000 in
theorem p_as (x1 x2 : Int32) : zPr 89 171 [zi x1, zi x2] := by
  intro d I rl rs hR
  have hR0 := hR
  obtain ⟨n, k, t, ⟨b1, b2, b3, b4, b5, b6⟩, -, -, -, -, -⟩ := hR0
  have hn := b1.1
  have hm := b1.2.1
  have h8 := b1.2.2.1
  rcases n_lay x1 n h8 with ⟨l, hl, rfl⟩ | hx1
  · obtain ⟨kd, v, th, w, sd, q, ⟨p0, p1, -, -, -⟩, r1, r2, -, -, -⟩ := b1.2.2.2.1 l hl
    refine z_auto rfl ?_
    refine z_cl rfl (c_has_y hn h8 hl ?_)
    refine z_auto rfl ?_
    refine z_st rfl ?_
    rcases n_cases x2 6 (by decide) with ⟨j, hj, rfl⟩ | hx2
    · refine z_auto rfl ?_
      refine z_cl rfl (c_isKind_y hj ?_)
      refine z_auto rfl ?_
      refine z_jp rfl ?_
      refine z_auto rfl ?_
      refine z_ald (k := l) rfl rfl (by show l < 8; omega) ?_
      rw [p0]
      refine z_auto rfl ?_
      refine z_cl rfl (s_isUnder (by omega) hj ?_)
      have mrun : ∀ v2 : Int32, v2 = (if fUn kd j = 0 then -6 else nI v) → ∀ rl' rs', zWm (d + 12) 171 [zr 10 0, zi (nI l), zi (nI j)] I (zRR rl' rs') (fun v3 I2 G2 => some (zi v2) = v3 ∧ zRel I2 ∧ ∃ rl2 rs2, G2 = zRR rl2 rs2) := by
        intro v2 hv rl' rs'
        refine z_auto rfl ?_
        refine z_cl rfl (m_isLayer_y hm h8 hl ?_)
        refine z_auto rfl ?_
        refine z_st rfl ?_
        refine z_auto rfl ?_
        refine z_cl rfl (m_in_y (lo := 0) (hi := 6) (Nat.zero_le _) hj (by decide) ?_)
        refine z_auto rfl ?_
        refine z_jp rfl ?_
        refine z_auto rfl ?_
        refine z_ald (k := (10 + l)) rfl (nI_add 10 l) (by show 10 + l < 937; omega) ?_
        rw [r1]
        refine z_auto rfl ?_
        refine z_cl rfl (m_isUnder (by omega) hj ?_)
        refine z_auto rfl ?_
        refine z_br rfl (fun c => ?_) (fun c => ?_)
        · refine z_auto rfl ?_
          refine z_jp rfl ?_
          refine z_auto rfl ?_
          exact z_rt rfl (zPr_o2 (by rw [hv, if_pos c]) hR)
        · refine z_auto rfl ?_
          refine z_ald (k := (18 + l)) rfl (nI_add 18 l) (by show 18 + l < 937; omega) ?_
          rw [r2]
          refine z_auto rfl ?_
          refine z_jp rfl ?_
          refine z_auto rfl ?_
          exact z_rt rfl (zPr_o2 (by rw [hv, if_neg c]) hR)
      refine z_auto rfl ?_
      refine z_br rfl (fun c => ?_) (fun c => ?_)
      · refine z_auto rfl ?_
        refine z_jp rfl ?_
        refine z_auto rfl ?_
        exact z_rt rfl (zPr_i (mrun _ (by rw [if_pos c])))
      · refine z_auto rfl ?_
        refine z_ald (k := l) rfl rfl (by show l < 8; omega) ?_
        rw [p1]
        refine z_auto rfl ?_
        refine z_jp rfl ?_
        refine z_auto rfl ?_
        exact z_rt rfl (zPr_i (mrun _ (by rw [if_neg c])))
    · refine z_auto rfl ?_
      refine z_cl rfl (c_isKind_n hx2 ?_)
      refine z_auto rfl ?_
      refine z_st rfl ?_
      refine z_auto rfl ?_
      refine z_jp rfl ?_
      refine z_auto rfl ?_
      refine z_rt rfl (zPr_i (fun rl' rs' => ?_))
      refine z_auto rfl ?_
      refine z_cl rfl (m_isLayer_y hm h8 hl ?_)
      refine z_auto rfl ?_
      refine z_st rfl ?_
      refine z_auto rfl ?_
      refine z_cl rfl (m_in_n hx2 ?_)
      refine z_auto rfl ?_
      refine z_st rfl ?_
      refine z_auto rfl ?_
      refine z_jp rfl ?_
      refine z_auto rfl ?_
      exact z_rt rfl (zPr_o hR)
  · refine z_auto rfl ?_
    refine z_cl rfl (c_has_n hn h8 hx1 ?_)
    refine z_auto rfl ?_
    refine z_jp rfl ?_
    refine z_auto rfl ?_
    refine z_rt rfl (zPr_i (fun rl' rs' => ?_))
    refine z_auto rfl ?_
    refine z_cl rfl (m_isLayer_n hm h8 hx1 ?_)
    refine z_auto rfl ?_
    refine z_jp rfl ?_
    refine z_auto rfl ?_
    exact z_rt rfl (zPr_o hR)
end
