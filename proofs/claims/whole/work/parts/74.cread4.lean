/-! the class reads a text; its school -/
theorem fRd_gd {c : Nat → Nat} {N : Nat} (hc : ∀ p, c p < 128 ↔ p < N) : ∀ (m p : Nat) (C : List zCl), p ≤ N → (fRd c N m p C).1 ≤ N
  | 0, p, C, hp => hp
  | m + 1, p, C, hp => by
    have hg := (fCla_gd hc hp).1
    rw [fRd]
    generalize fCla c p = r at hg
    obtain ⟨q, o⟩ := r
    cases o with
    | none => exact hg
    | some cl =>
      dsimp only at hg ⊢
      split
      · exact hg
      · split
        · exact hg
        · split
          · rename_i h59
            exact fRd_gd hc m (q + 1) _ ((hc q).mp (by omega))
          · exact hg
section
variable {d : Nat} {I J : zMI} {rl rs : Option (Nat × Nat)} {Q : zPQ} {c : Nat → Nat} {N p : Nat} {A : List Nat} {C : List zCl}
set_option maxHeartbeats 4000000 in
set_option maxRecDepth 100000 in
theorem s_readLoop (hI : zTc2 I c N) : ∀ (m : Nat) (p : Nat) (C : List zCl) (K : zMI), zCk I K p C → p ≤ N → (zflat C).length ≤ p → C.length + m = 10 → 0 < m → (∀ q C' K', fRd c N m p C = (q, some C') → zCk I K' q C' → Q (some (zi (-1))) K' (zRR rl (some (29, 0)))) → (∀ q K', fRd c N m p C = (q, none) → (∀ c i k, ¬ (c = 5 ∧ i = 0 ∧ k = 3) → ¬ ((c = 6 ∨ c = 30 ∨ c = 31 ∨ c = 32 ∨ c = 33) ∧ i = 0) → K' c i k = I c i k) → Q (some (zi (nI q))) K' (zRR rl (some (29, 0)))) → zW (10 + d + 7) kX5_read (zblk kX5_read 1) [some (zr 5 0), some (zr 8 0), some (zi (nI (C.length + 1)))] [] K (zRR rl (some (29, 0))) Q := by
  have i2 := hI.2.1
  have i3 := hI.2.2.1
  intro m
  induction m with
  | zero =>
    intro p C K hK hp hA hm h0 h1 h2
    omega
  | succ m ih =>
    intro p C K hK hp hA hm hm0 h1 h0
    have hgc := fCla_gd i3 hp
    refine z_auto rfl ?_
    refine z_br rfl (fun c1 => ?_) (fun c1 => ?_)
    · exact absurd c1 (Int32.not_lt.mpr (nI_le (a := C.length + 1) (b := 10) (by omega) (by decide)))
    · refine z_auto rfl ?_
      refine z_cl rfl (s_readClause hI hK hp hA (by omega) (fun q cl M ec hM => ?_) (fun q M A' ec hM => ?_))
      · rw [ec] at hgc
        obtain ⟨g1, g2, g3⟩ := hgc
        have g4 := (g3 cl rfl).1
        dsimp only at g1 g2 g4
        have m3 := hM.2.1
        have m2 : M 5 0 2 = nI N := (hM.1 _ _ _ (by omega) (by omega)).trans hI.1
        refine z_auto rfl ?_
        refine z_jp rfl ?_
        refine z_auto rfl ?_
        rw [m3, m2]
        refine z_auto rfl ?_
        refine z_br rfl (fun c2 => ?_) (fun c2 => ?_)
        · have hne : ¬ q = N := fun e => c2 (by rw [e])
          refine z_auto rfl ?_
          refine z_br rfl (fun c3 => ?_) (fun c3 => ?_)
          · have hm1 : m = 0 := by
              have := (nI_eq (a := C.length + 1) (b := 10) (by omega) (by decide)).mp c3
              omega
            refine z_auto rfl ?_
            rw [m3]
            refine z_auto rfl ?_
            exact z_rt rfl (h0 q M (by rw [fRd, ec]; dsimp only; rw [if_neg hne, if_pos hm1]) hM.1)
          · have hm1 : ¬ m = 0 := fun e => c3 (by
              rw [show C.length + 1 = 10 by omega]
              rfl)
            have hP0 : zPc M M q (zflat (C ++ [cl])) := ⟨fun _ _ _ _ _ _ => rfl, m3, hM.2.2.2, hM.2.2.1.2.2.2.2.2⟩
            refine z_auto rfl ?_
            refine z_cl rfl (s_pass (zTc2_J hI hM) hP0 g1 (x := 59) (by decide) (fun e3 P hP => ?_) (fun e3 => ?_))
            · have c1 : q < N := (i3 q).mp (by omega)
              have hP2 : zCk I P (q + 1) (C ++ [cl]) := by
                obtain ⟨x1, x2, ⟨s1, s2, s3, s4, s5, s6⟩, x4⟩ := hM
                obtain ⟨y1, y2, y3, y4⟩ := hP
                have fr : ∀ c i k, ¬ (c = 5 ∧ i = 0 ∧ k = 3) → ¬ (c = 6 ∧ i = 0 ∧ k = 6) → ¬ (c = 33 ∧ i = 0) → P c i k = M c i k := y1
                refine ⟨fun c i k a1 a2 => (fr c i k a1 (by omega) (by omega)).trans (x1 c i k a1 a2), y2, ⟨(fr _ _ _ (by omega) (by omega) (by omega)).trans s1, s2, s3, s4, fun i x hx => ?_, y4⟩, y3⟩
                rw [fr _ _ _ (by omega) (by omega) (by omega), fr _ _ _ (by omega) (by omega) (by omega), fr _ _ _ (by omega) (by omega) (by omega)]
                exact s5 i x hx
              have h5 := ih (q + 1) (C ++ [cl]) P hP2 c1 (by rw [zflat_app, List.length_append]; omega) (by rw [List.length_append, List.length_singleton]; omega) (by omega) (fun q' C' K' e hK' => h1 q' C' K' (by rw [fRd, ec]; dsimp only; rw [if_neg hne, if_neg hm1, if_pos e3]; exact e) hK') (fun q' K' e hK' => h0 q' K' (by rw [fRd, ec]; dsimp only; rw [if_neg hne, if_neg hm1, if_pos e3]; exact e) hK')
              rw [List.length_append, List.length_singleton, nI_succ] at h5
              refine z_auto rfl ?_
              refine z_jp rfl ?_
              refine z_auto rfl ?_
              refine z_jp rfl ?_
              exact h5
            · refine z_auto rfl ?_
              refine z_st rfl ?_
              refine z_auto rfl ?_
              refine z_jp rfl ?_
              refine z_auto rfl ?_
              rw [m3]
              refine z_auto rfl ?_
              exact z_rt rfl (h0 q M (by rw [fRd, ec]; dsimp only; rw [if_neg hne, if_neg hm1, if_neg e3]) hM.1)
        · have he : q = N := (nI_eq (by omega) (by omega)).mp (Classical.not_not.mp c2)
          refine z_auto rfl ?_
          exact z_rt rfl (h1 q _ M (by rw [fRd, ec]; dsimp only; rw [if_pos he]) hM)
      · refine z_auto rfl ?_
        refine z_st rfl ?_
        refine z_auto rfl ?_
        rw [hM.2.1]
        refine z_auto rfl ?_
        exact z_rt rfl (h0 q M (by rw [fRd, ec]) (fun c i k a1 a2 => (hM.1 c i k a1 (by omega) (by omega)).trans (hK.1 c i k a1 a2)))
/-- what reading and keeping change -/
def zFs (k : Nat) (I J : zMI) : Prop := ∀ c i x, ¬ (c = 5 ∧ i = 0) → ¬ ((c = 6 ∨ (30 ≤ c ∧ c ≤ 33)) ∧ (i = 0 ∨ i = k + 2)) → ¬ (c = 1 ∧ i = 0 ∧ x = 5) → ¬ (c = 8 ∧ i = 0 ∧ x = 1) → J c i x = I c i x
set_option maxHeartbeats 4000000 in
set_option maxRecDepth 100000 in
theorem s_read (h8 : I 8 0 1 = nI N) (i2 : N ≤ 100) (i3 : ∀ p, c p < 128 ↔ p < N) (i4 : ∀ p, p < N → I 29 0 p = nI (c p)) (h1 : ∀ q C K, fRd c N 10 0 [] = (q, some C) → (∀ c i x, ¬ (c = 5 ∧ i = 0) → ¬ ((c = 6 ∨ (30 ≤ c ∧ c ≤ 33)) ∧ i = 0) → K c i x = I c i x) → zES K 0 C → K 6 0 6 = nI (zflat C).length → Q (some (zi (-1))) K (zRR rl (some (29, 0)))) (h0 : ∀ q K, fRd c N 10 0 [] = (q, none) → (∀ c i x, ¬ (c = 5 ∧ i = 0) → ¬ ((c = 6 ∨ (30 ≤ c ∧ c ≤ 33)) ∧ i = 0) → K c i x = I c i x) → Q (some (zi (nI q))) K (zRR rl (some (29, 0)))) : zWm (10 + d + 7) 36 [zr 5 0, zr 8 0] I (zRR rl rs) Q := by
  refine z_auto rfl ?_
  rw [zur_s, h8]
  have hmin : (if nI (zal 29) < nI N then nI (zal 29) else nI N) = nI N := if_neg (Int32.not_lt.mpr (nI_le (a := N) (b := 100) i2 (by decide)))
  refine z_auto rfl ?_
  refine z_cl rfl (s_clear ?_)
  rw [hmin]
  obtain ⟨M, hM⟩ : ∃ M, M = zup (zup (zup (zup I 5 0 2 (nI N)) 5 0 3 0) 6 0 5 0) 6 0 6 0 := ⟨_, rfl⟩
  rw [← hM]
  have fr : ∀ c i x, ¬ (c = 5 ∧ i = 0) → ¬ ((c = 6 ∨ (30 ≤ c ∧ c ≤ 33)) ∧ i = 0) → M c i x = I c i x := fun c i x a1 a2 => by
    rw [hM]
    repeat rw [zup_ne (by omega)]
  have m2 : M 5 0 2 = nI N := by
    rw [hM]
    repeat (first | rw [zup_eq] | rw [zup_ne (by omega)])
  have m3 : M 5 0 3 = nI 0 := by
    rw [hM]
    repeat (first | rw [zup_eq] | rw [zup_ne (by omega)])
    rfl
  have m5 : M 6 0 5 = nI 0 := by
    rw [hM]
    repeat (first | rw [zup_eq] | rw [zup_ne (by omega)])
    rfl
  have m6 : M 6 0 6 = nI 0 := by
    rw [hM]
    repeat (first | rw [zup_eq] | rw [zup_ne (by omega)])
    rfl
  clear hM
  have hI : zTc2 M c N := ⟨m2, i2, i3, fun p hp => (fr 29 0 p (by omega) (by omega)).trans (i4 p hp)⟩
  refine z_auto rfl ?_
  refine z_jp rfl ?_
  have hE0 : zES M 0 [] := by
    refine ⟨m5, by decide, by decide, fun c hc => (by cases hc), fun i c hc => ?_, fun k t hk => ?_⟩
    · rw [List.getElem?_nil] at hc
      cases hc
    · rw [show zflat [] = [] from rfl, List.getElem?_nil] at hk
      cases hk
  refine s_readLoop hI 10 0 [] M ⟨fun _ _ _ _ _ => rfl, m3, hE0, m6⟩ (Nat.zero_le _) (Nat.le_refl _) rfl (by decide) (fun q C K e hK => ?_) (fun q K e hK => ?_)
  · exact h1 q C K e (fun c i x a1 a2 => (hK.1 c i x (by omega) (by omega)).trans (fr c i x a1 a2)) hK.2.2.1 hK.2.2.2
  · exact h0 q K e (fun c i x a1 a2 => (hK c i x (by omega) (by omega)).trans (fr c i x a1 a2))
set_option maxHeartbeats 4000000 in
set_option maxRecDepth 100000 in
theorem s_cp6 {b b' : Nat} (hb : b ≠ b') (h : ∀ J : zMI, (∀ c i k, ¬ ((c = 6 ∨ (30 ≤ c ∧ c ≤ 33)) ∧ i = b) → J c i k = I c i k) → (∀ k, (k = 5 ∨ k = 6) → J 6 b k = I 6 b' k) → (∀ c k, 30 ≤ c → c ≤ 32 → k < 10 → J c b k = I c b' k) → (∀ k, k < 100 → J 33 b k = I 33 b' k) → Q none J (zRR rl rs)) : zWm d 49 [zr 6 b, zr 6 b'] I (zRR rl rs) Q := by
  refine z_auto rfl ?_
  refine z_cpy ⟨rfl, rfl, rfl, rfl, rfl, rfl, rfl⟩ ?_
  refine z_auto rfl ?_
  refine z_cpy ⟨rfl, rfl, rfl, rfl, rfl, rfl, rfl⟩ ?_
  refine z_auto rfl ?_
  refine z_cpy ⟨rfl, rfl, rfl, rfl, rfl, rfl, rfl⟩ ?_
  refine z_auto rfl ?_
  refine z_cpy ⟨rfl, rfl, rfl, rfl, rfl, rfl, rfl⟩ ?_
  refine z_auto rfl ?_
  refine z_rt rfl (h _ (fun c i k h1 => ?_) (fun k hk => ?_) (fun c k hc1 hc2 hk => ?_) (fun k hk => ?_))
  · rw [zup_ne (by omega), zup_ne (by omega), zcp_ne (by omega), zcp_ne (by omega), zcp_ne (by omega), zcp_ne (by omega)]
  · rcases hk with rfl | rfl
    · rw [zup_ne (by omega), zup_eq, zcp_ne (by omega), zcp_ne (by omega), zcp_ne (by omega), zcp_ne (by omega)]
    · rw [zup_eq, zup_ne (by omega), zcp_ne (by omega), zcp_ne (by omega), zcp_ne (by omega), zcp_ne (by omega)]
  · rw [zup_ne (by omega), zup_ne (by omega), zcp_ne (by omega)]
    rcases (show c = 30 ∨ c = 31 ∨ c = 32 by omega) with rfl | rfl | rfl
    · rw [zcp_ne (by omega), zcp_ne (by omega)]
      exact zcp_eq hk
    · rw [zcp_ne (by omega)]
      exact (zcp_eq hk).trans (zcp_ne (by omega))
    · exact (zcp_eq hk).trans ((zcp_ne (by omega)).trans (zcp_ne (by omega)))
  · rw [zup_ne (by omega), zup_ne (by omega)]
    exact (zcp_eq hk).trans ((zcp_ne (by omega)).trans ((zcp_ne (by omega)).trans (zcp_ne (by omega))))
set_option maxHeartbeats 4000000 in
set_option maxRecDepth 100000 in
theorem c_school {k : Nat} (hk : I 1 0 5 = nI k) (hk5 : k < 5) (h8 : I 8 0 1 = nI N) (i2 : N ≤ 100) (i3 : ∀ p, c p < 128 ↔ p < N) (i4 : ∀ p, p < N → I 29 0 p = nI (c p)) (h1 : ∀ q C K, fRd c N 10 0 [] = (q, some C) → zFs k I K → zES K (k + 2) C → K 1 0 5 = nI (k + 1) → K 8 0 1 = 0 → Q (some (zi (nI k))) K (zRR rl (some (29, 0)))) (h0 : ∀ q K, fRd c N 10 0 [] = (q, none) → zFs k I K → K 1 0 5 = nI k → K 8 0 1 = 0 → Q (some (zi (-10 - nI q))) K (zRR rl (some (29, 0)))) : zWm (10 + d + 8) 65 [zr 9 0] I (zRR rl rs) Q := by
  refine z_auto rfl ?_
  rw [hk, show nI k + 1 = nI (k + 1) from (nI_succ k).symm]
  refine z_auto rfl ?_
  refine z_br rfl (fun c1 => ?_) (fun c1 => ?_)
  · exact absurd c1 (Int32.not_lt.mpr (nI_le (a := 1) (b := k + 1) (by omega) (by omega)))
  · refine z_auto rfl ?_
    refine z_br rfl (fun c2 => ?_) (fun c2 => ?_)
    · refine z_auto rfl ?_
      refine z_cl rfl (s_read h8 i2 i3 i4 (fun q C K e hK hE h6 => ?_) (fun q K e hK => ?_))
      · refine z_auto rfl ?_
        refine z_jp rfl ?_
        refine z_auto rfl ?_
        refine z_sld (k := k + 1) rfl rfl (by show k + 1 < 6; omega) ?_
        rw [zRR_50 (by omega)]
        refine z_auto rfl ?_
        refine z_cl rfl (s_cp6 (b := k + 2) (b' := 0) (by omega) (fun J f1 v1 v2 v3 => ?_))
        refine z_auto rfl ?_
        rw [show nI (k + 1) - 1 = nI k by rw [nI_succ, Int32.add_sub_cancel]]
        have kI : ∀ c i x, ¬ (c = 5 ∧ i = 0) → ¬ ((c = 6 ∨ (30 ≤ c ∧ c ≤ 33)) ∧ i = 0) → ¬ (c = 8 ∧ i = 0 ∧ x = 1) → zup K 8 0 1 0 c i x = I c i x := fun c i x a1 a2 a3 => by
          rw [zup_ne a3]
          exact hK c i x a1 a2
        obtain ⟨g1, g2, g3, g4, g5, g6⟩ := hE
        refine z_auto rfl ?_
        refine z_rt rfl (h1 q C _ e (fun c i x a1 a2 a3 a4 => by
          rw [zup_ne a3, f1 c i x (by omega)]
          exact kI c i x a1 (by omega) a4) ⟨?_, g2, g3, g4, fun i cl hcl => ?_, fun x t ht => ?_⟩ zup_eq (by rw [zup_ne (by omega), f1 _ _ _ (by omega)]; exact zup_eq))
        · rw [zup_ne (by omega), v1 5 (Or.inl rfl), zup_ne (by omega)]
          exact g1
        · have hi := (List.getElem?_eq_some_iff.mp hcl).1
          rw [zup_ne (by omega), zup_ne (by omega), zup_ne (by omega), v2 30 i (by decide) (by decide) (by omega), v2 31 i (by decide) (by decide) (by omega), v2 32 i (by decide) (by decide) (by omega), zup_ne (by omega), zup_ne (by omega), zup_ne (by omega)]
          exact g5 i cl hcl
        · have hx := (List.getElem?_eq_some_iff.mp ht).1
          rw [zup_ne (by omega), v3 x (by omega), zup_ne (by omega)]
          exact g6 x t ht
      · have hq := fRd_gd i3 10 0 [] (Nat.zero_le _)
        rw [e] at hq
        dsimp only at hq
        refine z_auto rfl ?_
        refine z_br rfl (fun c3 => ?_) (fun c3 => ?_)
        · exact absurd c3 (nI_pos (by omega))
        · refine z_auto rfl ?_
          exact z_rt rfl (h0 q _ e (fun c i x a1 a2 a3 a4 => by rw [zup_ne (by omega)]; exact hK c i x a1 (by omega)) (by rw [zup_ne (by omega), hK _ _ _ (by omega) (by omega), hk]) zup_eq)
    · exact absurd (nI_lt (a := k + 1) (b := 6) (by omega) (by decide)) c2
end
