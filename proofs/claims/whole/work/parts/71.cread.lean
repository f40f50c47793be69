/-! THE CLASS READS -/
def zTc2 (I : zMI) (c : Nat → Nat) (N : Nat) : Prop := I 5 0 2 = nI N ∧ N ≤ 100 ∧ (∀ p, c p < 128 ↔ p < N) ∧ ∀ p, p < N → I 29 0 p = nI (c p)
def zPc (I J : zMI) (p : Nat) (A : List Nat) : Prop := (∀ c i k, ¬ (c = 5 ∧ i = 0 ∧ k = 3) → ¬ (c = 6 ∧ i = 0 ∧ k = 6) → ¬ (c = 33 ∧ i = 0) → J c i k = I c i k) ∧ J 5 0 3 = nI p ∧ J 6 0 6 = nI A.length ∧ ∀ k t, A[k]? = some t → J 33 0 k = zcs t
theorem zPc_at {I J : zMI} {p q : Nat} {A : List Nat} (h : zPc I J p A) : zPc I (zup J 5 0 3 (nI q)) q A := by
  obtain ⟨h1, h2, h3, h4⟩ := h
  exact ⟨fun c i k a1 a2 a3 => by rw [zup_ne a1]; exact h1 c i k a1 a2 a3, zup_eq, by rw [zup_ne (by omega)]; exact h3, fun k t hk => by rw [zup_ne (by omega)]; exact h4 k t hk⟩
theorem zPc_st {I J : zMI} {p : Nat} {A : List Nat} {t : Nat} (h : zPc I J p A) : zPc I (zup (zup J 33 0 A.length (zcs t)) 6 0 6 (nI (A.length + 1))) p (A ++ [t]) := by
  obtain ⟨h1, h2, h3, h4⟩ := h
  refine ⟨fun c i k a1 a2 a3 => by rw [zup_ne a2, zup_ne (by omega)]; exact h1 c i k a1 a2 a3, by rw [zup_ne (by omega), zup_ne (by omega)]; exact h2, by rw [zup_eq, List.length_append]; rfl, fun k x hk => ?_⟩
  rw [zup_ne (by omega)]
  rcases l_snoc hk with ⟨rfl, rfl⟩ | ⟨q1, q2⟩
  · exact zup_eq
  · rw [zup_ne (by omega)]
    exact h4 k x q2
theorem zN_in {x : Nat} (h : x < 128) : zN x = nI x := if_pos h
theorem zN_eq {x y : Nat} (hy : y < 128) : zN x = nI y ↔ x = y := by
  by_cases c : x < 128
  · rw [zN_in c]
    exact nI_eq (by omega) (by omega)
  · rw [zN, if_neg c]
    constructor
    · intro h
      exact absurd (show nI y < 0 by rw [← h]; decide) (nI_pos (by omega))
    · intro h
      omega
theorem zN_dg {x : Nat} : (¬ zN x < 48 ∧ ¬ 57 < zN x) ↔ (48 ≤ x ∧ x ≤ 57) := by
  by_cases c : x < 128
  · rw [zN_in c]
    constructor
    · rintro ⟨h1, h2⟩
      constructor
      · apply Classical.byContradiction
        intro q
        exact h1 (nI_lt (a := x) (b := 48) (by omega) (by decide))
      · apply Classical.byContradiction
        intro q
        exact h2 (nI_lt (a := 57) (b := x) (by omega) (by omega))
    · rintro ⟨h1, h2⟩
      exact ⟨Int32.not_lt.mpr (nI_le (a := 48) (b := x) h1 (by omega)), Int32.not_lt.mpr (nI_le (a := x) (b := 57) h2 (by decide))⟩
  · rw [zN, if_neg c]
    constructor
    · rintro ⟨h1, h2⟩
      exact absurd (by decide) h1
    · intro h
      omega
theorem nI_sub {a b : Nat} (h : b ≤ a) : nI a - nI b = nI (a - b) := by
  obtain ⟨e, rfl⟩ : ∃ e, a = e + b := ⟨a - b, by omega⟩
  rw [← nI_add, Int32.add_sub_cancel, Nat.add_sub_cancel]
theorem zgi_map : ∀ (l : List Nat) (i : Nat) (h : i < l.length), zgi (l.map nI) i = nI l[i]
  | x :: l, 0, _ => rfl
  | x :: l, i + 1, h => zgi_map l i (Nat.lt_of_succ_lt_succ h)
theorem z_chr {d : Nat} {B : List (List zAI)} {is : List zAI} {L : zXL} {S : List zAV} {I : zMI} {G : zMR} {Q : zPQ} {j i : Nat} {l : List Nat} (hl : zst j = l.map nI) (hs : zsh 60 = 4 ∧ zshort S = true ∧ j < 6) (h100 : l.length ≤ 100) (hi : i < l.length) (kk : zW d B is L (zi (nI l[i]) :: S) I G Q) : zW d B ((40, 0, 0, 0) :: is) L (zi (nI i) :: zr 60 j :: S) I G Q := by
  have e : zex (40, 0, 0, 0) L (zi (nI i) :: zr 60 j :: S) I G = (if zsh 60 = 4 ∧ zshort S = true ∧ j < 6 then (if 0 ≤ nI i ∧ (nI i).toNatClampNeg < (zst j).length then zeN (L, zi (zgi (zst j) (nI i).toNatClampNeg) :: S, I, G) else zeF) else zeF) := rfl
  have hcl : (nI i).toNatClampNeg = i := nI_clamp (by omega)
  rw [if_pos hs, hcl, hl, List.length_map, if_pos ⟨nI_pos' (by omega), hi⟩, zgi_map l i hi] at e
  exact z_st e kk
theorem fSp_at {c : Nat → Nat} {l : List Nat} {i p : Nat} (h : i < l.length) : fSp c (l.drop i) p = if c p = l[i] then fSp c (l.drop (i + 1)) (p + 1) else (p, false) := by
  rw [List.drop_eq_getElem_cons h, fSp]
theorem fIx_at {l : List Nat} {i y : Nat} (h : i < l.length) : fIx (l.drop i) y = if l[i] = y then some 0 else (fIx (l.drop (i + 1)) y).map (· + 1) := by
  rw [List.drop_eq_getElem_cons h, fIx]
section
variable {d : Nat} {I J : zMI} {rl : Option (Nat × Nat)} {Q : zPQ} {c : Nat → Nat} {N p : Nat} {A : List Nat}
set_option maxHeartbeats 4000000 in
set_option maxRecDepth 100000 in
theorem s_next (hI : zTc2 I c N) (hJ : zPc I J p A) (hp : p ≤ N) (h : Q (some (zi (zN (c p)))) J (zRR rl (some (29, 0)))) : zWm d 37 [zr 5 0] J (zRR rl (some (29, 0))) Q := by
  obtain ⟨i1, i2, i3, i4⟩ := hI
  have j2 : J 5 0 2 = nI N := (hJ.1 _ _ _ (by omega) (by omega) (by omega)).trans i1
  have j3 := hJ.2.1
  refine z_auto rfl ?_
  rw [j3]
  refine z_auto rfl ?_
  refine z_br rfl (fun c1 => ?_) (fun c1 => ?_)
  · exact absurd c1 (nI_pos (by omega))
  · refine z_auto rfl ?_
    rw [j3, j2]
    refine z_auto rfl ?_
    refine z_br rfl (fun c2 => ?_) (fun c2 => ?_)
    · have hn : ¬ p < N := fun q => absurd c2 (Int32.not_le.mpr (nI_lt q (by omega)))
      rw [zN, if_neg (fun q => hn ((i3 p).mp q))] at h
      refine z_auto rfl ?_
      refine z_jp rfl ?_
      refine z_auto rfl ?_
      exact z_rt rfl h
    · have hn : p < N := by
        apply Classical.byContradiction
        intro q
        exact c2 (nI_le (by omega) (by omega))
      refine z_auto rfl ?_
      rw [j3]
      refine z_auto rfl ?_
      refine z_br rfl (fun c3 => ?_) (fun c3 => ?_)
      · exact absurd c3 (Int32.not_le.mpr (nI_lt (a := p) (b := 100) (by omega) (by decide)))
      · refine z_auto rfl ?_
        rw [j3]
        refine z_auto rfl ?_
        refine z_ald (k := p) rfl rfl (by show p < 100; omega) ?_
        rw [zN_in ((i3 p).mpr hn)] at h
        rw [hJ.1 29 0 p (by omega) (by omega) (by omega), i4 p hn]
        refine z_auto rfl ?_
        refine z_jp rfl ?_
        refine z_auto rfl ?_
        exact z_rt rfl h
set_option maxHeartbeats 4000000 in
set_option maxRecDepth 100000 in
theorem s_pass (hI : zTc2 I c N) (hJ : zPc I J p A) (hp : p ≤ N) {x : Nat} (hx : x < 128) (h1 : c p = x → ∀ K, zPc I K (p + 1) A → Q (some (zi 1)) K (zRR rl (some (29, 0)))) (h0 : ¬ c p = x → Q (some (zi 0)) J (zRR rl (some (29, 0)))) : zWm (d + 1) 38 [zr 5 0, zi (nI x)] J (zRR rl (some (29, 0))) Q := by
  have i2 := hI.2.1
  refine z_auto rfl ?_
  refine z_cl rfl (s_next hI hJ hp ?_)
  refine z_auto rfl ?_
  refine z_br rfl (fun c1 => ?_) (fun c1 => ?_)
  · have e := (zN_eq hx).mp c1
    refine z_auto rfl ?_
    rw [hJ.2.1]
    refine z_auto rfl ?_
    rw [show nI p + 1 = nI (p + 1) from (nI_succ p).symm]
    refine z_auto rfl ?_
    exact z_rt rfl (h1 e _ (zPc_at hJ))
  · refine z_auto rfl ?_
    exact z_rt rfl (h0 (fun q => c1 ((zN_eq hx).mpr q)))
set_option maxHeartbeats 4000000 in
set_option maxRecDepth 100000 in
theorem s_passAll (hI : zTc2 I c N) (hJ : zPc I J p A) (hp : p ≤ N) {j : Nat} {l : List Nat} (hj : j < 6) (hl : zst j = l.map nI) (h128 : ∀ x ∈ l, x < 128) (hl100 : l.length ≤ 100) (h1 : ∀ q K, fSp c l p = (q, true) → q ≤ N → zPc I K q A → Q (some (zi 1)) K (zRR rl (some (29, 0)))) (h0 : ∀ q K, fSp c l p = (q, false) → q ≤ N → zPc I K q A → Q (some (zi 0)) K (zRR rl (some (29, 0)))) : zWm (d + 2) 39 [zr 5 0, zr 60 j] J (zRR rl (some (29, 0))) Q := by
  have loop : ∀ m i, i + m = l.length → ∀ J p, zPc I J p A → p ≤ N → fSp c l p = fSp c l p → (∀ q K, fSp c (l.drop i) p = (q, true) → q ≤ N → zPc I K q A → Q (some (zi 1)) K (zRR rl (some (29, 0)))) → (∀ q K, fSp c (l.drop i) p = (q, false) → q ≤ N → zPc I K q A → Q (some (zi 0)) K (zRR rl (some (29, 0)))) → zW (d + 2) kX5_passAll (zblk kX5_passAll 1) [some (zr 5 0), some (zr 60 j), some (zi (nI i))] [] J (zRR rl (some (29, 0))) Q := by
    intro m
    induction m with
    | zero =>
      intro i hi J p hJ hp _ h1 h0
      have : i = l.length := by omega
      subst this
      refine z_aut 2 _ _ _ _ _ _ _ _ _ _ rfl ?_
      refine z_ck rfl ⟨rfl, rfl, hj⟩ ?_
      refine z_auto rfl ?_
      rw [hl, List.length_map]
      refine z_auto rfl ?_
      refine z_br rfl (fun c1 => ?_) (fun c1 => ?_)
      · refine z_auto rfl ?_
        exact z_rt rfl (h1 p J (by rw [List.drop_length]; rfl) hp hJ)
      · exact absurd (Int32.le_refl _) c1
    | succ m ih =>
      intro i hi J p hJ hp _ h1 h0
      have hil : i < l.length := by omega
      refine z_aut 2 _ _ _ _ _ _ _ _ _ _ rfl ?_
      refine z_ck rfl ⟨rfl, rfl, hj⟩ ?_
      refine z_auto rfl ?_
      rw [hl, List.length_map]
      refine z_auto rfl ?_
      refine z_br rfl (fun c1 => ?_) (fun c1 => ?_)
      · exact absurd c1 (Int32.not_le.mpr (nI_lt (by omega) (by omega)))
      · refine z_auto rfl ?_
        refine z_chr hl ⟨rfl, rfl, hj⟩ hl100 hil ?_
        have hx := h128 _ (List.getElem_mem hil)
        refine z_auto rfl ?_
        refine z_cl rfl (s_pass hI hJ hp hx (fun e K hK => ?_) (fun e => ?_))
        · have hpN : p < N := (hI.2.2.1 p).mp (by omega)
          have h5 := ih (i + 1) (by omega) K (p + 1) hK hpN rfl (fun q K hq => h1 q K (by rw [fSp_at hil, if_pos e]; exact hq)) (fun q K hq => h0 q K (by rw [fSp_at hil, if_pos e]; exact hq))
          rw [nI_succ] at h5
          refine z_auto rfl ?_
          refine z_jp rfl ?_
          refine z_auto rfl ?_
          refine z_jp rfl ?_
          exact h5
        · refine z_auto rfl ?_
          refine z_st rfl ?_
          refine z_auto rfl ?_
          exact z_rt rfl (h0 p J (by rw [fSp_at hil, if_neg e]) hp hJ)
  refine z_auto rfl ?_
  refine z_jp rfl ?_
  exact loop l.length 0 (Nat.zero_add _) J p hJ hp rfl h1 h0
set_option maxHeartbeats 4000000 in
set_option maxRecDepth 100000 in
theorem s_readOneOf (hI : zTc2 I c N) (hJ : zPc I J p A) (hp : p ≤ N) {j : Nat} {l : List Nat} (hj : j < 6) (hl : zst j = l.map nI) (h128 : ∀ x ∈ l, x < 128) (hl100 : l.length ≤ 100) (h1 : ∀ i K, fIx l (c p) = some i → zPc I K (p + 1) A → Q (some (zi (nI i))) K (zRR rl (some (29, 0)))) (h0 : fIx l (c p) = none → Q (some (zi (-1))) J (zRR rl (some (29, 0)))) : zWm (d + 1) 46 [zr 5 0, zr 60 j] J (zRR rl (some (29, 0))) Q := by
  refine z_auto rfl ?_
  refine z_cl rfl (s_next hI hJ hp ?_)
  have loop : ∀ m i, i + m = l.length → (∀ r, fIx (l.drop i) (c p) = r → fIx l (c p) = r.map (· + i)) → zW (d + 1) kX5_readOneOf (zblk kX5_readOneOf 1) [some (zr 5 0), some (zr 60 j), some (zi (zN (c p))), some (zi (nI i))] [] J (zRR rl (some (29, 0))) Q := by
    intro m
    induction m with
    | zero =>
      intro i hi he
      have : i = l.length := by omega
      subst this
      refine z_aut 2 _ _ _ _ _ _ _ _ _ _ rfl ?_
      refine z_ck rfl ⟨rfl, rfl, hj⟩ ?_
      refine z_auto rfl ?_
      rw [hl, List.length_map]
      refine z_auto rfl ?_
      refine z_br rfl (fun c1 => ?_) (fun c1 => ?_)
      · refine z_auto rfl ?_
        exact z_rt rfl (h0 (he none (by rw [List.drop_length]; rfl)))
      · exact absurd (Int32.le_refl _) c1
    | succ m ih =>
      intro i hi he
      have hil : i < l.length := by omega
      have hx := h128 _ (List.getElem_mem hil)
      refine z_aut 2 _ _ _ _ _ _ _ _ _ _ rfl ?_
      refine z_ck rfl ⟨rfl, rfl, hj⟩ ?_
      refine z_auto rfl ?_
      rw [hl, List.length_map]
      refine z_auto rfl ?_
      refine z_br rfl (fun c1 => ?_) (fun c1 => ?_)
      · exact absurd c1 (Int32.not_le.mpr (nI_lt (by omega) (by omega)))
      · refine z_auto rfl ?_
        refine z_chr hl ⟨rfl, rfl, hj⟩ hl100 hil ?_
        refine z_auto rfl ?_
        refine z_br rfl (fun c2 => ?_) (fun c2 => ?_)
        · have hne : ¬ l[i] = c p := fun q => c2 ((zN_eq hx).mpr q.symm).symm
          have h5 := ih (i + 1) (by omega) (fun r hr => by
            rw [he (r.map (· + 1)) (by rw [fIx_at hil, if_neg hne, hr]), Option.map_map]
            congr 1
            funext x
            show x + 1 + i = x + (i + 1)
            omega)
          rw [nI_succ] at h5
          refine z_auto rfl ?_
          refine z_jp rfl ?_
          exact h5
        · have hq : c p = l[i] := (zN_eq hx).mp (Classical.not_not.mp c2).symm
          refine z_auto rfl ?_
          rw [hJ.2.1]
          refine z_auto rfl ?_
          rw [show nI p + 1 = nI (p + 1) from (nI_succ p).symm]
          refine z_auto rfl ?_
          exact z_rt rfl (h1 i _ (by rw [he (some 0) (by rw [fIx_at hil, if_pos hq.symm])]; show some (0 + i) = some i; rw [Nat.zero_add]) (zPc_at hJ))
  refine z_auto rfl ?_
  refine z_jp rfl ?_
  exact loop l.length 0 (Nat.zero_add _) (fun r hr => by rw [List.drop_zero] at hr; rw [hr]; cases r <;> rfl)
theorem zN_d2 {x : Nat} (h : 48 ≤ x ∧ x ≤ 57) : zN x - 48 = nI (x - 48) := by
  rw [zN_in (by omega), show nI x - 48 = nI (x - 48) from nI_sub (b := 48) h.1]
theorem zN_nd1 : ∀ x, x < 128 → ¬ (48 ≤ x ∧ x ≤ 57) → (nI x - 48 < 0 ∨ ¬ nI x - 48 ≤ 9) := by decide +kernel
theorem zN_nd {x : Nat} (h : ¬ (48 ≤ x ∧ x ≤ 57)) : zN x - 48 < 0 ∨ ¬ zN x - 48 ≤ 9 := by
  by_cases c : x < 128
  · rw [zN_in c]
    exact zN_nd1 x c h
  · rw [zN, if_neg c]
    exact Or.inl (by decide)
set_option maxHeartbeats 4000000 in
set_option maxRecDepth 100000 in
theorem s_readNumber (hI : zTc2 I c N) (hJ : zPc I J p A) (hp : p ≤ N) (h1 : ∀ q n K, fNum c p = (q, some n) → zPc I K q A → Q (some (zi (nI n))) K (zRR rl (some (29, 0)))) (h0 : fNum c p = (p, none) → Q (some (zi (-1))) J (zRR rl (some (29, 0)))) : zWm (d + 2) 42 [zr 5 0] J (zRR rl (some (29, 0))) Q := by
  by_cases hd : 48 ≤ c p ∧ c p ≤ 57
  · have hpN : p < N := (hI.2.2.1 p).mp (by omega)
    refine z_auto rfl ?_
    refine z_cl rfl (s_next hI hJ hp ?_)
    refine z_auto rfl ?_
    rw [zN_d2 hd]
    refine z_auto rfl ?_
    refine z_br rfl (fun c1 => ?_) (fun c1 => ?_)
    · exact absurd c1 (nI_pos (by omega))
    · refine z_auto rfl ?_
      refine z_br rfl (fun c2 => ?_) (fun c2 => ?_)
      · refine z_auto rfl ?_
        rw [hJ.2.1]
        refine z_auto rfl ?_
        rw [show nI p + 1 = nI (p + 1) from (nI_succ p).symm]
        obtain ⟨K, eK⟩ : ∃ K, K = zup J 5 0 3 (nI (p + 1)) := ⟨_, rfl⟩
        rw [← eK]
        have hK : zPc I K (p + 1) A := by rw [eK]; exact zPc_at hJ
        clear eK
        refine z_auto rfl ?_
        refine z_cl rfl (s_next hI hK hpN ?_)
        refine z_auto rfl ?_
        refine z_br rfl (fun c3 => ?_) (fun c3 => ?_)
        · have he : c p = 48 := by
            have := (nI_eq (a := c p - 48) (b := 0) (by omega) (by omega)).mp c3
            omega
          refine z_auto rfl ?_
          exact z_rt rfl (h1 (p + 1) _ K (by rw [fNum, if_pos hd, if_pos he, he]) hK)
        · have hne : ¬ c p = 48 := fun q => c3 (by rw [q]; rfl)
          by_cases hd2 : 48 ≤ c (p + 1) ∧ c (p + 1) ≤ 57
          · refine z_auto rfl ?_
            rw [zN_d2 hd2]
            refine z_auto rfl ?_
            refine z_br rfl (fun c4 => ?_) (fun c4 => ?_)
            · exact absurd c4 (nI_pos (by omega))
            · refine z_auto rfl ?_
              refine z_br rfl (fun c5 => ?_) (fun c5 => ?_)
              · refine z_auto rfl ?_
                rw [hK.2.1]
                refine z_auto rfl ?_
                rw [show nI (p + 1) + 1 = nI (p + 2) from (nI_succ (p + 1)).symm, show nI (c p - 48) * 10 = nI ((c p - 48) * 10) from pk_mul _ 10, nI_add, Nat.mul_comm (c p - 48) 10]
                refine z_auto rfl ?_
                exact z_rt rfl (h1 (p + 2) _ _ (by rw [fNum, if_pos hd, if_neg hne, if_pos hd2]) (zPc_at hK))
              · exact absurd (nI_le (a := c (p + 1) - 48) (b := 9) (by omega) (by decide)) c5
          · have hz := zN_nd hd2
            refine z_auto rfl ?_
            refine z_br rfl (fun c4 => ?_) (fun c4 => ?_)
            · refine z_auto rfl ?_
              exact z_rt rfl (h1 (p + 1) _ K (by rw [fNum, if_pos hd, if_neg hne, if_neg hd2]) hK)
            · refine z_auto rfl ?_
              refine z_br rfl (fun c5 => ?_) (fun c5 => ?_)
              · rcases hz with q | q
                · exact absurd q c4
                · exact absurd c5 q
              · refine z_auto rfl ?_
                refine z_jp rfl ?_
                refine z_auto rfl ?_
                exact z_rt rfl (h1 (p + 1) _ K (by rw [fNum, if_pos hd, if_neg hne, if_neg hd2]) hK)
      · exact absurd (nI_le (a := c p - 48) (b := 9) (by omega) (by decide)) c2
  · have hz := zN_nd hd
    refine z_auto rfl ?_
    refine z_cl rfl (s_next hI hJ hp ?_)
    refine z_auto rfl ?_
    refine z_br rfl (fun c1 => ?_) (fun c1 => ?_)
    · refine z_auto rfl ?_
      exact z_rt rfl (h0 (by rw [fNum, if_neg hd]))
    · refine z_auto rfl ?_
      refine z_br rfl (fun c2 => ?_) (fun c2 => ?_)
      · rcases hz with q | q
        · exact absurd q c1
        · exact absurd c2 q
      · refine z_auto rfl ?_
        refine z_jp rfl ?_
        refine z_auto rfl ?_
        exact z_rt rfl (h0 (by rw [fNum, if_neg hd]))
end
