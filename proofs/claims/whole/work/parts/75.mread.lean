/-! THE MODEL READS: the small methods -/
def zTm2 (I : zMI) (c : Nat → Nat) (N a : Nat) : Prop := I 10 0 6 = nI N ∧ N ≤ 100 ∧ (∀ p, c p < 128 ↔ p < N) ∧ (∀ p, p < N → I 40 0 (122 + p) = nI (c p)) ∧ I 10 0 4 = nI a ∧ a < 5
def zFq (a : Nat) (I J : zMI) : Prop := ∀ c i k, ¬ (c = 10 ∧ i = 0 ∧ (k = 5 ∨ k = 7 ∨ k = 8)) → ¬ (c = 40 ∧ i = 0 ∧ (k = 232 + a ∨ (237 + 140 * a ≤ k ∧ k < 377 + 140 * a))) → J c i k = I c i k
def zPq (a : Nat) (I J : zMI) (p o : Nat) (B : List Int32) : Prop := zFq a I J ∧ J 10 0 5 = nI p ∧ J 10 0 7 = 0 ∧ J 10 0 8 = nI o ∧ J 40 0 (232 + a) = nI B.length ∧ ∀ k x, B[k]? = some x → J 40 0 (237 + 140 * a + k) = x
def zPw (a : Nat) (I J : zMI) (p : Nat) : Prop := zFq a I J ∧ J 10 0 5 = nI p ∧ J 10 0 7 = 1
theorem l_snoc2 {L : List Int32} {b x : Int32} {i : Nat} (h : (L ++ [b])[i]? = some x) : (i = L.length ∧ x = b) ∨ (i < L.length ∧ L[i]? = some x) := by
  rcases Nat.lt_trichotomy i L.length with q | q | q
  · rw [List.getElem?_append_left q] at h
    exact Or.inr ⟨q, h⟩
  · subst q
    rw [List.getElem?_append_right (Nat.le_refl _), Nat.sub_self] at h
    exact Or.inl ⟨rfl, (Option.some.inj h).symm⟩
  · rw [List.getElem?_append_right (by omega)] at h
    have := (List.getElem?_eq_some_iff.mp h).1
    rw [List.length_singleton] at this
    omega
section
variable {a p q o o' : Nat} {I J : zMI} {B : List Int32} {v : Int32}
theorem zFq_up {k : Nat} (hk : k = 5 ∨ k = 7 ∨ k = 8) (h : zFq a I J) : zFq a I (zup J 10 0 k v) := fun c i x a1 a2 => by
  rw [zup_ne (by omega)]
  exact h c i x a1 a2
theorem zPq_sp (h : zPq a I J p o B) : zPq a I (zup J 10 0 5 (nI q)) q o B := by
  obtain ⟨h1, h2, h3, h4, h5, h6⟩ := h
  exact ⟨zFq_up (Or.inl rfl) h1, zup_eq, by rw [zup_k (by decide)]; exact h3, by rw [zup_k (by decide)]; exact h4, by rw [zup_c (by decide)]; exact h5, fun k x hk => by rw [zup_c (by decide)]; exact h6 k x hk⟩
theorem zPq_0 (h : zPq a I J p o B) : zPq a I (zup J 10 0 7 0) p o B := by
  obtain ⟨h1, h2, h3, h4, h5, h6⟩ := h
  exact ⟨zFq_up (Or.inr (Or.inl rfl)) h1, by rw [zup_k (by decide)]; exact h2, zup_eq, by rw [zup_k (by decide)]; exact h4, by rw [zup_c (by decide)]; exact h5, fun k x hk => by rw [zup_c (by decide)]; exact h6 k x hk⟩
theorem zPq_op (h : zPq a I J p o B) : zPq a I (zup J 10 0 8 (nI o')) p o' B := by
  obtain ⟨h1, h2, h3, h4, h5, h6⟩ := h
  exact ⟨zFq_up (Or.inr (Or.inr rfl)) h1, by rw [zup_k (by decide)]; exact h2, by rw [zup_k (by decide)]; exact h3, zup_eq, by rw [zup_c (by decide)]; exact h5, fun k x hk => by rw [zup_c (by decide)]; exact h6 k x hk⟩
theorem zPq_w (h : zPq a I J p o B) : zPw a I (zup J 10 0 7 1) p := ⟨zFq_up (Or.inr (Or.inl rfl)) h.1, by rw [zup_k (by decide)]; exact h.2.1, zup_eq⟩
theorem zPw_sp (h : zPw a I J p) : zPw a I (zup J 10 0 5 (nI p)) p := ⟨zFq_up (Or.inl rfl) h.1, zup_eq, by rw [zup_k (by decide)]; exact h.2.2⟩
theorem zPw_7 (h : zPw a I J p) : zPw a I (zup J 10 0 7 1) p := ⟨zFq_up (Or.inr (Or.inl rfl)) h.1, by rw [zup_k (by decide)]; exact h.2.1, zup_eq⟩
theorem zPw_op (h : zPw a I J p) : zPw a I (zup J 10 0 8 v) p := ⟨zFq_up (Or.inr (Or.inr rfl)) h.1, by rw [zup_k (by decide)]; exact h.2.1, by rw [zup_k (by decide)]; exact h.2.2⟩
end
section
variable {d : Nat} {I J : zMI} {rl rs : Option (Nat × Nat)} {Q : zPQ} {c : Nat → Nat} {N p a o : Nat} {B : List Int32}
set_option maxHeartbeats 4000000 in
set_option maxRecDepth 100000 in
theorem m_here (hI : zTm2 I c N a) (hf : zFq a I J) (h5 : J 10 0 5 = nI p) (hp : p ≤ N) (h : Q (some (zi (zN (c p)))) J (zRR rl rs)) : zWm d 114 [zr 10 0] J (zRR rl rs) Q := by
  obtain ⟨i1, i2, i3, i4, i5, i6⟩ := hI
  have j6 : J 10 0 6 = nI N := (hf _ _ _ (by omega) (by omega)).trans i1
  refine z_auto rfl ?_
  rw [h5, j6]
  refine z_auto rfl ?_
  refine z_br rfl (fun c1 => ?_) (fun c1 => ?_)
  · have hn : ¬ p < N := fun q => absurd c1 (Int32.not_le.mpr (nI_lt q (by omega)))
    rw [zN, if_neg (fun q => hn ((i3 p).mp q))] at h
    refine z_auto rfl ?_
    refine z_jp rfl ?_
    refine z_auto rfl ?_
    exact z_rt rfl h
  · have hn : p < N := by
      apply Classical.byContradiction
      intro q
      exact c1 (nI_le (by omega) (by omega))
    refine z_auto rfl ?_
    rw [h5]
    refine z_auto rfl ?_
    refine z_ald (k := (122 + p)) rfl (nI_add 122 p) (by show 122 + p < 937; omega) ?_
    rw [zN_in ((i3 p).mpr hn)] at h
    rw [hf 40 0 (122 + p) (by omega) (by omega), i4 p hn]
    refine z_auto rfl ?_
    refine z_jp rfl ?_
    refine z_auto rfl ?_
    exact z_rt rfl h
set_option maxHeartbeats 4000000 in
set_option maxRecDepth 100000 in
theorem m_must (hI : zTm2 I c N a) (hJ : zPq a I J p o B) (hp : p ≤ N) {x : Nat} (hx : x < 128) (h1 : c p = x → ∀ K, zPq a I K (p + 1) o B → Q none K (zRR rl rs)) (h0 : ¬ c p = x → ∀ K, zPw a I K p → Q none K (zRR rl rs)) : zWm (d + 1) 115 [zr 10 0, zi (nI x)] J (zRR rl rs) Q := by
  refine z_auto rfl ?_
  rw [hJ.2.2.1]
  refine z_auto rfl ?_
  refine z_st rfl ?_
  refine z_auto rfl ?_
  refine z_cl rfl (m_here hI hJ.1 hJ.2.1 hp ?_)
  refine z_auto rfl ?_
  refine z_br rfl (fun c1 => ?_) (fun c1 => ?_)
  · have e := (zN_eq hx).mp c1
    refine z_auto rfl ?_
    refine z_jp rfl ?_
    refine z_auto rfl ?_
    refine z_ck rfl (show (0 : Int32) = 0 ∨ (0 : Int32) = 1 from Or.inl rfl) ?_
    refine z_auto rfl ?_
    rw [zup_eq, zup_k (by decide), hJ.2.1]
    refine z_auto rfl ?_
    refine z_jp rfl ?_
    refine z_auto rfl ?_
    refine z_jp rfl ?_
    refine z_auto rfl ?_
    rw [show nI p + 1 = nI (p + 1) from (nI_succ p).symm]
    refine z_auto rfl ?_
    exact z_rt rfl (h1 e _ (zPq_sp (zPq_0 hJ)))
  · have e : ¬ c p = x := fun q => c1 ((zN_eq hx).mpr q)
    refine z_auto rfl ?_
    refine z_jp rfl ?_
    refine z_auto rfl ?_
    refine z_jp rfl ?_
    refine z_auto rfl ?_
    refine z_ck rfl (show (1 : Int32) = 0 ∨ (1 : Int32) = 1 from Or.inr rfl) ?_
    refine z_auto rfl ?_
    rw [zup_eq, zup_k (by decide), hJ.2.1]
    refine z_auto rfl ?_
    refine z_st rfl ?_
    refine z_auto rfl ?_
    refine z_jp rfl ?_
    refine z_auto rfl ?_
    rw [show nI p + 0 = nI p from Int32.add_zero _]
    refine z_auto rfl ?_
    exact z_rt rfl (h0 e _ (zPw_sp (zPq_w hJ)))
set_option maxHeartbeats 4000000 in
set_option maxRecDepth 100000 in
theorem m_must_w (hJ : zPw a I J p) {x : Int32} (h0 : ∀ K, zPw a I K p → Q none K (zRR rl rs)) : zWm d 115 [zr 10 0, zi x] J (zRR rl rs) Q := by
  refine z_auto rfl ?_
  rw [hJ.2.2]
  refine z_auto rfl ?_
  refine z_jp rfl ?_
  refine z_auto rfl ?_
  refine z_jp rfl ?_
  refine z_auto rfl ?_
  refine z_ck rfl (show (1 : Int32) = 0 ∨ (1 : Int32) = 1 from Or.inr rfl) ?_
  refine z_auto rfl ?_
  rw [zup_eq, zup_k (by decide), hJ.2.1]
  refine z_auto rfl ?_
  refine z_st rfl ?_
  refine z_auto rfl ?_
  refine z_jp rfl ?_
  refine z_auto rfl ?_
  rw [show nI p + 0 = nI p from Int32.add_zero _]
  refine z_auto rfl ?_
  exact z_rt rfl (h0 _ (zPw_sp (zPw_7 hJ)))
set_option maxHeartbeats 4000000 in
set_option maxRecDepth 100000 in
theorem m_spells (hI : zTm2 I c N a) (hJ : zPq a I J p o B) (hp : p ≤ N) {j : Nat} {l : List Nat} (hj : j < 6) (hl : zst j = l.map nI) (h128 : ∀ x ∈ l, x < 128) (hl100 : l.length ≤ 100) (h1 : ∀ q K, fSp c l p = (q, true) → q ≤ N → zPq a I K q o B → Q none K (zRR rl rs)) (h0 : ∀ q K, fSp c l p = (q, false) → q ≤ N → zPw a I K q → Q none K (zRR rl rs)) : zWm (d + 2) 116 [zr 10 0, zr 60 j] J (zRR rl rs) Q := by
  have wrong : ∀ m i, i + m = l.length → ∀ J p, zPw a I J p → (∀ K, zPw a I K p → Q none K (zRR rl rs)) → zW (d + 2) kX10_spells (zblk kX10_spells 1) [some (zr 10 0), some (zr 60 j), some (zi (nI i))] [] J (zRR rl rs) Q := by
    intro m
    induction m with
    | zero =>
      intro i hi J p hJ h0
      have : i = l.length := by omega
      subst this
      refine z_aut 2 _ _ _ _ _ _ _ _ _ _ rfl ?_
      refine z_ck rfl ⟨rfl, rfl, hj⟩ ?_
      refine z_auto rfl ?_
      rw [hl, List.length_map]
      refine z_auto rfl ?_
      refine z_br rfl (fun c1 => ?_) (fun c1 => ?_)
      · refine z_auto rfl ?_
        exact z_rt rfl (h0 J hJ)
      · exact absurd (Int32.le_refl _) c1
    | succ m ih =>
      intro i hi J p hJ h0
      have hil : i < l.length := by omega
      refine z_aut 2 _ _ _ _ _ _ _ _ _ _ rfl ?_
      refine z_ck rfl ⟨rfl, rfl, hj⟩ ?_
      refine z_auto rfl ?_
      rw [hl, List.length_map]
      refine z_auto rfl ?_
      refine z_br rfl (fun c1 => ?_) (fun c1 => ?_)
      · exact absurd c1 (Int32.not_le.mpr (nI_lt (by omega) (by omega)))
      · refine z_auto rfl ?_
        refine z_chr hl ⟨rfl, rfl, hj⟩ hl100 hil ?_
        refine z_auto rfl ?_
        refine z_cl rfl (m_must_w hJ (fun K hK => ?_))
        have h5 := ih (i + 1) (by omega) K p hK h0
        rw [nI_succ] at h5
        refine z_auto rfl ?_
        refine z_jp rfl ?_
        exact h5
  have loop : ∀ m i, i + m = l.length → ∀ J p, zPq a I J p o B → p ≤ N → (∀ q K, fSp c (l.drop i) p = (q, true) → q ≤ N → zPq a I K q o B → Q none K (zRR rl rs)) → (∀ q K, fSp c (l.drop i) p = (q, false) → q ≤ N → zPw a I K q → Q none K (zRR rl rs)) → zW (d + 2) kX10_spells (zblk kX10_spells 1) [some (zr 10 0), some (zr 60 j), some (zi (nI i))] [] J (zRR rl rs) Q := by
    intro m
    induction m with
    | zero =>
      intro i hi J p hJ hp h1 h0
      have : i = l.length := by omega
      subst this
      refine z_aut 2 _ _ _ _ _ _ _ _ _ _ rfl ?_
      refine z_ck rfl ⟨rfl, rfl, hj⟩ ?_
      refine z_auto rfl ?_
      rw [hl, List.length_map]
      refine z_auto rfl ?_
      refine z_br rfl (fun c1 => ?_) (fun c1 => ?_)
      · refine z_auto rfl ?_
        exact z_rt rfl (h1 p J (by rw [List.drop_length]; rfl) hp hJ)
      · exact absurd (Int32.le_refl _) c1
    | succ m ih =>
      intro i hi J p hJ hp h1 h0
      have hil : i < l.length := by omega
      refine z_aut 2 _ _ _ _ _ _ _ _ _ _ rfl ?_
      refine z_ck rfl ⟨rfl, rfl, hj⟩ ?_
      refine z_auto rfl ?_
      rw [hl, List.length_map]
      refine z_auto rfl ?_
      refine z_br rfl (fun c1 => ?_) (fun c1 => ?_)
      · exact absurd c1 (Int32.not_le.mpr (nI_lt (by omega) (by omega)))
      · refine z_auto rfl ?_
        refine z_chr hl ⟨rfl, rfl, hj⟩ hl100 hil ?_
        have hx := h128 _ (List.getElem_mem hil)
        refine z_auto rfl ?_
        refine z_cl rfl (m_must hI hJ hp hx (fun e K hK => ?_) (fun e K hK => ?_))
        · have hpN : p < N := (hI.2.2.1 p).mp (by omega)
          have h5 := ih (i + 1) (by omega) K (p + 1) hK hpN (fun q K hq => h1 q K (by rw [fSp_at hil, if_pos e]; exact hq)) (fun q K hq => h0 q K (by rw [fSp_at hil, if_pos e]; exact hq))
          rw [nI_succ] at h5
          refine z_auto rfl ?_
          refine z_jp rfl ?_
          exact h5
        · have h5 := wrong m (i + 1) (by omega) K p hK (fun K hK => h0 p K (by rw [fSp_at hil, if_neg e]) hp hK)
          rw [nI_succ] at h5
          refine z_auto rfl ?_
          refine z_jp rfl ?_
          exact h5
  refine z_auto rfl ?_
  refine z_jp rfl ?_
  exact loop l.length 0 (Nat.zero_add _) J p hJ hp h1 h0
set_option maxHeartbeats 4000000 in
set_option maxRecDepth 100000 in
theorem m_among (hI : zTm2 I c N a) (hJ : zPq a I J p o B) (hp : p ≤ N) {j : Nat} {l : List Nat} (hj : j < 6) (hl : zst j = l.map nI) (h128 : ∀ x ∈ l, x < 128) (hl100 : l.length ≤ 100) (h1 : ∀ i K, fIx l (c p) = some i → zPq a I K (p + 1) o B → Q (some (zi (nI i))) K (zRR rl rs)) (h0 : fIx l (c p) = none → Q (some (zi (-1))) J (zRR rl rs)) : zWm (d + 1) 118 [zr 10 0, zr 60 j] J (zRR rl rs) Q := by
  have loop : ∀ m i, i + m = l.length → (∀ r, fIx (l.drop i) (c p) = r → fIx l (c p) = r.map (· + i)) → zW (d + 1) kX10_among (zblk kX10_among 1) [some (zr 10 0), some (zr 60 j), some (zi (nI i))] [] J (zRR rl rs) Q := by
    intro m
    induction m with
    | zero =>
      intro i hi he
      have : i = l.length := by omega
      subst this
      refine z_aut 2 _ _ _ _ _ _ _ _ _ _ rfl ?_
      refine z_ck rfl ⟨rfl, rfl, hj⟩ ?_
      refine z_auto rfl ?_
      rw [hl, List.length_map]
      refine z_auto rfl ?_
      refine z_br rfl (fun c1 => ?_) (fun c1 => ?_)
      · refine z_auto rfl ?_
        exact z_rt rfl (h0 (he none (by rw [List.drop_length]; rfl)))
      · exact absurd (Int32.le_refl _) c1
    | succ m ih =>
      intro i hi he
      have hil : i < l.length := by omega
      have hx := h128 _ (List.getElem_mem hil)
      refine z_aut 2 _ _ _ _ _ _ _ _ _ _ rfl ?_
      refine z_ck rfl ⟨rfl, rfl, hj⟩ ?_
      refine z_auto rfl ?_
      rw [hl, List.length_map]
      refine z_auto rfl ?_
      refine z_br rfl (fun c1 => ?_) (fun c1 => ?_)
      · exact absurd c1 (Int32.not_le.mpr (nI_lt (by omega) (by omega)))
      · refine z_auto rfl ?_
        refine z_cl rfl (m_here hI hJ.1 hJ.2.1 hp ?_)
        refine z_auto rfl ?_
        refine z_chr hl ⟨rfl, rfl, hj⟩ hl100 hil ?_
        refine z_auto rfl ?_
        refine z_br rfl (fun c2 => ?_) (fun c2 => ?_)
        · have hne : ¬ l[i] = c p := fun q => c2 ((zN_eq hx).mpr q.symm)
          have h5 := ih (i + 1) (by omega) (fun r hr => by
            rw [he (r.map (· + 1)) (by rw [fIx_at hil, if_neg hne, hr]), Option.map_map]
            congr 1
            funext x
            show x + 1 + i = x + (i + 1)
            omega)
          rw [nI_succ] at h5
          refine z_auto rfl ?_
          refine z_jp rfl ?_
          exact h5
        · have hq : c p = l[i] := (zN_eq hx).mp (Classical.not_not.mp c2)
          refine z_auto rfl ?_
          rw [hJ.2.1]
          refine z_auto rfl ?_
          rw [show nI p + 1 = nI (p + 1) from (nI_succ p).symm]
          refine z_auto rfl ?_
          exact z_rt rfl (h1 i _ (by rw [he (some 0) (by rw [fIx_at hil, if_pos hq.symm])]; show some (0 + i) = some i; rw [Nat.zero_add]) (zPq_sp hJ))
  refine z_auto rfl ?_
  refine z_jp rfl ?_
  exact loop l.length 0 (Nat.zero_add _) (fun r hr => by rw [List.drop_zero] at hr; rw [hr]; cases r <;> rfl)
set_option maxHeartbeats 4000000 in
set_option maxRecDepth 100000 in
theorem m_emits (hI : zTm2 I c N a) (hJ : zPq a I J p o B) (hB : B.length < 140) {x : Int32} (h : ∀ K, zPq a I K p o (B ++ [x]) → Q none K (zRR rl rs)) : zWm d 119 [zr 10 0, zi x] J (zRR rl rs) Q := by
  obtain ⟨h1, h2, h3, h4, h5, h6⟩ := hJ
  obtain ⟨i1, i2, i3, i4, i5, i6⟩ := hI
  have j4 : J 10 0 4 = nI a := (h1 _ _ _ (by omega) (by omega)).trans i5
  have fin : zPq a I (zup (zup J 40 0 (237 + 140 * a + B.length) x) 40 0 (232 + a) (nI (B.length + 1))) p o (B ++ [x]) := by
    refine ⟨fun c i k a1 a2 => ?_, ?_, ?_, ?_, ?_, fun k y hk => ?_⟩
    · rw [zup_ne (by omega), zup_ne (by omega)]
      exact h1 c i k a1 a2
    · rw [zup_c (by decide), zup_c (by decide)]; exact h2
    · rw [zup_c (by decide), zup_c (by decide)]; exact h3
    · rw [zup_c (by decide), zup_c (by decide)]; exact h4
    · rw [zup_eq, List.length_append]
      rfl
    · rcases l_snoc2 hk with ⟨rfl, rfl⟩ | ⟨q1, q2⟩
      · rw [zup_k (by omega), zup_eq]
      · rw [zup_k (by omega), zup_k (by omega)]
        exact h6 k y q2
  have e1 : (232 : Int32) + nI a = nI (232 + a) := nI_add 232 a
  refine z_auto rfl ?_
  rw [h3]
  refine z_auto rfl ?_
  refine z_st rfl ?_
  refine z_auto rfl ?_
  rw [j4, m_fr a i6, e1]
  refine z_auto rfl ?_
  refine z_ald (k := (232 + a)) rfl rfl (by show 232 + a < 937; omega) ?_
  rw [h5]
  refine z_auto rfl ?_
  refine z_ast (k := (237 + 140 * a + B.length)) rfl (nI_add _ _) (by show 237 + 140 * a + B.length < 937; omega) ?_
  refine z_auto rfl ?_
  rw [zup_c (by decide), j4, e1]
  refine z_auto rfl ?_
  refine z_ald (k := (232 + a)) rfl rfl (by show 232 + a < 937; omega) ?_
  rw [zup_k (by omega), h5]
  refine z_auto rfl ?_
  rw [show nI B.length + 1 = nI (B.length + 1) from (nI_succ _).symm]
  refine z_auto rfl ?_
  refine z_ast (k := (232 + a)) rfl rfl (by show 232 + a < 937; omega) ?_
  refine z_auto rfl ?_
  refine z_jp rfl ?_
  refine z_auto rfl ?_
  exact z_rt rfl (h _ fin)
set_option maxHeartbeats 4000000 in
set_option maxRecDepth 100000 in
theorem m_emits_w (hJ : zPw a I J p) {x : Int32} (h : Q none J (zRR rl rs)) : zWm d 119 [zr 10 0, zi x] J (zRR rl rs) Q := by
  refine z_auto rfl ?_
  rw [hJ.2.2]
  refine z_auto rfl ?_
  refine z_jp rfl ?_
  refine z_auto rfl ?_
  exact z_rt rfl h
theorem n_dig {v x : Nat} (h : 48 ≤ x) : 10 * nI v + nI x - 48 = nI (10 * v + (x - 48)) := by
  rw [Int32.mul_comm 10 (nI v), show nI v * 10 = nI (v * 10) from pk_mul v 10, nI_add, show nI (v * 10 + x) - 48 = nI (v * 10 + x - 48) from nI_sub (b := 48) (by omega)]
  congr 1
  omega
set_option maxHeartbeats 4000000 in
set_option maxRecDepth 100000 in
theorem m_figures (hI : zTm2 I c N a) (hJ : zPq a I J p o B) (hp : p ≤ N) (h1 : ∀ q n K, fNum c p = (q, some n) → zPq a I K q o B → Q (some (zi (nI n))) K (zRR rl rs)) (h0 : fNum c p = (p, none) → ∀ x K, zPw a I K p → Q (some (zi x)) K (zRR rl rs)) : zWm (d + 1) 117 [zr 10 0] J (zRR rl rs) Q := by
  refine z_auto rfl ?_
  rw [hJ.2.2.1]
  refine z_auto rfl ?_
  refine z_st rfl ?_
  refine z_auto rfl ?_
  refine z_cl rfl (m_here hI hJ.1 hJ.2.1 hp ?_)
  refine z_auto rfl ?_
  refine z_cl rfl (m_in_c (fun q1 q2 => ?_) (fun q => ?_))
  · have hd := zN_dg.mp ⟨q1, q2⟩
    have hpN : p < N := (hI.2.2.1 p).mp (by omega)
    refine z_auto rfl ?_
    refine z_jp rfl ?_
    refine z_auto rfl ?_
    refine z_jp rfl ?_
    refine z_auto rfl ?_
    refine z_ck rfl (show (0 : Int32) = 0 ∨ (0 : Int32) = 1 from Or.inl rfl) ?_
    have hJ0 := zPq_0 hJ
    refine z_auto rfl ?_
    refine z_jp rfl ?_
    refine z_auto rfl ?_
    refine z_st rfl ?_
    refine z_auto rfl ?_
    rw [zup_eq]
    refine z_auto rfl ?_
    refine z_st rfl ?_
    refine z_auto rfl ?_
    refine z_cl rfl (m_here hI hJ0.1 hJ0.2.1 hp ?_)
    refine z_auto rfl ?_
    refine z_cl rfl (m_in_c (fun q1 q2 => ?_) (fun q => absurd hd (fun hd => by
      have := zN_dg.mpr hd
      rcases q with q | q
      · exact this.1 q
      · exact this.2 q)))
    refine z_auto rfl ?_
    refine z_st rfl ?_
    refine z_auto rfl ?_
    refine z_jp rfl ?_
    refine z_auto rfl ?_
    refine z_cl rfl (m_here hI hJ0.1 hJ0.2.1 hp ?_)
    refine z_auto rfl ?_
    rw [hJ0.2.1]
    refine z_auto rfl ?_
    rw [show nI p + 1 = nI (p + 1) from (nI_succ p).symm, zN_in (by omega : c p < 128), show (10 : Int32) * 0 + nI (c p) - 48 = nI (10 * 0 + (c p - 48)) from n_dig (v := 0) hd.1, show 10 * 0 + (c p - 48) = c p - 48 by omega]
    have hJ1 := zPq_sp (q := p + 1) hJ0
    refine z_auto rfl ?_
    refine z_jp rfl ?_
    refine z_auto rfl ?_
    refine z_st rfl ?_
    refine z_auto rfl ?_
    rw [hJ1.2.2.1]
    refine z_auto rfl ?_
    refine z_st rfl ?_
    refine z_auto rfl ?_
    refine z_cl rfl (m_here hI hJ1.1 hJ1.2.1 hpN ?_)
    refine z_auto rfl ?_
    refine z_cl rfl (m_in_c (fun q1 q2 => ?_) (fun q => ?_))
    · have hd2 := zN_dg.mp ⟨q1, q2⟩
      refine z_auto rfl ?_
      refine z_st rfl ?_
      refine z_auto rfl ?_
      refine z_st rfl ?_
      refine z_auto rfl ?_
      refine z_br rfl (fun c2 => ?_) (fun c2 => ?_)
      · have he : c p = 48 := by
          apply Classical.byContradiction
          intro q
          exact absurd c2 (Int32.not_le.mpr (nI_lt (a := 0) (b := c p - 48) (by omega) (by omega)))
        refine z_auto rfl ?_
        exact z_rt rfl (h1 (p + 1) _ _ (by rw [fNum, if_pos hd, if_pos he, he]) hJ1)
      · have hne : ¬ c p = 48 := fun q => c2 (by rw [q]; decide)
        refine z_auto rfl ?_
        refine z_jp rfl ?_
        refine z_auto rfl ?_
        refine z_cl rfl (m_here hI hJ1.1 hJ1.2.1 hpN ?_)
        refine z_auto rfl ?_
        rw [hJ1.2.1]
        refine z_auto rfl ?_
        rw [show nI (p + 1) + 1 = nI (p + 2) from (nI_succ (p + 1)).symm, zN_in (by omega : c (p + 1) < 128), n_dig hd2.1]
        refine z_auto rfl ?_
        refine z_jp rfl ?_
        refine z_auto rfl ?_
        refine z_jp rfl ?_
        refine z_auto rfl ?_
        exact z_rt rfl (h1 (p + 2) _ _ (by rw [fNum, if_pos hd, if_neg hne, if_pos hd2]) (zPq_sp hJ1))
    · have hd2 : ¬ (48 ≤ c (p + 1) ∧ c (p + 1) ≤ 57) := fun hd2 => by
        have := zN_dg.mpr hd2
        rcases q with q | q
        · exact this.1 q
        · exact this.2 q
      refine z_auto rfl ?_
      refine z_jp rfl ?_
      by_cases he : c p = 48
      · refine z_auto rfl ?_
        exact z_rt rfl (h1 (p + 1) _ _ (by rw [fNum, if_pos hd, if_pos he, he]) hJ1)
      · refine z_auto rfl ?_
        exact z_rt rfl (h1 (p + 1) _ _ (by rw [fNum, if_pos hd, if_neg he, if_neg hd2]) hJ1)
  · have hd : ¬ (48 ≤ c p ∧ c p ≤ 57) := fun hd => by
      have := zN_dg.mpr hd
      rcases q with q | q
      · exact this.1 q
      · exact this.2 q
    refine z_auto rfl ?_
    refine z_st rfl ?_
    refine z_auto rfl ?_
    refine z_jp rfl ?_
    refine z_auto rfl ?_
    refine z_jp rfl ?_
    refine z_auto rfl ?_
    refine z_ck rfl (show (1 : Int32) = 0 ∨ (1 : Int32) = 1 from Or.inr rfl) ?_
    refine z_auto rfl ?_
    refine z_jp rfl ?_
    refine z_auto rfl ?_
    refine z_st rfl ?_
    refine z_auto rfl ?_
    rw [zup_eq]
    refine z_auto rfl ?_
    refine z_jp rfl ?_
    refine z_auto rfl ?_
    exact z_rt rfl (h0 (by rw [fNum, if_neg hd]) _ _ (zPq_w hJ))
set_option maxHeartbeats 4000000 in
set_option maxRecDepth 100000 in
theorem m_figures_w (hJ : zPw a I J p) (h : ∀ K, zPw a I K p → Q (some (zi 0)) K (zRR rl rs)) : zWm d 117 [zr 10 0] J (zRR rl rs) Q := by
  refine z_auto rfl ?_
  rw [hJ.2.2]
  refine z_auto rfl ?_
  refine z_jp rfl ?_
  refine z_auto rfl ?_
  refine z_jp rfl ?_
  refine z_auto rfl ?_
  refine z_ck rfl (show (1 : Int32) = 0 ∨ (1 : Int32) = 1 from Or.inr rfl) ?_
  refine z_auto rfl ?_
  refine z_jp rfl ?_
  refine z_auto rfl ?_
  refine z_st rfl ?_
  refine z_auto rfl ?_
  rw [zup_eq]
  refine z_auto rfl ?_
  refine z_jp rfl ?_
  refine z_auto rfl ?_
  exact z_rt rfl (h _ (zPw_7 hJ))
end
