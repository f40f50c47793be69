/-! THE MODEL: schools looked at -/
def zms (t : Nat) : Int32 := if t < 1500 then nI (t / 300 + 8 * (t % 300 / 100) + 32 * (t % 100)) else -nI (t - 1499)
def zmf : List zCl → List Int32
  | [] => []
  | c :: C => (if c.1 = 2 then c.2.2.map zms ++ [-10 - nI c.2.1] else if c.1 = 3 then c.2.2.map zms ++ [-200 - nI c.2.1] else []) ++ zmf C
/-- the model's school a holds these clauses -/
def zMS (s : Nat → Int32) (a : Nat) (C : List zCl) : Prop := s (232 + a) = nI (zmf C).length ∧ (zmf C).length ≤ 140 ∧ (∀ k x, (zmf C)[k]? = some x → s (237 + 140 * a + k) = x) ∧ s (222 + a) = zlast C 0 20 ∧ s (227 + a) = zlast C 1 1 ∧ (∀ c ∈ C, zwf c)
/-- what the model's asking changes -/
def zFm (I J : zMI) : Prop := ∀ c i k, c ≠ 42 → c ≠ 43 → (c ≠ 10 ∨ (k ≠ 11 ∧ k ≠ 12)) → J c i k = I c i k
theorem zFm.rf {I : zMI} : zFm I I := fun _ _ _ _ _ _ => rfl
theorem zFm.tr {I J K : zMI} (h1 : zFm I J) (h2 : zFm J K) : zFm I K := fun c i k a b e => (h2 c i k a b e).trans (h1 c i k a b e)
theorem zFm_f {I J : zMI} (h : zFm I J) {c i : Nat} (h1 : c ≠ 42) (h2 : c ≠ 43) (h3 : c ≠ 10) : J c i = I c i := by
  funext k
  exact h c i k h1 h2 (Or.inl h3)
/-- the model's stack: the bottom first -/
def zrp (st : List Bool) (T : Nat → Int32) : Prop := ∀ i b, st[i]? = some b → T (st.length - 1 - i) = if b = true then 1 else 0
theorem zneg1 : ∀ n, n ≤ 99 → (-10 - nI n ≤ -10) ∧ ¬ (-10 - nI n ≤ -200) ∧ ¬ (-10 - nI n = -1) ∧ (-10 - nI n < 0) ∧ -10 - (-10 - nI n) = nI n := by decide +kernel
theorem zneg2 : ∀ n, n ≤ 99 → (-200 - nI n ≤ -10) ∧ (-200 - nI n ≤ -200) ∧ ¬ (-200 - nI n = -1) ∧ (-200 - nI n < 0) ∧ -200 - (-200 - nI n) = nI n := by decide +kernel
section
variable {d : Nat} {I : zMI} {rl rs : Option (Nat × Nat)} {Q : zPQ} {C : List zCl}
set_option maxHeartbeats 4000000 in
set_option maxRecDepth 100000 in
theorem m_tellsOf0 {w x : Int32} (h5 : I 40 0 5 = -1) (h : Q (some (zi x)) I (zRR rl rs)) : zWm d 127 [zr 10 0, zi w, zi x] I (zRR rl rs) Q := by
  refine z_auto rfl ?_
  refine z_ald (k := 5) rfl rfl (by decide) ?_
  rw [h5]
  refine z_auto rfl ?_
  refine z_st rfl ?_
  refine z_auto rfl ?_
  refine z_jp rfl ?_
  refine z_auto rfl ?_
  exact z_rt rfl h
set_option maxHeartbeats 4000000 in
set_option maxRecDepth 100000 in
theorem m_tellsOf1 {w a : Nat} {x : Int32} (h5 : I 40 0 5 = nI a) (ha : a < 5) (hw : w < 900) (h : Q (some (zi (I 40 0 (w + a)))) I (zRR rl rs)) : zWm d 127 [zr 10 0, zi (nI w), zi x] I (zRR rl rs) Q := by
  refine z_auto rfl ?_
  refine z_ald (k := 5) rfl rfl (by decide) ?_
  rw [h5]
  refine z_auto rfl ?_
  refine z_br rfl (fun c => ?_) (fun c => ?_)
  · refine z_auto rfl ?_
    refine z_ald (k := 5) rfl rfl (by decide) ?_
    rw [h5]
    refine z_auto rfl ?_
    refine z_ald (k := (w + a)) rfl (nI_add w a) (by show w + a < 937; omega) ?_
    refine z_auto rfl ?_
    refine z_jp rfl ?_
    refine z_auto rfl ?_
    exact z_rt rfl h
  · exact absurd (Classical.not_not.mp c) (by
      intro q
      have : ∀ a, a < 5 → ¬ nI a = -1 := by decide +kernel
      exact this a ha q)
theorem m_dec (n : Nat) : nI (n + 1) + -1 = nI n := by
  rw [nI_succ, Int32.add_assoc, show (1 : Int32) + -1 = 0 from by decide, Int32.add_zero]
theorem zrp_push {J : zMI} {st : List Bool} (h : zrp st (J 43 0)) (b : Bool) {x : Int32} (hx : x = if b = true then 1 else 0) : zrp (b :: st) ((zup J 43 0 st.length x) 43 0) := by
  intro i c hc
  have hi := zix hc
  simp only [List.length_cons] at hi ⊢
  cases i with
  | zero =>
    cases hc
    rw [show st.length + 1 - 1 - 0 = st.length by omega, zup_eq]
    exact hx
  | succ i =>
    rw [zup_k (by omega), show st.length + 1 - 1 - (i + 1) = st.length - 1 - i by omega]
    exact h i c hc
theorem zrp_top {J : zMI} {b : Bool} {st : List Bool} (h : zrp (b :: st) (J 43 0)) : J 43 0 st.length = if b = true then 1 else 0 := by
  have := h 0 b rfl
  simpa using this
theorem zrp_nxt {J : zMI} {b : Bool} {st : List Bool} (h : zrp (b :: st) (J 43 0)) : zrp st (J 43 0) := by
  intro i c hc
  have hi := zix hc
  have := h (i + 1) c hc
  simp only [List.length_cons] at this
  rw [show st.length + 1 - 1 - (i + 1) = st.length - 1 - i by omega] at this
  exact this
/-- what stands fast while steps are gone through -/
def zLk (I : zMI) (v : Nat → Int32) (B P : Nat) (J : zMI) : Prop := zFm I J ∧ (∀ k, k < 5 → J 42 0 k = v k) ∧ J 10 0 11 = nI B ∧ J 10 0 12 = nI P
theorem zLk_up {I : zMI} {v : Nat → Int32} {B P : Nat} {J : zMI} (h : zLk I v B P J) (k : Nat) (x : Int32) : zLk I v B P (zup J 43 0 k x) := by
  obtain ⟨h1, h2, h3, h4⟩ := h
  refine ⟨fun c i k' a b e => by rw [zup_c b]; exact h1 c i k' a b e, fun k' hk => by rw [zup_c (by decide)]; exact h2 k' hk, by rw [zup_c (by decide)]; exact h3, by rw [zup_c (by decide)]; exact h4⟩
set_option maxHeartbeats 4000000 in
set_option maxRecDepth 100000 in
theorem m_steps {v : Nat → Int32} {B P M fr : Nat} (hfr : fr + M ≤ 937) {y1 y2 y3 y4 : Int32} : ∀ (q : List Nat) (pos : Nat) (st : List Bool) (J : zMI) (u9 u10 u11 u12 : Option zAV), st.length ≤ 30 → zok st.length q = some 1 → zrp st (J 43 0) → (∀ k t, q[k]? = some t → I 40 0 (fr + pos + k) = zms t) → pos + q.length < M → zLk I v B P J →
    (∀ (J' : zMI) (b : Bool) (u9 u10 u11 u12 : Option zAV), zev v q st = [b] → J' 43 0 0 = (if b = true then 1 else 0) → zLk I v B P J' → zW d kX10_looks (zblk kX10_looks 1) [some (zr 10 0), some (zi y1), some (zi y2), some (zi y3), some (zi y4), some (zi (nI M)), some (zi (nI fr)), some (zi (nI 1)), some (zi (nI (fr + pos + q.length))), u9, u10, u11, u12] [] J' (zRR rl rs) Q) →
    zW d kX10_looks (zblk kX10_looks 1) [some (zr 10 0), some (zi y1), some (zi y2), some (zi y3), some (zi y4), some (zi (nI M)), some (zi (nI fr)), some (zi (nI st.length)), some (zi (nI (fr + pos))), u9, u10, u11, u12] [] J (zRR rl rs) Q := by
  intro q
  induction q with
  | nil =>
    intro pos st J u9 u10 u11 u12 hst hz hr hq hp hL kk
    have hz : st.length = 1 := Option.some.inj hz
    obtain ⟨b, rfl⟩ : ∃ b, st = [b] := by
      rcases st with _ | ⟨b, _ | ⟨a, r⟩⟩
      · cases hz
      · exact ⟨b, rfl⟩
      · simp at hz
    exact kk J b u9 u10 u11 u12 rfl (zrp_top hr) hL
  | cons t q ih =>
    intro pos st J u9 u10 u11 u12 hst hz hr hq hp hL kk
    simp only [List.length_cons] at hp
    have ht := hq 0 t rfl
    rw [Nat.add_zero] at ht
    have hs40 : J 40 0 = I 40 0 := zFm_f hL.1 (by decide) (by decide) (by decide)
    have hq2 : ∀ k u, q[k]? = some u → I 40 0 (fr + (pos + 1) + k) = zms u := by
      intro k u hku
      have := hq (k + 1) u hku
      rw [show fr + pos + (k + 1) = fr + (pos + 1) + k by omega] at this
      exact this
    obtain ⟨h', hz1, hz2⟩ : ∃ h', zok1 st.length t = some h' ∧ zok h' q = some 1 := by
      rw [zok] at hz
      cases hh : zok1 st.length t with
      | none => rw [hh] at hz; cases hz
      | some h' => rw [hh] at hz; exact ⟨h', rfl, hz⟩
    obtain ⟨hl, ht4⟩ := zok1_len (v := v) hz1
    have kk2 : ∀ (J' : zMI) (b : Bool) (u9 u10 u11 u12 : Option zAV), zev v q (zev1 v t st) = [b] → J' 43 0 0 = (if b = true then 1 else 0) → zLk I v B P J' → zW d kX10_looks (zblk kX10_looks 1) [some (zr 10 0), some (zi y1), some (zi y2), some (zi y3), some (zi y4), some (zi (nI M)), some (zi (nI fr)), some (zi (nI 1)), some (zi (nI (fr + (pos + 1) + q.length))), u9, u10, u11, u12] [] J' (zRR rl rs) Q := by
      intro J' b v9 v10 v11 v12 g1 g2 g3
      have := kk J' b v9 v10 v11 v12 g1 g2 g3
      rw [show fr + pos + (t :: q).length = fr + (pos + 1) + q.length by simp only [List.length_cons]; omega] at this
      exact this
    rw [← hl] at hz2
    refine z_auto rfl ?_
    refine z_br rfl (fun c => ?_) (fun c => ?_)
    · rw [nI_add] at c
      exact absurd c (nI_ge (by omega) (by omega))
    · refine z_auto rfl ?_
      refine z_ald (k := (fr + pos)) rfl rfl (by show fr + pos < 937; omega) ?_
      rw [hs40, ht]
      rcases ht4 with h4 | rfl | rfl | rfl
      · have e1 : zms t = nI (t / 300 + 8 * (t % 300 / 100) + 32 * (t % 100)) := by unfold zms; rw [if_pos h4]
        have hl30 : st.length < 30 := by
          unfold zok1 at hz1
          rw [if_pos h4] at hz1
          by_cases q : st.length < 30
          · exact q
          · rw [if_neg q] at hz1; cases hz1
        obtain ⟨m, hm⟩ : ∃ m, t / 300 + 8 * (t % 300 / 100) + 32 * (t % 100) = m := ⟨_, rfl⟩
        rw [hm] at e1
        have e2 : zev1 v t st = ztest v t :: st := by
          rcases st with _ | ⟨b, _ | ⟨a, r⟩⟩ <;> simp [zev1, h4]
        have ha5 : t / 300 < 5 := by omega
        have hb3 : t % 300 / 100 < 3 := by omega
        have hc1 : t % 100 < 100 := by omega
        have d1 : nI m - nI m / 8 * 8 = nI (t / 300) := by
          rw [show nI m - nI m / 8 * 8 = nI (m % 8) from pk_rem (a := m) (d := 8) (by omega) (by omega) (by omega)]
          congr 1
          rw [← hm]
          generalize t / 300 = a at ha5 ⊢
          generalize t % 300 / 100 = b at hb3 ⊢
          generalize t % 100 = c at hc1 ⊢
          omega
        have d2 : nI m / 8 = nI (m / 8) := pk_div (a := m) (d := 8) (by omega) (by omega) (by omega)
        have d3 : nI (m / 8) - nI (m / 8) / 4 * 4 = nI (t % 300 / 100) := by
          rw [show nI (m / 8) - nI (m / 8) / 4 * 4 = nI (m / 8 % 4) from pk_rem (a := m / 8) (d := 4) (by omega) (by omega) (by omega)]
          congr 1
          rw [← hm]
          generalize t / 300 = a at ha5 ⊢
          generalize t % 300 / 100 = b at hb3 ⊢
          generalize t % 100 = c at hc1 ⊢
          omega
        have d4 : nI m / 32 = nI (t % 100) := by
          rw [show nI m / 32 = nI (m / 32) from pk_div (a := m) (d := 32) (by omega) (by omega) (by omega)]
          congr 1
          rw [← hm]
          generalize t / 300 = a at ha5 ⊢
          generalize t % 300 / 100 = b at hb3 ⊢
          generalize t % 100 = c at hc1 ⊢
          omega
        have key : ∀ (x : Int32) (b : Bool), ztest v t = b → (x = if b = true then 1 else 0) → ∀ (u9 u10 u11 u12 : Option zAV), zW d kX10_looks (zblk kX10_looks 7) [some (zr 10 0), some (zi y1), some (zi y2), some (zi y3), some (zi y4), some (zi (nI M)), some (zi (nI fr)), some (zi (nI st.length)), some (zi (nI (fr + pos))), u9, u10, u11, u12] [zi x, zi (nI st.length), zr 43 0] J (zRR rl rs) Q := by
          intro x b hb hx u9 u10 u11 u12
          refine z_auto rfl ?_
          refine z_bst (k := st.length) rfl rfl (by show st.length < 64; omega) (by rw [hx]; cases b <;> simp) ?_
          have h5 := ih (pos + 1) (zev1 v t st) (zup J 43 0 st.length x) u9 u10 u11 u12 (by rw [e2]; simp only [List.length_cons]; omega) hz2 (by rw [e2, hb]; exact zrp_push hr b hx) hq2 (by omega) (zLk_up hL _ _) kk2
          rw [show fr + (pos + 1) = fr + pos + 1 by omega, nI_succ (fr + pos), e2, List.length_cons, nI_succ st.length] at h5
          refine z_auto rfl ?_
          refine z_jp rfl ?_
          refine z_auto rfl ?_
          refine z_jp rfl ?_
          exact h5
        rw [e1]
        refine z_auto rfl ?_
        refine z_br rfl (fun c4 => ?_) (fun c4 => ?_)
        · exact absurd c4 (nI_pos (by omega))
        · refine z_auto rfl ?_
          first | refine z_st rfl ?_ | refine z_ck rfl (by decide) ?_
          rw [d1]
          refine z_auto rfl ?_
          refine z_ald (k := (t / 300)) rfl rfl (by show t / 300 < 5; omega) ?_
          rw [hL.2.1 _ (by omega)]
          refine z_auto rfl ?_
          first | refine z_st rfl ?_ | refine z_ck rfl (by decide) ?_
          rw [d2]
          refine z_auto rfl ?_
          first | refine z_st rfl ?_ | refine z_ck rfl (by decide) ?_
          rw [d3]
          refine z_auto rfl ?_
          first | refine z_st rfl ?_ | refine z_ck rfl (by decide) ?_
          rw [d4]
          refine z_auto rfl ?_
          refine z_br rfl (fun c5 => ?_) (fun c5 => ?_)
          · have q0 : ¬ t % 300 / 100 = 0 := fun q => c5 (by rw [q]; rfl)
            refine z_auto rfl ?_
            refine z_br rfl (fun c6 => ?_) (fun c6 => ?_)
            · have q1 : ¬ t % 300 / 100 = 1 := fun q => c6 (by rw [q]; rfl)
              refine z_auto rfl ?_
              refine z_br rfl (fun c7 => ?_) (fun c7 => ?_)
              · refine z_auto rfl ?_
                refine z_jp rfl ?_
                exact key 0 false (by unfold ztest; rw [if_neg q0, if_neg q1]; exact decide_eq_false (Int32.not_lt.mpr c7)) rfl _ _ _ _
              · refine z_auto rfl ?_
                refine z_jp rfl ?_
                exact key 1 true (by unfold ztest; rw [if_neg q0, if_neg q1]; exact decide_eq_true (Int32.not_le.mp c7)) rfl _ _ _ _
            · have q1 : t % 300 / 100 = 1 := (nI_eq (a := t % 300 / 100) (b := 1) (by omega) (by omega)).mp (Classical.not_not.mp c6)
              refine z_auto rfl ?_
              refine z_br rfl (fun c7 => ?_) (fun c7 => ?_)
              · refine z_auto rfl ?_
                refine z_jp rfl ?_
                exact key 0 false (by unfold ztest; rw [if_neg q0, if_pos q1]; exact decide_eq_false c7) rfl _ _ _ _
              · refine z_auto rfl ?_
                refine z_jp rfl ?_
                exact key 1 true (by unfold ztest; rw [if_neg q0, if_pos q1]; exact decide_eq_true (Classical.not_not.mp c7)) rfl _ _ _ _
          · have q0 : t % 300 / 100 = 0 := (nI_eq (a := t % 300 / 100) (b := 0) (by omega) (by omega)).mp (Classical.not_not.mp c5)
            refine z_auto rfl ?_
            refine z_br rfl (fun c7 => ?_) (fun c7 => ?_)
            · refine z_auto rfl ?_
              refine z_jp rfl ?_
              exact key 0 false (by unfold ztest; rw [if_pos q0]; exact decide_eq_false (Int32.not_lt.mpr c7)) rfl _ _ _ _
            · refine z_auto rfl ?_
              refine z_jp rfl ?_
              exact key 1 true (by unfold ztest; rw [if_pos q0]; exact decide_eq_true (Int32.not_le.mp c7)) rfl _ _ _ _
      · have g1 : zms 1500 = -1 := by decide
        have g2 : zms 1500 < 0 := by decide
        generalize zms 1500 = z at g1 g2
        obtain ⟨b, r, rfl⟩ : ∃ b r, st = b :: r := by
          rcases st with _ | ⟨b, r⟩
          · simp [zok1] at hz1
          · exact ⟨b, r, rfl⟩
        simp only [List.length_cons] at hst
        have e2 : zev1 v 1500 (b :: r) = (!b) :: r := by
          rcases r with _ | ⟨a, r⟩ <;> simp [zev1]
        have e3 : nI (b :: r).length - 1 = nI r.length := by rw [List.length_cons, nI_succ, Int32.add_sub_cancel]
        have fin : ∀ (x : Int32), (x = if (!b) = true then 1 else 0) → ∀ (u9 u10 u11 u12 : Option zAV), zW d kX10_looks (zblk kX10_looks 10) [some (zr 10 0), some (zi y1), some (zi y2), some (zi y3), some (zi y4), some (zi (nI M)), some (zi (nI fr)), some (zi (nI (b :: r).length)), some (zi (nI (fr + pos))), u9, u10, u11, u12] [zi x, zi (nI r.length), zr 43 0] J (zRR rl rs) Q := by
          intro x hx u9 u10 u11 u12
          refine z_auto rfl ?_
          refine z_bst (k := r.length) rfl rfl (by show r.length < 64; omega) (by rw [hx]; cases b <;> simp) ?_
          have h5 := ih (pos + 1) (zev1 v 1500 (b :: r)) (zup J 43 0 r.length x) u9 u10 u11 u12 (by rw [e2]; simp only [List.length_cons]; omega) hz2 (by rw [e2]; exact zrp_push (zrp_nxt hr) (!b) hx) hq2 (by omega) (zLk_up hL _ _) kk2
          rw [show fr + (pos + 1) = fr + pos + 1 by omega, nI_succ (fr + pos), show (zev1 v 1500 (b :: r)).length = (b :: r).length by rw [e2]; rfl] at h5
          refine z_auto rfl ?_
          refine z_jp rfl ?_
          refine z_auto rfl ?_
          refine z_jp rfl ?_
          exact h5
        refine z_auto rfl ?_
        refine z_br rfl (fun c4 => ?_) (fun c4 => ?_)
        · refine z_auto rfl ?_
          refine z_br rfl (fun c5 => ?_) (fun c5 => ?_)
          · exact absurd g1 c5
          · refine z_auto rfl ?_
            rw [e3]
            refine z_bld (k := r.length) rfl rfl (by show r.length < 64; omega) ?_
            rw [zrp_top hr]
            refine z_auto rfl ?_
            refine z_br rfl (fun c6 => ?_) (fun c6 => ?_)
            · refine z_auto rfl ?_
              refine z_jp rfl ?_
              exact fin 0 (by cases b <;> simp_all) _ _ _ _
            · refine z_auto rfl ?_
              refine z_jp rfl ?_
              exact fin 1 (by cases b <;> simp_all) _ _ _ _
        · exact absurd g2 c4
      · have g1 : zms 1501 = -2 := by decide
        have g2 : zms 1501 < 0 := by decide
        generalize zms 1501 = z at g1 g2
        obtain ⟨b, a, r, rfl⟩ : ∃ b a r, st = b :: a :: r := by
          rcases st with _ | ⟨b, _ | ⟨a, r⟩⟩
          · simp [zok1] at hz1
          · simp [zok1] at hz1
          · exact ⟨b, a, r, rfl⟩
        simp only [List.length_cons] at hst
        have e2 : zev1 v 1501 (b :: a :: r) = (a && b) :: r := by simp [zev1]
        have e4 : nI (b :: a :: r).length + -1 = nI (a :: r).length := m_dec _
        have e3 : nI (a :: r).length - 1 = nI r.length := by rw [List.length_cons, nI_succ, Int32.add_sub_cancel]
        have fin : ∀ (x : Int32), (x = if (a && b) = true then 1 else 0) → ∀ (u9 u10 u11 u12 : Option zAV), zW d kX10_looks (zblk kX10_looks 16) [some (zr 10 0), some (zi y1), some (zi y2), some (zi y3), some (zi y4), some (zi (nI M)), some (zi (nI fr)), some (zi (nI (a :: r).length)), some (zi (nI (fr + pos))), u9, u10, u11, u12] [zi x, zi (nI r.length), zr 43 0] J (zRR rl rs) Q := by
          intro x hx u9 u10 u11 u12
          refine z_auto rfl ?_
          refine z_bst (k := r.length) rfl rfl (by show r.length < 64; omega) (by rw [hx]; cases a <;> cases b <;> simp) ?_
          have h5 := ih (pos + 1) (zev1 v 1501 (b :: a :: r)) (zup J 43 0 r.length x) u9 u10 u11 u12 (by rw [e2]; simp only [List.length_cons]; omega) hz2 (by rw [e2]; exact zrp_push (zrp_nxt (zrp_nxt hr)) (a && b) hx) hq2 (by omega) (zLk_up hL _ _) kk2
          rw [show fr + (pos + 1) = fr + pos + 1 by omega, nI_succ (fr + pos), show (zev1 v 1501 (b :: a :: r)).length = (a :: r).length by rw [e2]; rfl] at h5
          refine z_auto rfl ?_
          refine z_jp rfl ?_
          refine z_auto rfl ?_
          refine z_jp rfl ?_
          exact h5
        refine z_auto rfl ?_
        refine z_br rfl (fun c4 => ?_) (fun c4 => ?_)
        · refine z_auto rfl ?_
          refine z_br rfl (fun c5 => ?_) (fun c5 => ?_)
          · refine z_auto rfl ?_
            refine z_br rfl (fun c6 => ?_) (fun c6 => ?_)
            · exact absurd c6 (by rw [g1]; decide)
            · refine z_auto rfl ?_
              rw [e4, e3]
              refine z_auto rfl ?_
              refine z_br rfl (fun c7 => ?_) (fun c7 => ?_)
              · exact absurd g1 c7
              · refine z_auto rfl ?_
                refine z_bld (k := r.length) rfl e3 (by show r.length < 64; omega) ?_
                rw [zrp_top (zrp_nxt hr)]
                refine z_auto rfl ?_
                refine z_br rfl (fun c8 => ?_) (fun c8 => ?_)
                · refine z_auto rfl ?_
                  refine z_jp rfl ?_
                  exact fin 0 (by clear ih hr kk kk2; cases a <;> cases b <;> simp_all) _ _ _ _
                · refine z_auto rfl ?_
                  refine z_bld (k := (a :: r).length) rfl rfl (by show r.length + 1 < 64; omega) ?_
                  rw [zrp_top hr]
                  refine z_auto rfl ?_
                  refine z_br rfl (fun c9 => ?_) (fun c9 => ?_)
                  · refine z_auto rfl ?_
                    refine z_jp rfl ?_
                    exact fin 0 (by clear ih hr kk kk2; cases a <;> cases b <;> simp_all) _ _ _ _
                  · refine z_auto rfl ?_
                    refine z_jp rfl ?_
                    exact fin 1 (by clear ih hr kk kk2; cases a <;> cases b <;> simp_all) _ _ _ _
          · exact absurd (Classical.not_not.mp c5) (by rw [g1]; decide)
        · exact absurd g2 c4
      · have g1 : zms 1502 = -3 := by decide
        have g2 : zms 1502 < 0 := by decide
        generalize zms 1502 = z at g1 g2
        obtain ⟨b, a, r, rfl⟩ : ∃ b a r, st = b :: a :: r := by
          rcases st with _ | ⟨b, _ | ⟨a, r⟩⟩
          · simp [zok1] at hz1
          · simp [zok1] at hz1
          · exact ⟨b, a, r, rfl⟩
        simp only [List.length_cons] at hst
        have e2 : zev1 v 1502 (b :: a :: r) = (a || b) :: r := by simp [zev1]
        have e4 : nI (b :: a :: r).length + -1 = nI (a :: r).length := m_dec _
        have e3 : nI (a :: r).length - 1 = nI r.length := by rw [List.length_cons, nI_succ, Int32.add_sub_cancel]
        have fin : ∀ (x : Int32), (x = if (a || b) = true then 1 else 0) → ∀ (u9 u10 u11 u12 : Option zAV), zW d kX10_looks (zblk kX10_looks 16) [some (zr 10 0), some (zi y1), some (zi y2), some (zi y3), some (zi y4), some (zi (nI M)), some (zi (nI fr)), some (zi (nI (a :: r).length)), some (zi (nI (fr + pos))), u9, u10, u11, u12] [zi x, zi (nI r.length), zr 43 0] J (zRR rl rs) Q := by
          intro x hx u9 u10 u11 u12
          refine z_auto rfl ?_
          refine z_bst (k := r.length) rfl rfl (by show r.length < 64; omega) (by rw [hx]; cases a <;> cases b <;> simp) ?_
          have h5 := ih (pos + 1) (zev1 v 1502 (b :: a :: r)) (zup J 43 0 r.length x) u9 u10 u11 u12 (by rw [e2]; simp only [List.length_cons]; omega) hz2 (by rw [e2]; exact zrp_push (zrp_nxt (zrp_nxt hr)) (a || b) hx) hq2 (by omega) (zLk_up hL _ _) kk2
          rw [show fr + (pos + 1) = fr + pos + 1 by omega, nI_succ (fr + pos), show (zev1 v 1502 (b :: a :: r)).length = (a :: r).length by rw [e2]; rfl] at h5
          refine z_auto rfl ?_
          refine z_jp rfl ?_
          refine z_auto rfl ?_
          refine z_jp rfl ?_
          exact h5
        refine z_auto rfl ?_
        refine z_br rfl (fun c4 => ?_) (fun c4 => ?_)
        · refine z_auto rfl ?_
          refine z_br rfl (fun c5 => ?_) (fun c5 => ?_)
          · refine z_auto rfl ?_
            refine z_br rfl (fun c6 => ?_) (fun c6 => ?_)
            · exact absurd c6 (by rw [g1]; decide)
            · refine z_auto rfl ?_
              rw [e4, e3]
              refine z_auto rfl ?_
              refine z_br rfl (fun c7 => ?_) (fun c7 => ?_)
              · refine z_auto rfl ?_
                refine z_bld (k := r.length) rfl e3 (by show r.length < 64; omega) ?_
                rw [zrp_top (zrp_nxt hr)]
                refine z_auto rfl ?_
                refine z_br rfl (fun c8 => ?_) (fun c8 => ?_)
                · refine z_auto rfl ?_
                  refine z_jp rfl ?_
                  exact fin 1 (by clear ih hr kk kk2; cases a <;> cases b <;> simp_all) _ _ _ _
                · refine z_auto rfl ?_
                  refine z_bld (k := (a :: r).length) rfl rfl (by show r.length + 1 < 64; omega) ?_
                  rw [zrp_top hr]
                  refine z_auto rfl ?_
                  refine z_br rfl (fun c9 => ?_) (fun c9 => ?_)
                  · refine z_auto rfl ?_
                    refine z_jp rfl ?_
                    exact fin 0 (by clear ih hr kk kk2; cases a <;> cases b <;> simp_all) _ _ _ _
                  · refine z_auto rfl ?_
                    refine z_jp rfl ?_
                    refine z_auto rfl ?_
                    refine z_jp rfl ?_
                    exact fin 1 (by clear ih hr kk kk2; cases a <;> cases b <;> simp_all) _ _ _ _
              · exact absurd (Classical.not_not.mp c7) (by rw [g1]; decide)
          · exact absurd (Classical.not_not.mp c5) (by rw [g1]; decide)
        · exact absurd g2 c4
theorem zLk_add {I : zMI} {v : Nat → Int32} {B P : Nat} {J : zMI} (h : zLk I v B P J) (a e : Nat) : zLk I v (B + a) (P + e) (zup (zup J 10 0 11 (J 10 0 11 + nI a)) 10 0 12 ((zup J 10 0 11 (J 10 0 11 + nI a)) 10 0 12 + nI e)) := by
  obtain ⟨h1, h2, h3, h4⟩ := h
  refine ⟨fun c i k x y z => ?_, fun k hk => ?_, ?_, ?_⟩
  · rcases z with z | z
    · rw [zup_c z, zup_c z]
      exact h1 c i k x y (Or.inl z)
    · rw [zup_k z.2, zup_k z.1]
      exact h1 c i k x y (Or.inr z)
  · rw [zup_c (by decide), zup_c (by decide)]
    exact h2 k hk
  · rw [zup_k (by decide), zup_eq, h3, nI_add]
  · rw [zup_eq, zup_k (by decide), h4, nI_add]
set_option maxHeartbeats 4000000 in
set_option maxRecDepth 100000 in
theorem m_term {v : Nat → Int32} {B P M fr pos : Nat} (hfr : fr + M ≤ 937) (hp : pos < M) {y1 y2 y3 y4 : Int32} {J : zMI} {b : Bool} {n a e : Nat} {x : Int32} (hx : I 40 0 (fr + pos) = x) (h0 : x < 0) (h1 : ¬ x = -1) (h2 : x ≤ -10) (ha : ¬ x ≤ -200 → -10 - x = nI n ∧ a = (if b = true then n else 0) ∧ e = 0) (he : x ≤ -200 → -200 - x = nI n ∧ e = (if b = true then n else 0) ∧ a = 0) (hb : J 43 0 0 = (if b = true then 1 else 0)) (hL : zLk I v B P J) {u7 : Int32} {u9 u10 u11 u12 : Option zAV}
    (kk : ∀ (J' : zMI) (u9 u10 u11 u12 : Option zAV), zLk I v (B + a) (P + e) J' → zW d kX10_looks (zblk kX10_looks 1) [some (zr 10 0), some (zi y1), some (zi y2), some (zi y3), some (zi y4), some (zi (nI M)), some (zi (nI fr)), some (zi (nI 0)), some (zi (nI (fr + (pos + 1)))), u9, u10, u11, u12] [] J' (zRR rl rs) Q) :
    zW d kX10_looks (zblk kX10_looks 1) [some (zr 10 0), some (zi y1), some (zi y2), some (zi y3), some (zi y4), some (zi (nI M)), some (zi (nI fr)), some (zi u7), some (zi (nI (fr + pos))), u9, u10, u11, u12] [] J (zRR rl rs) Q := by
  have hs40 : J 40 0 = I 40 0 := zFm_f hL.1 (by decide) (by decide) (by decide)
  have fin := fun u9 u10 u11 u12 => kk _ u9 u10 u11 u12 (zLk_add hL a e)
  rw [show fr + (pos + 1) = fr + pos + 1 by omega, nI_succ (fr + pos)] at fin
  refine z_auto rfl ?_
  refine z_br rfl (fun c => ?_) (fun c => ?_)
  · rw [nI_add] at c
    exact absurd c (nI_ge (by omega) (by omega))
  · refine z_auto rfl ?_
    refine z_ald (k := (fr + pos)) rfl rfl (by show fr + pos < 937; omega) ?_
    rw [hs40, hx]
    refine z_auto rfl ?_
    refine z_br rfl (fun c2 => ?_) (fun c2 => ?_)
    · refine z_auto rfl ?_
      refine z_br rfl (fun c3 => ?_) (fun c3 => ?_)
      · refine z_auto rfl ?_
        refine z_br rfl (fun c4 => ?_) (fun c4 => ?_)
        · refine z_auto rfl ?_
          refine z_bld (k := 0) rfl rfl (by decide) ?_
          obtain ⟨y, hy⟩ : ∃ y : Int32, y = if b = true then 1 else 0 := ⟨_, rfl⟩
          rw [hb, ← hy]
          refine z_auto rfl ?_
          refine z_br rfl (fun c5 => ?_) (fun c5 => ?_)
          · have hb0 : b = false := by clear kk fin ha he hb; cases b <;> simp_all
            subst hb0
            have ha0 : a = 0 := by
              by_cases q : x ≤ -200
              · exact (he q).2.2
              · exact (ha q).2.1
            have he0 : e = 0 := by
              by_cases q : x ≤ -200
              · exact (he q).2.1
              · exact (ha q).2.2
            subst ha0 he0
            refine z_auto rfl ?_
            refine z_jp rfl ?_
            refine z_auto rfl ?_
            refine z_br rfl (fun c6 => ?_) (fun c6 => ?_)
            · refine z_auto rfl ?_
              refine z_jp rfl ?_
              refine z_auto rfl ?_
              refine z_jp rfl ?_
              refine z_auto rfl ?_
              refine z_jp rfl ?_
              exact fin _ _ _ _
            · exact absurd c5 c6
          · have hb1 : b = true := by clear kk fin ha he hb; cases b <;> simp_all
            subst hb1
            refine z_auto rfl ?_
            refine z_br rfl (fun c6 => ?_) (fun c6 => ?_)
            · have ha0 : a = 0 := (he c6).2.2
              have he0 : e = n := (he c6).2.1
              have hn := (he c6).1
              subst ha0 he0
              refine z_auto rfl ?_
              refine z_jp rfl ?_
              refine z_auto rfl ?_
              refine z_br rfl (fun c7 => ?_) (fun c7 => ?_)
              · exact absurd c7 c5
              · refine z_auto rfl ?_
                refine z_br rfl (fun c8 => ?_) (fun c8 => ?_)
                · exact absurd c8 (Int32.not_lt.mpr c6)
                · refine z_auto rfl ?_
                  refine z_jp rfl ?_
                  rw [hn]
                  refine z_auto rfl ?_
                  refine z_jp rfl ?_
                  refine z_auto rfl ?_
                  refine z_jp rfl ?_
                  exact fin _ _ _ _
            · have he0 : e = 0 := (ha c6).2.2
              have ha0 : a = n := (ha c6).2.1
              have hn := (ha c6).1
              subst ha0 he0
              refine z_auto rfl ?_
              refine z_jp rfl ?_
              rw [hn]
              refine z_auto rfl ?_
              refine z_br rfl (fun c7 => ?_) (fun c7 => ?_)
              · exact absurd c7 c5
              · refine z_auto rfl ?_
                refine z_br rfl (fun c8 => ?_) (fun c8 => ?_)
                · refine z_auto rfl ?_
                  refine z_jp rfl ?_
                  refine z_auto rfl ?_
                  refine z_jp rfl ?_
                  refine z_auto rfl ?_
                  refine z_jp rfl ?_
                  exact fin _ _ _ _
                · exact absurd (Int32.not_lt.mp c8) c6
        · exact absurd h2 c4
      · exact absurd (Classical.not_not.mp c3) h1
    · exact absurd h0 c2
set_option maxHeartbeats 4000000 in
set_option maxRecDepth 100000 in
theorem m_clauses {v : Nat → Int32} {M fr : Nat} (hfr : fr + M ≤ 937) {y1 y2 y3 y4 : Int32} : ∀ (C : List zCl) (pos : Nat) (J : zMI) (B P : Nat) (u9 u10 u11 u12 : Option zAV), (∀ c ∈ C, zwf c) → (∀ k x, (zmf C)[k]? = some x → I 40 0 (fr + pos + k) = x) → pos + (zmf C).length = M → zLk I v B P J →
    (∀ J' : zMI, zLk I v (B + zcsum v C 2) (P + zcsum v C 3) J' → Q none J' (zRR rl rs)) →
    zW d kX10_looks (zblk kX10_looks 1) [some (zr 10 0), some (zi y1), some (zi y2), some (zi y3), some (zi y4), some (zi (nI M)), some (zi (nI fr)), some (zi (nI 0)), some (zi (nI (fr + pos))), u9, u10, u11, u12] [] J (zRR rl rs) Q := by
  intro C
  induction C with
  | nil =>
    intro pos J B P u9 u10 u11 u12 hw hm hp hL kk
    have hp : pos = M := hp
    subst hp
    refine z_auto rfl ?_
    refine z_br rfl (fun c => ?_) (fun c => ?_)
    · refine z_auto rfl ?_
      exact z_rt rfl (kk J hL)
    · exact absurd (by rw [nI_add]; exact nI_le (by omega) (by omega)) c
  | cons c C ih =>
    intro pos J B P u9 u10 u11 u12 hw hm hp hL kk
    have hwc := hw c (List.mem_cons_self ..)
    have hw2 : ∀ c ∈ C, zwf c := fun a ha => hw a (List.mem_cons_of_mem _ ha)
    obtain ⟨w1, w2, w3⟩ := hwc
    by_cases h01 : c.1 ≤ 1
    · have e1 : zmf (c :: C) = zmf C := by
        rw [zmf, if_neg (by omega), if_neg (by omega), List.nil_append]
      have e2 : zcsum v (c :: C) 2 = zcsum v C 2 := by
        rw [zcsum, if_neg (fun q => by omega), Nat.zero_add]
      have e3 : zcsum v (c :: C) 3 = zcsum v C 3 := by
        rw [zcsum, if_neg (fun q => by omega), Nat.zero_add]
      rw [e1] at hm hp
      rw [e2, e3] at kk
      exact ih pos J B P u9 u10 u11 u12 hw2 hm hp hL kk
    · have hz : zok 0 c.2.2 = some 1 := by
        rcases w3 with q | q
        · omega
        · exact q.2
      obtain ⟨x, hx, e1⟩ : ∃ x, (x = if c.1 = 2 then -10 - nI c.2.1 else -200 - nI c.2.1) ∧ zmf (c :: C) = c.2.2.map zms ++ x :: zmf C := by
        by_cases q : c.1 = 2
        · exact ⟨_, rfl, by rw [zmf, if_pos q, if_pos q]; simp⟩
        · exact ⟨_, rfl, by rw [zmf, if_neg q, if_neg q, if_pos (by omega)]; simp⟩
      rw [e1] at hm hp
      simp only [List.length_append, List.length_map, List.length_cons] at hp
      refine m_steps hfr (v := v) (B := B) (P := P) c.2.2 pos [] J u9 u10 u11 u12 (by simp) hz (fun i b q => by simp at q) (fun k t hk => ?_) (by omega) hL (fun J' b v9 v10 v11 v12 g1 g2 g3 => ?_)
      · have hk2 := zix hk
        apply hm k
        rw [List.getElem?_append_left (by rw [List.length_map]; exact hk2), List.getElem?_map, hk]
        rfl
      · have hcb : zcB v c.2.2 = b := by unfold zcB; rw [g1]; rfl
        have hx2 : I 40 0 (fr + (pos + c.2.2.length)) = x := by
          have := hm c.2.2.length x (by rw [List.getElem?_append_right (by simp), List.length_map, Nat.sub_self]; rfl)
          rw [show fr + pos + c.2.2.length = fr + (pos + c.2.2.length) by omega] at this
          exact this
        have fx : (x < 0) ∧ (¬ x = -1) ∧ (x ≤ -10) ∧ (¬ x ≤ -200 → c.1 = 2 ∧ -10 - x = nI c.2.1) ∧ (x ≤ -200 → c.1 = 3 ∧ -200 - x = nI c.2.1) := by
          by_cases q : c.1 = 2
          · rw [if_pos q] at hx
            obtain ⟨n1, n2, n3, n4, n5⟩ := zneg1 _ w2
            rw [hx]
            exact ⟨n4, n3, n1, fun _ => ⟨q, n5⟩, fun r => absurd r n2⟩
          · rw [if_neg q] at hx
            obtain ⟨n1, n2, n3, n4, n5⟩ := zneg2 _ w2
            rw [hx]
            exact ⟨n4, n3, n1, fun r => absurd n2 r, fun _ => ⟨by omega, n5⟩⟩
        obtain ⟨f1, f2, f3, f4, f5⟩ := fx
        rw [show fr + pos + c.2.2.length = fr + (pos + c.2.2.length) by omega]
        refine m_term hfr (by omega) (n := c.2.1) (a := if c.1 = 2 ∧ zcB v c.2.2 = true then c.2.1 else 0) (e := if c.1 = 3 ∧ zcB v c.2.2 = true then c.2.1 else 0) (b := b) hx2 f1 f2 f3 (fun q => ⟨(f4 q).2, ?_, ?_⟩) (fun q => ⟨(f5 q).2, ?_, ?_⟩) g2 g3 (fun J2 v9 v10 v11 v12 g4 => ?_)
        · have := (f4 q).1
          rw [hcb]
          cases b <;> simp [this]
        · have := (f4 q).1
          rw [if_neg (fun r => by omega)]
        · have := (f5 q).1
          rw [hcb]
          cases b <;> simp [this]
        · have := (f5 q).1
          rw [if_neg (fun r => by omega)]
        · refine ih (pos + c.2.2.length + 1) J2 _ _ v9 v10 v11 v12 hw2 (fun k y hk => ?_) (by omega) g4 (fun J3 g5 => kk J3 ?_)
          · have := hm (c.2.2.length + 1 + k) y (by rw [List.getElem?_append_right (by simp; omega), List.length_map, show c.2.2.length + 1 + k - c.2.2.length = k + 1 by omega]; exact hk)
            rw [show fr + pos + (c.2.2.length + 1 + k) = fr + (pos + c.2.2.length + 1) + k by omega] at this
            exact this
          · rw [zcsum, zcsum, ← Nat.add_assoc, ← Nat.add_assoc]
            exact g5
/-- no school, or school a with these clauses -/
def zHo (s : Nat → Int32) (C : List zCl) : Prop := (s 5 = -1 ∧ C = []) ∨ ∃ a, a < 5 ∧ s 5 = nI a ∧ zMS s a C
theorem zLk_0 {I J : zMI} {x1 x2 x3 x4 x5 : Int32} (e : x5 = I 40 0 6 - I 40 0 6 / 10 * 10) (hJ : J = zup (zup (zup (zup (zup (zup (zup I 42 0 0 x1) 42 0 1 x2) 42 0 2 x3) 42 0 3 x4) 42 0 4 x5) 10 0 11 0) 10 0 12 0) : zLk I (fVal x1 x2 x3 x4 (I 40 0 6 - I 40 0 6 / 10 * 10)) 0 0 J := by
  subst hJ e
  refine ⟨fun c i k a b e => ?_, fun k hk => ?_, ?_, ?_⟩
  · rcases e with e | e
    · rw [zup_c e, zup_c e, zup_c a, zup_c a, zup_c a, zup_c a, zup_c a]
    · rw [zup_k e.2, zup_k e.1, zup_c a, zup_c a, zup_c a, zup_c a, zup_c a]
  · rw [zup_c (by decide), zup_c (by decide)]
    rcases k with _ | _ | _ | _ | _ | k
    · rw [zup_k (by decide), zup_k (by decide), zup_k (by decide), zup_k (by decide), zup_eq]; rfl
    · rw [zup_k (by decide), zup_k (by decide), zup_k (by decide), zup_eq]; rfl
    · rw [zup_k (by decide), zup_k (by decide), zup_eq]; rfl
    · rw [zup_k (by decide), zup_eq]; rfl
    · rw [zup_eq]; rfl
    · omega
  · rw [zup_k (by decide), zup_eq]; rfl
  · rw [zup_eq]; rfl
theorem m_fr : ∀ a, a < 5 → (237 : Int32) + 140 * nI a = nI (237 + 140 * a) := by decide +kernel
set_option maxHeartbeats 4000000 in
set_option maxRecDepth 100000 in
theorem m_looks {x1 x2 x3 x4 : Int32} (hH : zHo (I 40 0) C) (h : ∀ J : zMI, zFm I J → J 10 0 11 = nI (zcsum (fVal x1 x2 x3 x4 (I 40 0 6 - I 40 0 6 / 10 * 10)) C 2) → J 10 0 12 = nI (zcsum (fVal x1 x2 x3 x4 (I 40 0 6 - I 40 0 6 / 10 * 10)) C 3) → Q none J (zRR rl rs)) : zWm (d + 1) 128 [zr 10 0, zi x1, zi x2, zi x3, zi x4] I (zRR rl rs) Q := by
  have kk : ∀ J', zLk I (fVal x1 x2 x3 x4 (I 40 0 6 - I 40 0 6 / 10 * 10)) (0 + zcsum (fVal x1 x2 x3 x4 (I 40 0 6 - I 40 0 6 / 10 * 10)) C 2) (0 + zcsum (fVal x1 x2 x3 x4 (I 40 0 6 - I 40 0 6 / 10 * 10)) C 3) J' → Q none J' (zRR rl rs) := by
    intro J' hJ
    rw [Nat.zero_add, Nat.zero_add] at hJ
    exact h J' hJ.1 hJ.2.2.1 hJ.2.2.2
  refine z_auto rfl ?_
  refine z_ast (k := 0) rfl rfl (by decide) ?_
  refine z_auto rfl ?_
  refine z_ast (k := 1) rfl rfl (by decide) ?_
  refine z_auto rfl ?_
  refine z_ast (k := 2) rfl rfl (by decide) ?_
  refine z_auto rfl ?_
  refine z_ast (k := 3) rfl rfl (by decide) ?_
  refine z_auto rfl ?_
  refine z_ald (k := 6) rfl rfl (by decide) ?_
  refine z_auto rfl ?_
  first | refine z_st rfl ?_ | refine z_ck rfl (by decide) ?_
  try simp (decide := true) only [zup_eq, zup_cf, zup_i, zup_k, zLy_3, zLy_34, ne_eq, not_false_eq_true]
  refine z_auto rfl ?_
  refine z_ast (k := 4) rfl rfl (by decide) ?_
  refine z_auto rfl ?_
  obtain ⟨J, hJ⟩ : ∃ J, J = zup (zup (zup (zup (zup (zup (zup I 42 0 0 x1) 42 0 1 x2) 42 0 2 x3) 42 0 3 x4) 42 0 4 (I 40 0 6 - I 40 0 6 / 10 * 10)) 10 0 11 0) 10 0 12 0 := ⟨_, rfl⟩
  rw [← hJ]
  have hL := zLk_0 (I := I) (x1 := x1) (x2 := x2) (x3 := x3) (x4 := x4) rfl hJ
  clear hJ
  have hs40 := zFm_f hL.1 (c := 40) (i := 0) (by decide) (by decide) (by decide)
  rcases hH with ⟨h5, rfl⟩ | ⟨a, ha, h5, hM⟩
  · refine z_cl rfl (m_tellsOf0 (by rw [hs40]; exact h5) ?_)
    refine z_auto rfl ?_
    refine z_ald (k := 5) rfl rfl (by decide) ?_
    rw [hs40, h5]
    refine z_auto rfl ?_
    refine z_jp rfl ?_
    exact m_clauses (M := 0) (fr := 97) (by decide) [] 0 J 0 0 _ _ _ _ (by simp) (by simp [zmf]) rfl hL kk
  · obtain ⟨q1, q2, q3, q4, q5, q6⟩ := hM
    refine z_cl rfl (m_tellsOf1 (a := a) (by rw [hs40]; exact h5) ha (by decide) ?_)
    refine z_auto rfl ?_
    refine z_ald (k := 5) rfl rfl (by decide) ?_
    rw [hs40, h5, q1]
    refine z_auto rfl ?_
    rw [m_fr a ha]
    refine z_auto rfl ?_
    refine z_jp rfl ?_
    exact m_clauses (M := (zmf C).length) (fr := 237 + 140 * a) (by omega) C 0 J 0 0 _ _ _ _ q6 (fun k x hk => q3 k x hk) (Nat.zero_add _) hL kk
end