/-! A FALL: what layers take, what comes through -/
theorem zup_zup {I : zMI} {c i k : Nat} {v w : Int32} : zup (zup I c i k v) c i k w = zup I c i k w := by
  funext c' i' k'
  unfold zup
  by_cases h : c' = c ∧ i' = i ∧ k' = k
  · rw [if_pos h, if_pos h]
  · rw [if_neg h, if_neg h, if_neg h]
theorem zup_self {I : zMI} {c i k : Nat} : zup I c i k (I c i k) = I := by
  funext c' i' k'
  unfold zup
  by_cases h : c' = c ∧ i' = i ∧ k' = k
  · rw [if_pos h, h.1, h.2.1, h.2.2]
  · rw [if_neg h]
def zhu (t l : Int32) : Int32 := if 10 * t < l then t else l / 2
def zcr (t l : Int32) : Int32 := if l ≤ 20 then t else 2 * t
/-- what a layer takes: kind, v, thick, floor, what is left, its row's number -/
def ztak (kd v t fl l rw : Int32) : Int32 :=
  if kd = 1 then zcr t l else if kd = 2 then 3 * t else if kd = 3 then zhu t l else if kd = 4 then (if fl - fl / 2 * 2 = 1 then 0 else zcr t l) else if kd = 5 then (if l ≤ 10 * v then 3 * t + v else 3 * t) else if kd = 6 then zhu t l + rw else t
def zbrk (kd v l : Int32) : Prop := (kd = 2 ∨ kd = 5) ∧ ¬ l ≤ 10 * v
/-- the layers' numbers: kind, v, thick, side, row -/
def zLy (I : zMI) (tr : Nat) : Nat → Nat → Int32 := fun a k => match a with
  | 0 => I 20 0 k
  | 1 => I 21 0 k
  | 2 => I 22 0 k
  | 3 => I 24 0 k
  | _ => I 25 0 (k * 3 + tr % 3)
noncomputable def gFs (A : Nat → Nat → Int32) (fl sd out : Int32) (k : Nat) (s : Int32 × Int32) : Int32 × Int32 :=
  if ((s.2 ||| out) >>> (nI k &&& 31)) &&& 1 = 0 ∧ A 3 k = sd then
    (if 0 < s.1 - ztak (A 0 k) (A 1 k) (A 2 k) fl s.1 (A 4 k) then s.1 - ztak (A 0 k) (A 1 k) (A 2 k) fl s.1 (A 4 k) else 0, @ite _ (zbrk (A 0 k) (A 1 k) s.1) (Classical.propDecidable _) (s.2 ||| (1 <<< (nI k &&& 31))) s.2)
  else s
noncomputable def gFt (A : Nat → Nat → Int32) (fl sd out : Int32) : Nat → Int32 × Int32 → Int32 × Int32
  | 0, s => s
  | k + 1, s => gFs A fl sd out k (gFt A fl sd out k s)
section
variable {d : Nat} {I : zMI} {rs : Option (Nat × Nat)} {Q : zPQ} {G : zMR}
set_option maxHeartbeats 4000000 in
set_option maxRecDepth 100000 in
theorem s_crumpled {t l : Int32} (h : Q (some (zi (zcr t l))) I G) : zWm d 23 [zi t, zi l] I G Q := by
  refine z_auto rfl ?_
  refine z_br rfl (fun c => ?_) (fun c => ?_)
  · rw [zcr, if_pos c] at h
    refine z_auto rfl ?_
    refine z_jp rfl ?_
    refine z_auto rfl ?_
    exact z_rt rfl h
  · rw [zcr, if_neg c] at h
    refine z_auto rfl ?_
    refine z_jp rfl ?_
    refine z_auto rfl ?_
    exact z_rt rfl h
set_option maxHeartbeats 4000000 in
set_option maxRecDepth 100000 in
theorem s_hung {t l : Int32} (h : Q (some (zi (zhu t l))) I G) : zWm d 24 [zi t, zi l] I G Q := by
  refine z_auto rfl ?_
  refine z_br rfl (fun c => ?_) (fun c => ?_)
  · rw [zhu, if_pos c] at h
    refine z_auto rfl ?_
    refine z_jp rfl ?_
    refine z_auto rfl ?_
    exact z_rt rfl h
  · rw [zhu, if_neg c] at h
    refine z_auto rfl ?_
    first | refine z_st rfl ?_ | refine z_ck rfl (by decide) ?_
    refine z_auto rfl ?_
    refine z_jp rfl ?_
    refine z_auto rfl ?_
    exact z_rt rfl h
set_option maxHeartbeats 4000000 in
set_option maxRecDepth 100000 in
theorem s_standing {k : Nat} (hk : k < 8) {l m : Int32} (h1 : ¬ l ≤ 10 * I 21 0 k → Q (some (zi (3 * I 22 0 k))) (zup I 3 0 2 (I 3 0 2 ||| (1 <<< (nI k &&& 31)))) (zRR (some (4, 0)) rs)) (h0 : l ≤ 10 * I 21 0 k → Q (some (zi (3 * I 22 0 k + m))) I (zRR (some (4, 0)) rs)) : zWm d 25 [zr 3 0, zi (nI k), zi l, zi m] I (zRR (some (4, 0)) rs) Q := by
  refine z_auto rfl ?_
  refine z_ald (k := k) rfl rfl (by show k < 8; omega) ?_
  refine z_auto rfl ?_
  refine z_ald (k := k) rfl rfl (by show k < 8; omega) ?_
  refine z_auto rfl ?_
  refine z_br rfl (fun c => ?_) (fun c => ?_)
  · refine z_auto rfl ?_
    exact z_rt rfl (h0 c)
  · refine z_auto rfl ?_
    exact z_rt rfl (h1 c)
set_option maxHeartbeats 4000000 in
set_option maxRecDepth 100000 in
theorem s_takenBy {k t : Nat} (hk : k < 8) (ht : t < 100000) (hty : I 3 0 4 = nI t) {l : Int32} (h1 : zbrk (I 20 0 k) (I 21 0 k) l → Q (some (zi (ztak (I 20 0 k) (I 21 0 k) (I 22 0 k) (I 3 0 5) l (I 25 0 (k * 3 + t % 3))))) (zup I 3 0 2 (I 3 0 2 ||| (1 <<< (nI k &&& 31)))) (zRR (some (4, 0)) rs)) (h0 : ¬ zbrk (I 20 0 k) (I 21 0 k) l → Q (some (zi (ztak (I 20 0 k) (I 21 0 k) (I 22 0 k) (I 3 0 5) l (I 25 0 (k * 3 + t % 3))))) I (zRR (some (4, 0)) rs)) : zWm (d + 1) 22 [zr 3 0, zi (nI k), zi l] I (zRR (some (4, 0)) rs) Q := by
  have hr : nI k * 3 + (I 3 0 4 - I 3 0 4 / 3 * 3) = nI (k * 3 + t % 3) := by
    rw [hty, show nI t - nI t / 3 * 3 = nI (t % 3) from pk_rem (a := t) (d := 3) (by omega) (by omega) (by omega), show nI k * 3 = nI (k * 3) from pk_mul k 3]
    exact nI_add _ _
  refine z_auto rfl ?_
  refine z_ald (k := k) rfl rfl (by show k < 8; omega) ?_
  refine z_auto rfl ?_
  refine z_ald (k := k) rfl rfl (by show k < 8; omega) ?_
  refine z_auto rfl ?_
  refine z_sw rfl (fun q hq hx => ?_) (fun hn => ?_)
  · rcases List.mem_cons.mp hq with rfl | hq
    · have hx : I 20 0 k = 1 := hx
      refine z_auto rfl ?_
      refine z_cl rfl (s_crumpled ?_)
      have h := h0 (fun q => by rcases q.1 with q | q <;> (rw [hx] at q; revert q; decide))
      rw [hx, ztak, if_pos rfl] at h
      refine z_auto rfl ?_
      exact z_rt rfl h
    rcases List.mem_cons.mp hq with rfl | hq
    · have hx : I 20 0 k = 2 := hx
      refine z_auto rfl ?_
      refine z_cl rfl (s_standing hk (fun hc => ?_) (fun hc => ?_))
      · have h := h1 ⟨Or.inl hx, hc⟩
        rw [hx, ztak, if_neg (by decide), if_pos rfl] at h
        refine z_auto rfl ?_
        exact z_rt rfl h
      · have h := h0 (fun q => q.2 hc)
        rw [hx, ztak, if_neg (by decide), if_pos rfl] at h
        rw [Int32.add_zero]
        refine z_auto rfl ?_
        exact z_rt rfl h
    rcases List.mem_cons.mp hq with rfl | hq
    · have hx : I 20 0 k = 3 := hx
      refine z_auto rfl ?_
      refine z_cl rfl (s_hung ?_)
      have h := h0 (fun q => by rcases q.1 with q | q <;> (rw [hx] at q; revert q; decide))
      rw [hx, ztak, if_neg (by decide), if_neg (by decide), if_pos rfl] at h
      refine z_auto rfl ?_
      exact z_rt rfl h
    rcases List.mem_cons.mp hq with rfl | hq
    · have hx : I 20 0 k = 4 := hx
      have h := h0 (fun q => by rcases q.1 with q | q <;> (rw [hx] at q; revert q; decide))
      rw [hx, ztak, if_neg (by decide), if_neg (by decide), if_neg (by decide), if_pos rfl] at h
      refine z_auto rfl ?_
      first | refine z_st rfl ?_ | refine z_ck rfl (by decide) ?_
      refine z_auto rfl ?_
      refine z_br rfl (fun c => ?_) (fun c => ?_)
      · rw [if_neg c] at h
        refine z_auto rfl ?_
        refine z_cl rfl (s_crumpled ?_)
        refine z_auto rfl ?_
        refine z_jp rfl ?_
        refine z_auto rfl ?_
        exact z_rt rfl h
      · rw [if_pos (Classical.not_not.mp c)] at h
        refine z_auto rfl ?_
        refine z_jp rfl ?_
        refine z_auto rfl ?_
        exact z_rt rfl h
    rcases List.mem_cons.mp hq with rfl | hq
    · have hx : I 20 0 k = 5 := hx
      refine z_auto rfl ?_
      refine z_ald (k := k) rfl rfl (by show k < 8; omega) ?_
      refine z_auto rfl ?_
      refine z_cl rfl (s_standing hk (fun hc => ?_) (fun hc => ?_))
      · have h := h1 ⟨Or.inr hx, hc⟩
        rw [hx, ztak, if_neg (by decide), if_neg (by decide), if_neg (by decide), if_neg (by decide), if_pos rfl, if_neg hc] at h
        refine z_auto rfl ?_
        exact z_rt rfl h
      · have h := h0 (fun q => q.2 hc)
        rw [hx, ztak, if_neg (by decide), if_neg (by decide), if_neg (by decide), if_neg (by decide), if_pos rfl, if_pos hc] at h
        refine z_auto rfl ?_
        exact z_rt rfl h
    rcases List.mem_cons.mp hq with rfl | hq
    · have hx : I 20 0 k = 6 := hx
      have h := h0 (fun q => by rcases q.1 with q | q <;> (rw [hx] at q; revert q; decide))
      rw [hx, ztak, if_neg (by decide), if_neg (by decide), if_neg (by decide), if_neg (by decide), if_neg (by decide), if_pos rfl] at h
      refine z_auto rfl ?_
      refine z_cl rfl (s_hung ?_)
      refine z_auto rfl ?_
      first | refine z_st rfl ?_ | refine z_ck rfl (by decide) ?_
      refine z_auto rfl ?_
      refine z_ald (k := (k * 3 + t % 3)) rfl hr (by show k * 3 + t % 3 < 24; omega) ?_
      refine z_auto rfl ?_
      exact z_rt rfl h
    · exact absurd hq List.not_mem_nil
  · have e1 : ¬ I 20 0 k = 1 := hn (1, 1) (by decide)
    have e2 : ¬ I 20 0 k = 2 := hn (2, 2) (by decide)
    have e3 : ¬ I 20 0 k = 3 := hn (3, 3) (by decide)
    have e4 : ¬ I 20 0 k = 4 := hn (4, 4) (by decide)
    have e5 : ¬ I 20 0 k = 5 := hn (5, 7) (by decide)
    have e6 : ¬ I 20 0 k = 6 := hn (6, 8) (by decide)
    have h := h0 (fun q => q.1.elim e2 e5)
    rw [ztak, if_neg e1, if_neg e2, if_neg e3, if_neg e4, if_neg e5, if_neg e6] at h
    refine z_auto rfl ?_
    exact z_rt rfl h
set_option maxHeartbeats 4000000 in
set_option maxRecDepth 100000 in
theorem s_goThrough {n t : Nat} (hn : I 4 0 7 = nI n) (h8 : n ≤ 8) (ht : t < 100000) (hty : I 3 0 4 = nI t) {sd bl : Int32} (h : Q (some (zi (gFt (zLy I t) (I 3 0 5) sd (I 3 0 6) n (bl, I 3 0 2)).1)) (zup I 3 0 2 (gFt (zLy I t) (I 3 0 5) sd (I 3 0 6) n (bl, I 3 0 2)).2) (zRR (some (4, 0)) rs)) : zWm (d + 2) 21 [zr 3 0, zi sd, zi bl] I (zRR (some (4, 0)) rs) Q := by
  have loop : ∀ k i, i + k = n → ∀ (l b : Int32) (u : Option zAV), (l, b) = gFt (zLy I t) (I 3 0 5) sd (I 3 0 6) i (bl, I 3 0 2) → zW (d + 2) kX3_goThrough (zblk kX3_goThrough 1) [some (zr 3 0), some (zi sd), some (zi bl), some (zi l), some (zi (nI i)), u] [] (zup I 3 0 2 b) (zRR (some (4, 0)) rs) Q := by
    intro k
    induction k with
    | zero =>
      intro i hi l b u hs
      have : i = n := by omega
      subst this
      rw [← hs] at h
      refine z_auto rfl ?_
      refine z_br rfl (fun c => ?_) (fun c => ?_)
      · refine z_auto rfl ?_
        exact z_rt rfl h
      · rw [zup_c (by decide), hn] at c
        exact absurd (nI_le (Nat.le_refl _) (by omega)) c
    | succ k ih =>
      intro i hi l b u hs
      have hi8 : i < 8 := by omega
      have r1 : zup I 3 0 2 b 3 0 5 = I 3 0 5 := zup_k (by decide)
      have g0 : ∀ c i k, c ≠ 3 → zup I 3 0 2 b c i k = I c i k := fun c i k hc => zup_c hc
      refine z_auto rfl ?_
      refine z_br rfl (fun c => ?_) (fun c => ?_)
      · rw [zup_c (by decide), hn] at c
        exact absurd c (nI_ge (by omega) (by omega))
      · refine z_auto rfl ?_
        refine z_br rfl (fun c2 => ?_) (fun c2 => ?_)
        · exact absurd c2 (nI_ge (a := i) (b := 8) (by omega) (by omega))
        · have step : gFt (zLy I t) (I 3 0 5) sd (I 3 0 6) (i + 1) (bl, I 3 0 2) = gFs (zLy I t) (I 3 0 5) sd (I 3 0 6) i (l, b) := by rw [gFt, hs]
          refine z_auto rfl ?_
          rw [zup_eq, zup_k (by decide)]
          refine z_auto rfl ?_
          refine z_br rfl (fun c3 => ?_) (fun c3 => ?_)
          · refine z_auto rfl ?_
            refine z_jp rfl ?_
            have h2 := ih (i + 1) (by omega) l b (some (zi 0)) (by rw [step, gFs, if_neg (fun q => c3 q.1)])
            rw [nI_succ] at h2
            refine z_auto rfl ?_
            refine z_jp rfl ?_
            refine z_auto rfl ?_
            refine z_jp rfl ?_
            exact h2
          · have c3 := Classical.not_not.mp c3
            refine z_auto rfl ?_
            refine z_jp rfl ?_
            refine z_auto rfl ?_
            refine z_st rfl ?_
            refine z_auto rfl ?_
            refine z_ald (k := i) rfl rfl (by show i < 8; omega) ?_
            rw [zup_c (by decide)]
            refine z_auto rfl ?_
            refine z_br rfl (fun c4 => ?_) (fun c4 => ?_)
            · have h2 := ih (i + 1) (by omega) l b (some (zi 1)) (by rw [step, gFs, if_neg (fun q => c4 q.2)])
              rw [nI_succ] at h2
              refine z_auto rfl ?_
              refine z_jp rfl ?_
              exact h2
            · have c4 := Classical.not_not.mp c4
              have e : gFs (zLy I t) (I 3 0 5) sd (I 3 0 6) i (l, b) = (if 0 < l - ztak (I 20 0 i) (I 21 0 i) (I 22 0 i) (I 3 0 5) l (I 25 0 (i * 3 + t % 3)) then l - ztak (I 20 0 i) (I 21 0 i) (I 22 0 i) (I 3 0 5) l (I 25 0 (i * 3 + t % 3)) else 0, @ite _ (zbrk (I 20 0 i) (I 21 0 i) l) (Classical.propDecidable _) (b ||| (1 <<< (nI i &&& 31))) b) := by
                rw [gFs, if_pos ⟨c3, c4⟩]
                rfl
              refine z_auto rfl ?_
              refine z_cl rfl (s_takenBy (t := t) hi8 ht (by rw [zup_k (by decide)]; exact hty) (fun hb => ?_) (fun hb => ?_))
              · rw [g0 _ _ _ (by decide), g0 _ _ _ (by decide)] at hb
                rw [if_pos hb] at e
                rw [g0 20 0 i (by decide), g0 21 0 i (by decide), g0 22 0 i (by decide), g0 25 0 (i * 3 + t % 3) (by decide), r1, zup_eq, zup_zup]
                refine z_auto rfl ?_
                refine z_jp rfl ?_
                have h2 := ih (i + 1) (by omega) _ _ (some (zi 1)) (step.trans e).symm
                rw [nI_succ] at h2
                refine z_auto rfl ?_
                refine z_jp rfl ?_
                exact h2
              · rw [g0 _ _ _ (by decide), g0 _ _ _ (by decide)] at hb
                rw [if_neg hb] at e
                rw [g0 20 0 i (by decide), g0 21 0 i (by decide), g0 22 0 i (by decide), g0 25 0 (i * 3 + t % 3) (by decide), r1]
                refine z_auto rfl ?_
                refine z_jp rfl ?_
                have h2 := ih (i + 1) (by omega) _ _ (some (zi 1)) (step.trans e).symm
                rw [nI_succ] at h2
                refine z_auto rfl ?_
                refine z_jp rfl ?_
                exact h2
  have h5 := loop n 0 (by omega) bl (I 3 0 2) none rfl
  rw [zup_self] at h5
  refine z_auto rfl ?_
  refine z_jp rfl ?_
  exact h5
end
