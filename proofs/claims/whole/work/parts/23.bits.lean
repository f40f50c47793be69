/-! bits (rows of kit/laws/BITS.to-paste, and more) -/
def bt (x : Int32) (i : Nat) : Bool := x.toBitVec.getLsbD i
theorem b_ext {x y : Int32} (h : ∀ i, i < 32 → bt x i = bt y i) : x = y := Int32.toBitVec_inj.mp (BitVec.eq_of_getLsbD_eq (fun i hi => h i hi))
theorem b_or (x y : Int32) (i : Nat) : bt (x ||| y) i = (bt x i || bt y i) := by unfold bt; rw [Int32.toBitVec_or, BitVec.getLsbD_or]
theorem b_and (x y : Int32) (i : Nat) : bt (x &&& y) i = (bt x i && bt y i) := by unfold bt; rw [Int32.toBitVec_and, BitVec.getLsbD_and]
theorem b_xor (x y : Int32) (i : Nat) : bt (x ^^^ y) i = (bt x i ^^ bt y i) := by unfold bt; rw [Int32.toBitVec_xor, BitVec.getLsbD_xor]
theorem b_big {x : Int32} {i : Nat} (h : 32 ≤ i) : bt x i = false := BitVec.getLsbD_of_ge _ _ h
theorem b_m1 : ∀ i, i < 32 → bt (-1) i = true := by decide +kernel
theorem b_0 (i : Nat) : bt 0 i = false := BitVec.getLsbD_zero
theorem s_l : ∀ n, n < 32 → ((nI n &&& 31).toBitVec.smod 32).toNat = n := by decide +kernel
theorem b_shl (n : Nat) (hn : n < 32) (x : Int32) {i : Nat} (hi : i < 32) : bt (x <<< (nI n &&& 31)) i = (decide (n ≤ i) && bt x (i - n)) := by
  unfold bt
  rw [Int32.toBitVec_shiftLeft]
  show (x.toBitVec <<< ((nI n &&& 31).toBitVec.smod 32).toNat).getLsbD i = _
  rw [s_l n hn, BitVec.getLsbD_shiftLeft]
  rcases Nat.lt_or_ge i n with h | h
  · simp [h, Nat.not_le.mpr h]
  · simp [hi, h, Nat.not_lt.mpr h]
theorem b_sshr (n : Nat) (hn : n < 32) (x : Int32) {i : Nat} (hi : i < 32) : bt (x >>> (nI n &&& 31)) i = if n + i < 32 then bt x (n + i) else bt x 31 := by
  unfold bt
  rw [Int32.toBitVec_shiftRight]
  show (x.toBitVec.sshiftRight ((nI n &&& 31).toBitVec.smod 32).toNat).getLsbD i = _
  rw [s_l n hn, BitVec.getLsbD_sshiftRight, BitVec.msb_eq_getLsbD_last]
  simp [hi]
theorem b_one : ∀ i, i < 32 → bt 1 i = decide (i = 0) := by decide +kernel
theorem b_m2 : ∀ i, i < 32 → bt (-2) i = decide (0 < i) := by decide +kernel
theorem b_a1 (x : Int32) : x &&& 1 = if bt x 0 = true then 1 else 0 := by
  apply b_ext
  intro i hi
  rw [b_and, b_one i hi]
  by_cases h0 : i = 0
  · subst h0
    cases bt x 0 <;> rfl
  · rw [decide_eq_false h0, Bool.and_false]
    cases bt x 0
    · exact (b_0 i).symm
    · show false = bt 1 i
      rw [b_one i hi, decide_eq_false h0]
theorem b_bit0 (x : Int32) {k : Nat} (hk : k < 32) : (x >>> (nI k &&& 31)) &&& 1 = 0 ↔ bt x k = false := by
  rw [b_a1, b_sshr k hk x (i := 0) (by omega), Nat.add_zero, if_pos hk]
  cases bt x k <;> decide
theorem b_bit1 (x : Int32) {k : Nat} (hk : k < 32) : (x >>> (nI k &&& 31)) &&& 1 = 1 ↔ bt x k = true := by
  rw [b_a1, b_sshr k hk x (i := 0) (by omega), Nat.add_zero, if_pos hk]
  cases bt x k <;> decide
theorem b_sh1 (k : Nat) (hk : k < 32) {i : Nat} (hi : i < 32) : bt ((1 : Int32) <<< (nI k &&& 31)) i = decide (i = k) := by
  rw [b_shl k hk 1 hi]
  rcases Nat.lt_or_ge i k with h | h
  · rw [decide_eq_false (by omega), Bool.false_and, decide_eq_false (by omega)]
  · rw [b_one _ (by omega), decide_eq_true h, Bool.true_and]
    by_cases e : i = k
    · rw [decide_eq_true (by omega), decide_eq_true e]
    · rw [decide_eq_false (by omega), decide_eq_false e]
/-- the low bits of x are the stack, its top first -/
def zrep (st : List Bool) (x : Int32) : Prop := st.length ≤ 31 ∧ ∀ i b, st[i]? = some b → bt x i = b
theorem zix {α : Type} {st : List α} {i : Nat} {b : α} (h : st[i]? = some b) : i < st.length := (List.getElem?_eq_some_iff.mp h).1
theorem zrep_push {st : List Bool} {x : Int32} (h : zrep st x) (hl : st.length < 31) (b : Bool) : zrep (b :: st) ((x <<< ((1 : Int32) &&& 31)) ||| (if b = true then 1 else 0)) := by
  refine ⟨by simp; omega, fun i c hc => ?_⟩
  have hi := zix hc
  simp only [List.length_cons] at hi
  have hs : bt (x <<< ((1 : Int32) &&& 31)) i = (decide (1 ≤ i) && bt x (i - 1)) := b_shl 1 (by omega) x (by omega)
  rw [b_or, hs]
  cases i with
  | zero =>
    cases hc
    cases b
    · simp [b_0]
    · simp [b_one 0 (by omega)]
  | succ i =>
    have h1 := h.2 i c hc
    have h2 : bt (if b = true then (1 : Int32) else 0) (i + 1) = false := by
      cases b
      · exact b_0 _
      · exact (b_one (i + 1) (by omega)).trans (decide_eq_false (by omega))
    rw [h2, Bool.or_false, decide_eq_true (by omega), Bool.true_and]
    exact h1
theorem zrep_not {b : Bool} {st : List Bool} {x : Int32} (h : zrep (b :: st) x) : zrep ((!b) :: st) (x ^^^ 1) := by
  refine ⟨h.1, fun i c hc => ?_⟩
  have hi := zix hc
  have hl := h.1
  simp only [List.length_cons] at hi hl
  rw [b_xor, b_one i (by omega)]
  cases i with
  | zero =>
    cases hc
    rw [h.2 0 b rfl]
    cases b <;> rfl
  | succ i =>
    rw [h.2 (i + 1) c hc, decide_eq_false (by omega)]
    cases c <;> rfl
theorem zrep_shr {b a : Bool} {st : List Bool} {x : Int32} (h : zrep (b :: a :: st) x) : zrep (a :: st) (x >>> ((1 : Int32) &&& 31)) := by
  have hl := h.1
  simp only [List.length_cons] at hl
  refine ⟨by simp; omega, fun i c hc => ?_⟩
  have hi := zix hc
  simp only [List.length_cons] at hi
  have hs : bt (x >>> ((1 : Int32) &&& 31)) i = if 1 + i < 32 then bt x (1 + i) else bt x 31 := b_sshr 1 (by omega) x (by omega)
  rw [hs, if_pos (by omega), Nat.add_comm]
  exact h.2 (i + 1) c hc
theorem zrep_and {b a : Bool} {st : List Bool} {x : Int32} (h : zrep (b :: a :: st) x) : zrep ((a && b) :: st) ((x >>> ((1 : Int32) &&& 31)) &&& ((x &&& 1) ||| (-2))) := by
  have h2 := zrep_shr h
  have hl := h.1
  simp only [List.length_cons] at hl
  refine ⟨by simp; omega, fun i c hc => ?_⟩
  have hi := zix hc
  simp only [List.length_cons] at hi
  rw [b_and, b_or, b_and, b_one i (by omega), b_m2 i (by omega)]
  cases i with
  | zero =>
    cases hc
    rw [h2.2 0 a rfl, h.2 0 b rfl]
    cases a <;> cases b <;> rfl
  | succ i =>
    rw [h2.2 (i + 1) c hc]
    simp
theorem zrep_or {b a : Bool} {st : List Bool} {x : Int32} (h : zrep (b :: a :: st) x) : zrep ((a || b) :: st) ((x >>> ((1 : Int32) &&& 31)) ||| (x &&& 1)) := by
  have h2 := zrep_shr h
  have hl := h.1
  simp only [List.length_cons] at hl
  refine ⟨by simp; omega, fun i c hc => ?_⟩
  have hi := zix hc
  simp only [List.length_cons] at hi
  rw [b_or, b_and, b_one i (by omega)]
  cases i with
  | zero =>
    cases hc
    rw [h2.2 0 a rfl, h.2 0 b rfl]
    cases a <;> cases b <;> rfl
  | succ i =>
    rw [h2.2 (i + 1) c hc]
    simp
theorem zok1_len {v : Nat → Int32} {st : List Bool} {t h : Nat} (hk : zok1 st.length t = some h) : (zev1 v t st).length = h ∧ (t < 1500 ∨ t = 1500 ∨ t = 1501 ∨ t = 1502) := by
  unfold zok1 at hk
  by_cases h1 : t < 1500
  · rw [if_pos h1] at hk
    by_cases h2 : st.length < 30
    · rw [if_pos h2] at hk
      cases hk
      refine ⟨?_, Or.inl h1⟩
      rcases st with _ | ⟨b, _ | ⟨a, r⟩⟩ <;> simp [zev1, h1]
    · rw [if_neg h2] at hk; cases hk
  · rw [if_neg h1] at hk
    by_cases h2 : t = 1500
    · rw [if_pos h2] at hk
      by_cases h3 : 1 ≤ st.length
      · rw [if_pos h3] at hk
        cases hk
        refine ⟨?_, Or.inr (Or.inl h2)⟩
        subst h2
        rcases st with _ | ⟨b, _ | ⟨a, r⟩⟩
        · simp at h3
        · simp [zev1]
        · simp [zev1]
      · rw [if_neg h3] at hk; cases hk
    · rw [if_neg h2] at hk
      by_cases h3 : t = 1501 ∨ t = 1502
      · rw [if_pos h3] at hk
        by_cases h4 : 2 ≤ st.length
        · rw [if_pos h4] at hk
          cases hk
          refine ⟨?_, Or.inr (Or.inr h3)⟩
          rcases st with _ | ⟨b, _ | ⟨a, r⟩⟩
          · simp at h4
          · simp at h4
          · rcases h3 with rfl | rfl <;> simp [zev1]
        · rw [if_neg h4] at hk; cases hk
      · rw [if_neg h3] at hk; cases hk
section
variable {d : Nat} {I : zMI} {rl rs : Option (Nat × Nat)} {Q : zPQ} {j : Nat}
set_option maxHeartbeats 4000000 in
set_option maxRecDepth 100000 in
theorem s_holds {p : List Nat} {o0 e : Nat} (hp : ∀ k t, p[k]? = some t → I 33 j (o0 + k) = zcs t) (he : o0 + p.length = e) (he2 : e ≤ 100) (hk : zok 0 p = some 1) (h1 : zcB (I 34 j) p = true → Q (some (zi 1)) I (zRR rl rs)) (h0 : zcB (I 34 j) p = false → Q (some (zi 0)) I (zRR rl rs)) : zWm (d + 1) 55 [zr 6 j, zi (nI o0), zi (nI e)] I (zRR rl rs) Q := by
  have loop : ∀ (q : List Nat) (o : Nat) (st : List Bool) (x : Int32) (u5 u6 : Option zAV), zrep st x → zok st.length q = some 1 → (∀ k t, q[k]? = some t → I 33 j (o + k) = zcs t) → o + q.length = e → zev (I 34 j) q st = zev (I 34 j) p [] → zW (d + 1) kX6_holds (zblk kX6_holds 1) [some (zr 6 j), some (zi (nI o0)), some (zi (nI e)), some (zi x), some (zi (nI o)), u5, u6] [] I (zRR rl rs) Q := by
    intro q
    induction q with
    | nil =>
      intro o st x u5 u6 hr hz hq ho hv
      have hoe : o = e := by simpa using ho
      subst hoe
      have hz : st.length = 1 := Option.some.inj hz
      obtain ⟨b, rfl⟩ : ∃ b, st = [b] := by
        rcases st with _ | ⟨b, _ | ⟨a, r⟩⟩
        · cases hz
        · exact ⟨b, rfl⟩
        · simp at hz
      have hb : zcB (I 34 j) p = b := by
        unfold zcB
        rw [← hv]
        rfl
      have hx := hr.2 0 b rfl
      refine z_auto rfl ?_
      refine z_br rfl (fun c => ?_) (fun c => ?_)
      · exact absurd c (nI_pos (by omega))
      · refine z_auto rfl ?_
        refine z_br rfl (fun c2 => ?_) (fun c2 => ?_)
        · refine z_auto rfl ?_
          refine z_br rfl (fun c3 => ?_) (fun c3 => ?_)
          · rw [b_a1, hx] at c3
            refine z_auto rfl ?_
            refine z_jp rfl ?_
            refine z_auto rfl ?_
            exact z_rt rfl (h0 (by
              rw [hb]
              cases b
              · rfl
              · exact absurd rfl c3))
          · rw [b_a1, hx] at c3
            refine z_auto rfl ?_
            refine z_jp rfl ?_
            refine z_auto rfl ?_
            exact z_rt rfl (h1 (by
              rw [hb]
              cases b
              · exact absurd (by decide) c3
              · rfl))
        · exact absurd (nI_le (Nat.le_refl _) (by omega)) c2
    | cons t q ih =>
      intro o st x u5 u6 hr hz hq ho hv
      have ho2 : o + 1 + q.length = e := by simp only [List.length_cons] at ho; omega
      have ht := hq 0 t rfl
      rw [Nat.add_zero] at ht
      have hq2 : ∀ k u, q[k]? = some u → I 33 j (o + 1 + k) = zcs u := by
        intro k u hku
        have := hq (k + 1) u hku
        rw [show o + (k + 1) = o + 1 + k by omega] at this
        exact this
      have hv2 : zev (I 34 j) q (zev1 (I 34 j) t st) = zev (I 34 j) p [] := hv
      obtain ⟨h', hz1, hz2⟩ : ∃ h', zok1 st.length t = some h' ∧ zok h' q = some 1 := by
        rw [zok] at hz
        cases hh : zok1 st.length t with
        | none => rw [hh] at hz; cases hz
        | some h' => rw [hh] at hz; exact ⟨h', rfl, hz⟩
      obtain ⟨hl, ht4⟩ := zok1_len (v := I 34 j) hz1
      rw [← hl] at hz2
      refine z_auto rfl ?_
      refine z_br rfl (fun c => ?_) (fun c => ?_)
      · exact absurd c (nI_pos (by omega))
      · refine z_auto rfl ?_
        refine z_br rfl (fun c2 => ?_) (fun c2 => ?_)
        · exact absurd c2 (nI_ge (by omega) (by omega))
        · refine z_auto rfl ?_
          refine z_br rfl (fun c3 => ?_) (fun c3 => ?_)
          · exact absurd c3 (nI_ge (a := o) (b := 100) (by omega) (by omega))
          · refine z_auto rfl ?_
            refine z_ald (k := o) rfl rfl (by show o < 100; omega) ?_
            rw [ht]
            rcases ht4 with h4 | rfl | rfl | rfl
            · have e1 : zcs t = nI t := by unfold zcs; rw [if_pos h4]
              have hl30 : st.length < 30 := by
                unfold zok1 at hz1
                rw [if_pos h4] at hz1
                by_cases q : st.length < 30
                · exact q
                · rw [if_neg q] at hz1; cases hz1
              have e2 : zev1 (I 34 j) t st = ztest (I 34 j) t :: st := by
                rcases st with _ | ⟨b, _ | ⟨a, r⟩⟩ <;> simp [zev1, h4]
              rw [e1]
              refine z_auto rfl ?_
              refine z_br rfl (fun c4 => ?_) (fun c4 => ?_)
              · exact absurd c4 (nI_pos (by omega))
              · refine z_auto rfl ?_
                refine z_cl rfl (s_passes h4 (fun hb => ?_) (fun hb => ?_))
                · refine z_auto rfl ?_
                  refine z_st rfl ?_
                  refine z_auto rfl ?_
                  refine z_jp rfl ?_
                  refine z_auto rfl ?_
                  refine z_jp rfl ?_
                  refine z_auto rfl ?_
                  refine z_jp rfl ?_
                  have h5 := ih (o + 1) _ ((x <<< ((1 : Int32) &&& 31)) ||| 1) (some (zi (nI t))) (some (zi (x &&& 1))) (by
                    have := zrep_push hr (by omega) true
                    rw [e2, hb]
                    exact this) hz2 hq2 ho2 hv2
                  rw [nI_succ] at h5
                  exact h5
                · refine z_auto rfl ?_
                  refine z_jp rfl ?_
                  refine z_auto rfl ?_
                  refine z_jp rfl ?_
                  refine z_auto rfl ?_
                  refine z_jp rfl ?_
                  refine z_auto rfl ?_
                  refine z_jp rfl ?_
                  have h5 := ih (o + 1) _ ((x <<< ((1 : Int32) &&& 31)) ||| 0) (some (zi (nI t))) (some (zi (x &&& 1))) (by
                    have := zrep_push hr (by omega) false
                    rw [e2, hb]
                    exact this) hz2 hq2 ho2 hv2
                  rw [nI_succ] at h5
                  exact h5
            · have e1 : zcs 1500 = -1 := by decide
              rw [e1]
              obtain ⟨b, r, rfl⟩ : ∃ b r, st = b :: r := by
                rcases st with _ | ⟨b, r⟩
                · simp [zok1] at hz1
                · exact ⟨b, r, rfl⟩
              have e2 : zev1 (I 34 j) 1500 (b :: r) = (!b) :: r := by
                rcases r with _ | ⟨a, r⟩ <;> simp [zev1]
              refine z_auto rfl ?_
              refine z_jp rfl ?_
              refine z_auto rfl ?_
              refine z_st rfl ?_
              refine z_auto rfl ?_
              refine z_jp rfl ?_
              refine z_auto rfl ?_
              refine z_jp rfl ?_
              have h5 := ih (o + 1) _ (x ^^^ 1) (some (zi (-1))) (some (zi (x &&& 1))) (by rw [e2]; exact zrep_not hr) hz2 hq2 ho2 hv2
              rw [nI_succ] at h5
              exact h5
            · have e1 : zcs 1501 = -2 := by decide
              rw [e1]
              obtain ⟨b, a, r, rfl⟩ : ∃ b a r, st = b :: a :: r := by
                rcases st with _ | ⟨b, _ | ⟨a, r⟩⟩
                · simp [zok1] at hz1
                · simp [zok1] at hz1
                · exact ⟨b, a, r, rfl⟩
              have e2 : zev1 (I 34 j) 1501 (b :: a :: r) = (a && b) :: r := by simp [zev1]
              refine z_auto rfl ?_
              refine z_jp rfl ?_
              refine z_auto rfl ?_
              refine z_jp rfl ?_
              refine z_auto rfl ?_
              refine z_st rfl ?_
              refine z_auto rfl ?_
              refine z_jp rfl ?_
              refine z_auto rfl ?_
              refine z_jp rfl ?_
              have h5 := ih (o + 1) _ ((x >>> ((1 : Int32) &&& 31)) &&& ((x &&& 1) ||| (-2))) (some (zi (-2))) (some (zi (x &&& 1))) (by rw [e2]; exact zrep_and hr) hz2 hq2 ho2 hv2
              rw [nI_succ] at h5
              exact h5
            · have e1 : zcs 1502 = -3 := by decide
              rw [e1]
              obtain ⟨b, a, r, rfl⟩ : ∃ b a r, st = b :: a :: r := by
                rcases st with _ | ⟨b, _ | ⟨a, r⟩⟩
                · simp [zok1] at hz1
                · simp [zok1] at hz1
                · exact ⟨b, a, r, rfl⟩
              have e2 : zev1 (I 34 j) 1502 (b :: a :: r) = (a || b) :: r := by simp [zev1]
              refine z_auto rfl ?_
              refine z_jp rfl ?_
              refine z_auto rfl ?_
              refine z_jp rfl ?_
              refine z_auto rfl ?_
              refine z_jp rfl ?_
              refine z_auto rfl ?_
              refine z_jp rfl ?_
              refine z_auto rfl ?_
              refine z_jp rfl ?_
              have h5 := ih (o + 1) _ ((x >>> ((1 : Int32) &&& 31)) ||| (x &&& 1)) (some (zi (-3))) (some (zi (x &&& 1))) (by rw [e2]; exact zrep_or hr) hz2 hq2 ho2 hv2
              rw [nI_succ] at h5
              exact h5
  refine z_auto rfl ?_
  refine z_jp rfl ?_
  exact loop p o0 [] 0 none none ⟨by simp, fun i b h => by simp at h⟩ hk hp he rfl
theorem zend_0 (C : List zCl) : zend C 0 = 0 := by cases C <;> rfl
theorem zend_le : ∀ (C : List zCl) (i : Nat), zend C i ≤ (zflat C).length := by
  intro C
  induction C with
  | nil => intro i; cases i <;> simp [zend]
  | cons c C ih =>
    intro i
    cases i with
    | zero => simp [zend]
    | succ i => have := ih i; simp [zend, zflat] at this ⊢; omega
theorem zflat_at : ∀ (C : List zCl) (i : Nat) (c : zCl), C[i]? = some c → zend C (i + 1) = zend C i + c.2.2.length ∧ ∀ k t, c.2.2[k]? = some t → (zflat C)[zend C i + k]? = some t := by
  intro C
  induction C with
  | nil => intro i c h; simp at h
  | cons a C ih =>
    intro i c h
    cases i with
    | zero =>
      cases h
      refine ⟨by simp [zend], fun k t hk => ?_⟩
      have hlt := zix hk
      simp only [zend, zflat, List.flatMap_cons, Nat.zero_add]
      rw [List.getElem?_append_left hlt]
      exact hk
    | succ i =>
      obtain ⟨h1, h2⟩ := ih i c h
      refine ⟨by simp only [zend] at h1 ⊢; omega, fun k t hk => ?_⟩
      have := h2 k t hk
      simp only [zend, zflat, List.flatMap_cons] at this ⊢
      rw [List.getElem?_append_right (by omega), show a.2.2.length + zend C i + k - a.2.2.length = zend C i + k by omega]
      exact this
theorem zcsum_snoc (v : Nat → Int32) (C : List zCl) (c : zCl) (w : Nat) : zcsum v (C ++ [c]) w = zcsum v C w + (if c.1 = w ∧ zcB v c.2.2 = true then c.2.1 else 0) := by
  induction C with
  | nil => simp [zcsum]
  | cons a C ih => simp only [List.cons_append, zcsum, ih]; omega
set_option maxHeartbeats 4000000 in
set_option maxRecDepth 100000 in
theorem s_sum {C : List zCl} (hE : zES I j C) {w : Nat} (hw : 2 ≤ w) (hw3 : w ≤ 3) (h : Q (some (zi (nI (zcsum (I 34 j) C w)))) I (zRR rl rs)) : zWm (d + 2) 54 [zr 6 j, zi (nI w)] I (zRR rl rs) Q := by
  obtain ⟨e1, e2, e3, e4, e5, e6⟩ := hE
  have loop : ∀ k i, i + k = C.length → zW (d + 2) kX6_sum (zblk kX6_sum 1) [some (zr 6 j), some (zi (nI w)), some (zi (nI (zcsum (I 34 j) (C.take i) w))), some (zi (nI (zend C i))), some (zi (nI i))] [] I (zRR rl rs) Q := by
    intro k
    induction k with
    | zero =>
      intro i hi
      refine z_auto rfl ?_
      refine z_br rfl (fun c => ?_) (fun c => ?_)
      · have : i = C.length := by omega
        subst this
        rw [List.take_length]
        refine z_auto rfl ?_
        exact z_rt rfl h
      · exact absurd (by rw [e1]; exact nI_le (by omega) (by omega)) c
    | succ k ih =>
      intro i hi
      refine z_auto rfl ?_
      refine z_br rfl (fun c => ?_) (fun c => ?_)
      · rw [e1] at c
        exact absurd c (nI_ge (by omega) (by omega))
      · refine z_auto rfl ?_
        refine z_br rfl (fun c2 => ?_) (fun c2 => ?_)
        · exact absurd c2 (nI_ge (a := i) (b := 10) (by omega) (by omega))
        · have hlt : i < C.length := by omega
          have hg : C[i]? = some C[i] := List.getElem?_eq_getElem hlt
          obtain ⟨g1, g2, g3⟩ := e5 i _ hg
          obtain ⟨w1, w2, w3⟩ := e4 _ (List.getElem_mem hlt)
          obtain ⟨f1, f2⟩ := zflat_at C i _ hg
          have f3 := zend_le C (i + 1)
          have h2 := ih (i + 1) (by omega)
          rw [List.take_succ, hg, Option.toList_some, zcsum_snoc, nI_succ i] at h2
          refine z_auto rfl ?_
          refine z_ald (k := i) rfl rfl (by show i < 10; omega) ?_
          rw [g1]
          refine z_auto rfl ?_
          refine z_br rfl (fun c3 => ?_) (fun c3 => ?_)
          · rw [if_neg (fun q => c3 (by rw [q.1])), Nat.add_zero] at h2
            refine z_auto rfl ?_
            refine z_ald (k := i) rfl rfl (by show i < 10; omega) ?_
            rw [g3]
            refine z_auto rfl ?_
            refine z_jp rfl ?_
            exact h2
          · have hq : C[i].1 = w := (nI_eq (by omega) (by omega)).mp (Classical.not_not.mp c3)
            refine z_auto rfl ?_
            refine z_ald (k := i) rfl rfl (by show i < 10; omega) ?_
            rw [g3]
            have hz : zok 0 C[i].2.2 = some 1 := by
              rcases w3 with w3 | w3
              · omega
              · exact w3.2
            refine z_auto rfl ?_
            refine z_cl rfl (s_holds (p := C[i].2.2) (fun k t hk => e6 _ _ (f2 k t hk)) (by omega) (by omega) hz (fun hb => ?_) (fun hb => ?_))
            · rw [if_pos ⟨hq, hb⟩] at h2
              refine z_auto rfl ?_
              refine z_st rfl ?_
              refine z_auto rfl ?_
              refine z_ald (k := i) rfl rfl (by show i < 10; omega) ?_
              rw [g2]
              refine z_auto rfl ?_
              refine z_jp rfl ?_
              refine z_auto rfl ?_
              refine z_ald (k := i) rfl rfl (by show i < 10; omega) ?_
              rw [g3, nI_add]
              refine z_auto rfl ?_
              refine z_jp rfl ?_
              exact h2
            · rw [if_neg (fun q => by rw [hb] at q; exact absurd q.2 (by decide)), Nat.add_zero] at h2
              refine z_auto rfl ?_
              refine z_jp rfl ?_
              refine z_auto rfl ?_
              refine z_ald (k := i) rfl rfl (by show i < 10; omega) ?_
              rw [g3]
              refine z_auto rfl ?_
              refine z_jp rfl ?_
              exact h2
  have h5 := loop C.length 0 (by omega)
  rw [zend_0, List.take_zero] at h5
  refine z_auto rfl ?_
  refine z_jp rfl ?_
  exact h5
end
