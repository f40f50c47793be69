/-! what the class asks of itself: the school that holds, prices, falls -/
/-- the class's own state: k schools, the last with the clauses C; n layers; try t -/
def zCu (I : zMI) (k : Nat) (C : List zCl) (n t : Nat) : Prop := I 1 0 5 = nI k ∧ k ≤ 5 ∧ zES I (k + 1) C ∧ I 4 0 7 = nI n ∧ n ≤ 8 ∧ I 1 0 6 = nI t ∧ t ≤ 9999 ∧ (I 2 0 1 = 0 ∨ I 2 0 1 = 1)
theorem zCu_fr {I J : zMI} {k n t : Nat} {C : List zCl} (h : zFr I J) (hC : zCu I k C n t) : zCu J k C n t := by
  obtain ⟨e1, e2, e3, e4, e5, e6, e7, e8⟩ := hC
  refine ⟨?_, e2, zES_fr (fun c k hc => h c _ k (by omega) (by omega) (Or.inl (by omega))) e3, ?_, e5, ?_, e7, ?_⟩
  · rw [h 1 0 5 (by omega) (by omega) (Or.inl (by omega))]; exact e1
  · rw [h 4 0 7 (by omega) (by omega) (Or.inl (by omega))]; exact e4
  · rw [h 1 0 6 (by omega) (by omega) (Or.inl (by omega))]; exact e6
  · rw [h 2 0 1 (by omega) (by omega) (Or.inr (by omega))]; exact e8
theorem zLy_fr {I J : zMI} (h : zFr I J) (t : Nat) : zLy J t = zLy I t := by
  funext x k
  unfold zLy
  split <;> exact h _ _ _ (by omega) (by omega) (Or.inl (by omega))
theorem zFr_f {I J : zMI} (h : zFr I J) {c i : Nat} (h1 : c ≠ 3) (h2 : c ≠ 34) (h3 : c ≠ 2) : J c i = I c i := by
  funext k
  exact h c i k h1 h2 (Or.inl h3)
theorem fAll_fr {I J : zMI} (h : zFr I J) (C : List zCl) (n t : Nat) (f a add out : Int32) : fAll J C n t f a add out = fAll I C n t f a add out := by
  unfold fAll
  rw [zLy_fr h, zFr_f h (c := 23) (by omega) (by omega) (by omega), h 1 0 6 (by omega) (by omega) (Or.inl (by omega)), h 4 0 6 (by omega) (by omega) (Or.inl (by omega))]
/-- the force of a fall -/
noncomputable def fFo (I : zMI) (C : List zCl) (n t : Nat) (f a add out : Int32) : Int32 := if (fAll I C n t f a add out).2.1.1 < (fAll I C n t f a add out).2.1.2.1 then (fAll I C n t f a add out).2.1.2.1 else (fAll I C n t f a add out).2.1.1
/-- the egg behind it -/
noncomputable def fEg (I : zMI) (C : List zCl) (n t : Nat) (f a add out b : Int32) (s : Int32 × Int32) : Int32 × Int32 := zla2 (fAll I C n t f a add out).2.1.1 (fAll I C n t f a add out).2.1.2.1 (fAll I C n t f a add out).2.2 b s
/-- the latest fall is this one -/
def fPo (I J : zMI) (C : List zCl) (n t : Nat) (f a add out : Int32) : Prop := zFr I J ∧ J 3 0 1 = (fAll I C n t f a add out).1 ∧ J 3 0 7 = (fAll I C n t f a add out).2.1.1 ∧ J 3 0 8 = (fAll I C n t f a add out).2.1.2.1 ∧ J 3 0 2 = (fAll I C n t f a add out).2.1.2.2 ∧ J 3 0 9 = (fAll I C n t f a add out).2.2
section
variable {d : Nat} {I : zMI} {rl rs : Option (Nat × Nat)} {Q : zPQ} {k n t : Nat} {C : List zCl} {G : zMR}
set_option maxHeartbeats 4000000 in
set_option maxRecDepth 100000 in
theorem s_isFloor {x : Int32} (h1 : ∀ f, f ≤ 20 → x = nI f → Q (some (zi 1)) I G) (h0 : (x < 0 ∨ 20 < x) → Q (some (zi 0)) I G) : zWm d 93 [zi x] I G Q := by
  refine z_auto rfl ?_
  refine z_br rfl (fun c => ?_) (fun c => ?_)
  · refine z_auto rfl ?_
    refine z_jp rfl ?_
    refine z_auto rfl ?_
    exact z_rt rfl (h0 (Or.inl c))
  · refine z_auto rfl ?_
    refine z_br rfl (fun c2 => ?_) (fun c2 => ?_)
    · refine z_auto rfl ?_
      refine z_jp rfl ?_
      refine z_auto rfl ?_
      exact z_rt rfl (h0 (Or.inr c2))
    · obtain ⟨f, hf, rfl⟩ := nI_of c
      have hle : f ≤ 20 := by
        rcases Nat.lt_or_ge 20 f with q | q
        · exact absurd (nI_lt (a := 20) (b := f) q hf) c2
        · exact q
      refine z_auto rfl ?_
      refine z_jp rfl ?_
      refine z_auto rfl ?_
      exact z_rt rfl (h1 f hle rfl)
set_option maxHeartbeats 4000000 in
set_option maxRecDepth 100000 in
theorem s_isSide {x : Int32} (h1 : ∀ a, a < 4 → x = nI a → Q (some (zi 1)) I G) (h0 : (x < 0 ∨ 4 ≤ x) → Q (some (zi 0)) I G) : zWm d 94 [zi x] I G Q := by
  refine z_auto rfl ?_
  refine z_br rfl (fun c => ?_) (fun c => ?_)
  · refine z_auto rfl ?_
    refine z_jp rfl ?_
    refine z_auto rfl ?_
    exact z_rt rfl (h0 (Or.inl c))
  · refine z_auto rfl ?_
    refine z_br rfl (fun c2 => ?_) (fun c2 => ?_)
    · refine z_auto rfl ?_
      refine z_jp rfl ?_
      refine z_auto rfl ?_
      exact z_rt rfl (h0 (Or.inr c2))
    · obtain ⟨f, hf, rfl⟩ := nI_of c
      have hle : f < 4 := by
        rcases Nat.lt_or_ge f 4 with q | q
        · exact q
        · exact absurd (nI_le (a := 4) (b := f) q hf) c2
      refine z_auto rfl ?_
      refine z_jp rfl ?_
      refine z_auto rfl ?_
      exact z_rt rfl (h1 f hle rfl)
set_option maxHeartbeats 4000000 in
set_option maxRecDepth 100000 in
theorem s_isKind {x : Int32} (h1 : ∀ a, a < 7 → x = nI a → Q (some (zi 1)) I G) (h0 : (x < 0 ∨ 7 ≤ x) → Q (some (zi 0)) I G) : zWm d 95 [zi x] I G Q := by
  refine z_auto rfl ?_
  refine z_br rfl (fun c => ?_) (fun c => ?_)
  · refine z_auto rfl ?_
    refine z_jp rfl ?_
    refine z_auto rfl ?_
    exact z_rt rfl (h0 (Or.inl c))
  · refine z_auto rfl ?_
    refine z_br rfl (fun c2 => ?_) (fun c2 => ?_)
    · refine z_auto rfl ?_
      refine z_jp rfl ?_
      refine z_auto rfl ?_
      exact z_rt rfl (h0 (Or.inr c2))
    · obtain ⟨f, hf, rfl⟩ := nI_of c
      have hle : f < 7 := by
        rcases Nat.lt_or_ge f 7 with q | q
        · exact q
        · exact absurd (nI_le (a := 7) (b := f) q hf) c2
      refine z_auto rfl ?_
      refine z_jp rfl ?_
      refine z_auto rfl ?_
      exact z_rt rfl (h1 f hle rfl)
set_option maxHeartbeats 4000000 in
set_option maxRecDepth 100000 in
theorem s_holding (hk : I 1 0 5 = nI k) (hk5 : k ≤ 5) (h : Q (some (zr 6 (k + 1))) I (zRR rl rs)) : zWm d 96 [zr 9 0] I (zRR rl rs) Q := by
  refine z_auto rfl ?_
  refine z_br rfl (fun c => ?_) (fun c => ?_)
  · rw [hk] at c
    exact absurd c (nI_pos (by omega))
  · refine z_auto rfl ?_
    refine z_br rfl (fun c2 => ?_) (fun c2 => ?_)
    · rw [hk] at c2
      exact absurd c2 (nI_ge (a := k) (b := 6) (by omega) (by omega))
    · refine z_auto rfl ?_
      refine z_sld (k := k) rfl hk (by show k < 6; omega) ?_
      rw [zRR_50 (by omega)]
      refine z_auto rfl ?_
      refine z_jp rfl ?_
      refine z_auto rfl ?_
      exact z_rt rfl h
set_option maxHeartbeats 4000000 in
set_option maxRecDepth 100000 in
theorem s_bear (hC : zCu I k C n t) (h : Q (some (zi (zlast C 0 20))) I (zRR rl rs)) : zWm (d + 1) 97 [zr 9 0] I (zRR rl rs) Q := by
  obtain ⟨e1, e2, e3, -⟩ := hC
  refine z_auto rfl ?_
  refine z_cl rfl (s_holding e1 e2 ?_)
  refine z_auto rfl ?_
  refine z_cl rfl (s_last (w := 0) e3 (by omega) ?_)
  refine z_auto rfl ?_
  exact z_rt rfl h
/-- the price of a layer -/
def fPr (I : zMI) (C : List zCl) (l : Nat) : Nat := zcsum (fVal 0 (I 24 0 l) (I 20 0 l) (I 22 0 l) (I 1 0 6 - I 1 0 6 / 10 * 10)) C 3
theorem fPr_fr {I J : zMI} (h : zFr I J) (C : List zCl) (l : Nat) : fPr J C l = fPr I C l := by
  unfold fPr
  rw [h 24 0 l (by omega) (by omega) (Or.inl (by omega)), h 20 0 l (by omega) (by omega) (Or.inl (by omega)), h 22 0 l (by omega) (by omega) (Or.inl (by omega)), h 1 0 6 (by omega) (by omega) (Or.inl (by omega))]
set_option maxHeartbeats 4000000 in
set_option maxRecDepth 100000 in
theorem s_price (hC : zCu I k C n t) {l : Nat} (hl : l < n) (h : ∀ J, zFr I J → Q (some (zi (nI (fPr I C l)))) J (zRR rl rs)) : zWm (d + 3) 98 [zr 9 0, zi (nI l)] I (zRR rl rs) Q := by
  obtain ⟨e1, e2, e3, e4, e5, e6, e7, e8⟩ := hC
  have hl8 : l < 8 := by omega
  refine z_auto rfl ?_
  refine z_cl rfl (s_holding e1 e2 ?_)
  refine z_auto rfl ?_
  refine z_ald (k := l) rfl rfl (by show l < 8; omega) ?_
  refine z_auto rfl ?_
  refine z_ald (k := l) rfl rfl (by show l < 8; omega) ?_
  refine z_auto rfl ?_
  refine z_ald (k := l) rfl rfl (by show l < 8; omega) ?_
  refine z_auto rfl ?_
  first | refine z_st rfl ?_ | refine z_ck rfl (by decide) ?_
  refine z_auto rfl ?_
  refine z_cl rfl (s_setTest ?_)
  refine z_auto rfl ?_
  refine z_cl rfl (s_sum (C := C) (w := 3) (zES_fr (fun c k hc => by rcases hc with rfl | rfl | rfl | rfl | rfl <;> simp [zup]) e3) (by omega) (by omega) ?_)
  have hz : ∀ a b c e : Int32, zcsum ((zup (zup (zup (zup (zup I 34 (k + 1) 0 0) 34 (k + 1) 1 a) 34 (k + 1) 2 b) 34 (k + 1) 3 c) 34 (k + 1) 4 e) 34 (k + 1)) C 3 = zcsum (fVal 0 a b c e) C 3 := by
    intro a b c e
    refine zcsum_congr (fun k hk => ?_) C 3
    match k, hk with
    | 0, _ => simp [zup, fVal]
    | 1, _ => simp [zup, fVal]
    | 2, _ => simp [zup, fVal]
    | 3, _ => simp [zup, fVal]
    | 4, _ => simp [zup, fVal]
    | k + 5, h => exact absurd h (by omega)
  rw [hz]
  refine z_auto rfl ?_
  exact z_rt rfl (h _ (fun c i k a1 a2 _ => by simp [zup, a2]))
/-- the prices of the first m layers -/
def fPs (I : zMI) (C : List zCl) : Nat → Nat
  | 0 => 0
  | m + 1 => fPs I C m + fPr I C m
theorem fPs_fr {I J : zMI} (h : zFr I J) (C : List zCl) : ∀ l, fPs J C l = fPs I C l := by
  intro l
  induction l with
  | zero => rfl
  | succ l ih => rw [fPs, fPs, ih, fPr_fr h]
set_option maxHeartbeats 4000000 in
set_option maxRecDepth 100000 in
theorem s_prices (hC : zCu I k C n t) (h : ∀ J, zFr I J → Q (some (zi (nI (fPs I C n)))) J (zRR rl rs)) : zWm (d + 4) 99 [zr 9 0] I (zRR rl rs) Q := by
  have hn8 := hC.2.2.2.2.1
  have loop : ∀ m i, i + m = n → ∀ J, zFr I J → zW (d + 4) kX9_prices (zblk kX9_prices 1) [some (zr 9 0), some (zi (nI (fPs I C i))), some (zi (nI i))] [] J (zRR rl rs) Q := by
    intro m
    induction m with
    | zero =>
      intro i hi J hJ
      have hn := (zCu_fr hJ hC).2.2.2.1
      have : i = n := by omega
      subst this
      refine z_auto rfl ?_
      refine z_br rfl (fun c => ?_) (fun c => ?_)
      · refine z_auto rfl ?_
        exact z_rt rfl (h J hJ)
      · rw [hn] at c
        exact absurd (nI_le (Nat.le_refl _) (by omega)) c
    | succ m ih =>
      intro i hi J hJ
      have hC2 := zCu_fr hJ hC
      have hn := hC2.2.2.2.1
      refine z_auto rfl ?_
      refine z_br rfl (fun c => ?_) (fun c => ?_)
      · rw [hn] at c
        exact absurd c (nI_ge (by omega) (by omega))
      · refine z_auto rfl ?_
        refine z_br rfl (fun c8 => ?_) (fun c8 => ?_)
        · exact absurd c8 (nI_ge (a := i) (b := 8) (by omega) (by omega))
        · refine z_auto rfl ?_
          refine z_cl rfl (s_price hC2 (l := i) (by omega) (fun K hK => ?_))
          have h2 := ih (i + 1) (by omega) K (hJ.tr hK)
          rw [fPs, nI_succ] at h2
          rw [fPr_fr hJ]
          refine z_auto rfl ?_
          rw [nI_add]
          refine z_auto rfl ?_
          refine z_jp rfl ?_
          exact h2
  refine z_auto rfl ?_
  refine z_jp rfl ?_
  exact loop n 0 (by omega) I zFr.rf
set_option maxHeartbeats 4000000 in
set_option maxRecDepth 100000 in
theorem s_letFall (hC : zCu I k C n t) {f a add out : Int32} (h : ∀ J, fPo I J C n t f a add out → (J 2 2 0, J 2 2 1) = fEg I C n t f a add out (zlast C 0 20) (I 2 0 0, I 2 0 1) → Q none J (zRR (some (4, 0)) rs)) : zWm (d + 4) 100 [zr 9 0, zi f, zi a, zi add, zi out] I (zRR rl rs) Q := by
  have hC0 := hC
  obtain ⟨e1, e2, e3, e4, e5, e6, e7, e8⟩ := hC
  refine z_auto rfl ?_
  refine z_cl rfl (s_holding e1 e2 ?_)
  refine z_auto rfl ?_
  refine z_cl rfl (s_happen e3 e4 e5 (by omega) e6 (fun J hJ g0 g1 g2 g3 g4 g5 => ?_))
  have hC2 := zCu_fr hJ hC0
  refine z_auto rfl ?_
  refine z_cl rfl (s_bear hC2 ?_)
  refine z_auto rfl ?_
  refine z_cl rfl (s_meet hC2.2.2.2.2.2.2.2 ?_)
  rw [hJ 2 0 0 (by omega) (by omega) (Or.inr (by omega)), hJ 2 0 1 (by omega) (by omega) (Or.inr (by omega)), g2, g3, g5]
  refine z_auto rfl ?_
  exact z_rt rfl (h _ ⟨fun c i k a1 a2 a3 => by
    rw [← hJ c i k a1 a2 a3]
    rcases a3 with a3 | a3
    · simp [zup, a3]
    · simp [zup, a3], by rw [← g1]; simp [zup], by rw [← g2]; simp [zup], by rw [← g3]; simp [zup], by rw [← g4]; simp [zup], by rw [← g5]; simp [zup]⟩ (by simp [zup, fEg]))
set_option maxHeartbeats 4000000 in
set_option maxRecDepth 100000 in
theorem s_staysWhole (hC : zCu I k C n t) {f a add out : Int32} (h1 : ∀ J, fPo I J C n t f a add out → (fEg I C n t f a add out (zlast C 0 20) (I 2 0 0, I 2 0 1)).2 = 1 → Q (some (zi 1)) J (zRR (some (4, 0)) rs)) (h0 : ∀ J, fPo I J C n t f a add out → (fEg I C n t f a add out (zlast C 0 20) (I 2 0 0, I 2 0 1)).2 = 0 → Q (some (zi 0)) J (zRR (some (4, 0)) rs)) : zWm (d + 5) 101 [zr 9 0, zi f, zi a, zi add, zi out] I (zRR rl rs) Q := by
  have hld : ∀ x b (s : Int32 × Int32), (s.2 = 0 ∨ s.2 = 1) → ((zld x b s).2 = 0 ∨ (zld x b s).2 = 1) := by
    intro x b s hs
    unfold zld
    split
    · exact hs
    · split
      · split
        · exact hs
        · exact hs
      · exact Or.inl rfl
  have hw : (fEg I C n t f a add out (zlast C 0 20) (I 2 0 0, I 2 0 1)).2 = 0 ∨ (fEg I C n t f a add out (zlast C 0 20) (I 2 0 0, I 2 0 1)).2 = 1 := by
    unfold fEg zla2
    split
    · exact hld _ _ _ hC.2.2.2.2.2.2.2
    · exact hld _ _ _ (hld _ _ _ hC.2.2.2.2.2.2.2)
  refine z_auto rfl ?_
  refine z_cl rfl (s_letFall hC (fun J hJ he => ?_))
  have h2 : J 2 2 1 = (fEg I C n t f a add out (zlast C 0 20) (I 2 0 0, I 2 0 1)).2 := by rw [← he]
  refine z_auto rfl ?_
  rw [h2]
  rcases hw with hw | hw
  · rw [hw]
    refine z_auto rfl ?_
    exact z_rt rfl (h0 J hJ hw)
  · rw [hw]
    refine z_auto rfl ?_
    exact z_rt rfl (h1 J hJ hw)
set_option maxHeartbeats 4000000 in
set_option maxRecDepth 100000 in
theorem s_forceOf (hC : zCu I k C n t) {f a : Int32} (h : ∀ J, fPo I J C n t f a 0 0 → Q (some (zi (fFo I C n t f a 0 0))) J (zRR (some (4, 0)) rs)) : zWm (d + 4) 102 [zr 9 0, zi f, zi a] I (zRR rl rs) Q := by
  have hC0 := hC
  obtain ⟨e1, e2, e3, e4, e5, e6, e7, e8⟩ := hC
  refine z_auto rfl ?_
  refine z_cl rfl (s_holding e1 e2 ?_)
  refine z_auto rfl ?_
  refine z_cl rfl (s_happen e3 e4 e5 (by omega) e6 (fun J hJ g0 g1 g2 g3 g4 g5 => ?_))
  refine z_auto rfl ?_
  refine z_cl rfl (s_force ?_)
  rw [g2, g3]
  refine z_auto rfl ?_
  exact z_rt rfl (h _ ⟨hJ, g1, g2, g3, g4, g5⟩)
end
