/-! strong -/
def fLe (p : Nat → Bool) : Nat → Int32
  | 0 => -5
  | i + 1 => if p i = true then (if fLe p i = -5 then nI i else fLe p i) else fLe p i
def fGr (p : Nat → Bool) : Nat → Int32
  | 0 => -5
  | i + 1 => if p i = true then nI i else fGr p i
theorem n_5 {i : Nat} (h : i < 2147483648) : ¬ nI i = -5 := fun q => nI_pos h (by rw [q]; decide)
theorem fLe_0 {p : Nat → Bool} : ∀ i, (∀ g, g < i → p g = false) → fLe p i = -5 ∧ fGr p i = -5
  | 0, _ => ⟨rfl, rfl⟩
  | i + 1, h => by
    obtain ⟨h1, h2⟩ := fLe_0 i (fun g hg => h g (by omega))
    rw [fLe, fGr, h i (Nat.lt_succ_self i)]
    exact ⟨h1, h2⟩
theorem fLe_1 {p : Nat → Bool} {r : Nat} (hr : r < 100) (h0 : ∀ g, g < r → p g = false) (h1 : p r = true) : ∀ i, fLe p (r + 1 + i) = nI r
  | 0 => by
    rw [Nat.add_zero, fLe, h1, if_pos rfl, (fLe_0 r h0).1, if_pos rfl]
  | i + 1 => by
    rw [show r + 1 + (i + 1) = r + 1 + i + 1 by omega, fLe, fLe_1 hr h0 h1 i, if_neg (n_5 (by omega))]
    split <;> rfl
theorem fGr_1 {p : Nat → Bool} {r : Nat} (h1 : p r = true) : ∀ i, (∀ g, r < g → g < r + 1 + i → p g = false) → fGr p (r + 1 + i) = nI r
  | 0, _ => by
    rw [Nat.add_zero, fGr, h1, if_pos rfl]
  | i + 1, h => by
    rw [show r + 1 + (i + 1) = r + 1 + i + 1 by omega, fGr, h (r + 1 + i) (by omega) (by omega)]
    exact fGr_1 h1 i (fun g a b => h g a (by omega))
/-- what of the bears fits the first i rows -/
noncomputable def fFi (E V : Nat → Nat → Int32) : Nat → Nat → Int32
  | 0, _ => 1
  | i + 1, b => fFi E V i b &&& (if E i b = V i b then 1 else 0)
theorem fFi_01 {E V : Nat → Nat → Int32} {b : Nat} : ∀ i, (fFi E V i b = 1 ∧ ∀ j, j < i → E j b = V j b) ∨ (fFi E V i b = 0 ∧ ¬ ∀ j, j < i → E j b = V j b)
  | 0 => Or.inl ⟨rfl, fun j hj => absurd hj (Nat.not_lt_zero j)⟩
  | i + 1 => by
    rw [fFi]
    rcases fFi_01 (E := E) (V := V) (b := b) i with ⟨h1, h2⟩ | ⟨h1, h2⟩
    · by_cases c : E i b = V i b
      · rw [h1, if_pos c]
        refine Or.inl ⟨rfl, fun j hj => ?_⟩
        rcases Nat.lt_or_ge j i with q | q
        · exact h2 j q
        · rw [show j = i by omega]; exact c
      · rw [h1, if_neg c]
        exact Or.inr ⟨rfl, fun q => c (q i (Nat.lt_succ_self i))⟩
    · rw [h1]
      refine Or.inr ⟨?_, fun q => h2 (fun j hj => q j (by omega))⟩
      split <;> rfl
section
variable {d : Nat} {I : zMI} {rl rs : Option (Nat × Nat)} {Q : zPQ} {G : zMR} {n k t : Nat} {C : List zCl}
set_option maxHeartbeats 4000000 in
set_option maxRecDepth 100000 in
theorem m_fx {M : zMI} (hS : zSt8 I C n k t) (h40 : M 40 0 = I 40 0) {f : Nat} (hf : f ≤ 20) (h15 : M 10 0 15 = 0) (h14 : M 10 0 14 = 0) {b a : Int32} (h13 : M 10 0 13 = b) (h17 : M 10 0 17 = 0) (h18 : M 10 0 18 = 1)
    (h : ∀ (K : zMI) x, zFM M K → K 10 0 18 = (fEg I C n t (nI f) a 0 0 b (0, 1)).2 → Q (some (zi x)) K (zRR rl rs)) : zWm (d + 2) 142 [zr 10 0, zi (nI f), zi a] M (zRR rl rs) Q := by
  obtain ⟨hb, hC, hH⟩ := hS
  obtain ⟨h1, ⟨g1, g2, g3, g4, g5⟩, -, -, -, ⟨e1, e2, e3, e4, e5⟩⟩ := hb
  have hall := r_all h1 (t := t) (e1.trans e2.symm) (C := C) (f := nI f) (a := a) (add := 0) (out := 0)
  obtain ⟨b, hb, eb⟩ := r_bl (s := I 40 0) (C := C) (n := n) (f := f) (ad := 0) (t := t) (ld := fLd C a (nI f)) (out := 0) hC.2.2.1.2.2.2.1 hC.2.2.1.2.1 h1.2.2.1 (fun k hk => by
    obtain ⟨kd, v, th, w, sd, ⟨q1, q2, q3, q4, q5, q6⟩, -, r1, r2, r3, r4, r5⟩ := h1.2.2.2.1 k hk
    exact ⟨w, q5, r4⟩) hf (by decide) e2 e3
  have hbl : 0 ≤ fBl C (nI f) (fLd C a (nI f)) (zww (fun k => I 40 0 (34 + k)) 0 n / 10) (I 40 0 6 - I 40 0 6 / 10 * 10) 0 := by
    rw [show (0 : Int32) = nI 0 from rfl] at *
    rw [eb]
    exact nI_pos' (by omega)
  unfold fEg at h
  rw [hall] at h
  refine m_falls (C := C) (n := n) (t := t) (by rw [h40]; exact hH) (by rw [h40]; exact h1.2.1) h1.2.2.1 (by omega) (by rw [h40]; exact e2) (by rw [h40]; exact r_Ab h1 t) (by rw [h40, h15, h14]; exact hbl) ?_
  rw [h40, h15, h14, h13, h17, h18]
  intro K hK _ q1 q2 q3
  exact h K _ hK (congrArg Prod.snd q3)
set_option maxHeartbeats 4000000 in
set_option maxRecDepth 100000 in
theorem m_asSeen {J : zMI} (hS : zSt8 I C n k t) (hJ : zFa I J) (h14 : J 10 0 14 = 0) (h15 : J 10 0 15 = 0) {m : Nat} (hH : zbH (I 7 0) (I 26 0) (I 27 0) (I 28 0) (I 40 0) 2 74 1 m) {b : Int32}
    (h1 : (∀ i, i < m → (fEg I C n t (I 26 0 i) (I 27 0 i) 0 0 b (0, 1)).2 = I 28 0 i) → ∀ K, zFM J K → Q (some (zi 1)) K (zRR rl rs)) (h0 : (¬ ∀ i, i < m → (fEg I C n t (I 26 0 i) (I 27 0 i) 0 0 b (0, 1)).2 = I 28 0 i) → ∀ K, zFM J K → Q (some (zi 0)) K (zRR rl rs)) : zWm (d + 3) 154 [zr 10 0, zi b] J (zRR rl rs) Q := by
  obtain ⟨z1, z2, z3, z4⟩ := hH
  have loop : ∀ q i, i + q = m → (∀ j, j < i → (fEg I C n t (I 26 0 j) (I 27 0 j) 0 0 b (0, 1)).2 = I 28 0 j) → ∀ K, zFM J K → zW (d + 3) kX10_isAsSeen (zblk kX10_isAsSeen 1) [some (zr 10 0), some (zi b), some (zi (nI i))] [] K (zRR rl rs) Q := by
    intro q
    induction q with
    | zero =>
      intro i hi hall K hK
      have : i = m := by omega
      subst this
      have k40 : ∀ x, K 40 0 x = I 40 0 x := fun x => (hK 40 0 x (by decide) (by decide) (Or.inl (by decide))).trans (hJ 40 0 x (by decide) (by decide) (by decide) (by decide) (by decide) (by decide) (by decide) (Or.inl (by decide)))
      refine z_auto rfl ?_
      refine z_ald (k := 2) rfl rfl (by decide) ?_
      rw [k40, z2]
      refine z_auto rfl ?_
      refine z_br rfl (fun c => ?_) (fun c => ?_)
      · refine z_auto rfl ?_
        exact z_rt rfl (h1 hall K hK)
      · exact absurd (Int32.le_refl _) c
    | succ q ih =>
      intro i hi hall K hK
      have k40 : ∀ x, K 40 0 x = I 40 0 x := fun x => (hK 40 0 x (by decide) (by decide) (Or.inl (by decide))).trans (hJ 40 0 x (by decide) (by decide) (by decide) (by decide) (by decide) (by decide) (by decide) (Or.inl (by decide)))
      obtain ⟨f, sd, x, ⟨q1, q2, q3⟩, ⟨p0, p1, p2⟩, r1, r2, r3⟩ := z4 i (by omega)
      refine z_auto rfl ?_
      refine z_ald (k := 2) rfl rfl (by decide) ?_
      rw [k40, z2]
      refine z_auto rfl ?_
      refine z_br rfl (fun c => ?_) (fun c => ?_)
      · exact absurd c (Int32.not_le.mpr (nI_lt (by omega) (by omega)))
      · refine z_auto rfl ?_
        refine z_ck rfl (show (1 : Int32) = 0 ∨ (1 : Int32) = 1 from Or.inr rfl) ?_
        obtain ⟨M, hM⟩ : ∃ M, M = zup (zup (zup K 10 0 13 b) 10 0 17 0) 10 0 18 1 := ⟨_, rfl⟩
        rw [← hM]
        have hKM : zFM K M := by rw [hM]; exact ((zFM.up (by decide)).tr (zFM.up (by decide))).tr (zFM.up (by decide))
        have m13 : M 10 0 13 = b := by rw [hM, zup_k (by decide), zup_k (by decide), zup_eq]
        have m17 : M 10 0 17 = 0 := by rw [hM, zup_k (by decide), zup_eq]
        have m18 : M 10 0 18 = 1 := by rw [hM, zup_eq]
        clear hM
        have m40 : ∀ x, M 40 0 x = I 40 0 x := fun x => (hKM 40 0 x (by decide) (by decide) (Or.inl (by decide))).trans (k40 x)
        have hJM := hK.tr hKM
        refine z_auto rfl ?_
        refine z_ald (k := (74 + i)) rfl (nI_add 74 i) (by show 74 + i < 937; omega) ?_
        refine z_auto rfl ?_
        refine z_ald (k := (82 + i)) rfl (nI_add 82 i) (by show 82 + i < 937; omega) ?_
        rw [m40, m40, r1, r2]
        refine z_auto rfl ?_
        refine z_cl rfl (m_fx hS (funext m40) q1 ((zFM_15 hJM).trans h15) ((zFM_14 hJM).trans h14) m13 m17 m18 (fun L y hL l18 => ?_))
        have l40 : L 40 0 (90 + i) = nI x := (hL 40 0 _ (by decide) (by decide) (Or.inl (by decide))).trans ((m40 _).trans r3)
        have hJL := hJM.tr hL
        have yes : (fEg I C n t (nI f) (nI sd) 0 0 b (0, 1)).2 = nI x → zW (d + 3) kX10_isAsSeen (zblk kX10_isAsSeen 4) [some (zr 10 0), some (zi b), some (zi (nI i))] [] L (zRR rl rs) Q := by
          intro e
          have h5 := ih (i + 1) (by omega) (fun j hj => by
            rcases Nat.lt_or_ge j i with q | q
            · exact hall j q
            · have : j = i := by omega
              subst this
              rw [p0, p1, p2]
              exact e) L hJL
          rw [nI_succ] at h5
          refine z_auto rfl ?_
          refine z_jp rfl ?_
          exact h5
        have no : ¬ (fEg I C n t (nI f) (nI sd) 0 0 b (0, 1)).2 = nI x → Q (some (zi 0)) L (zRR rl rs) := fun e => h0 (fun q => e (by
          have := q i (by omega)
          rw [p0, p1, p2] at this
          exact this)) L hJL
        refine z_auto rfl ?_
        rw [l18]
        refine z_auto rfl ?_
        refine z_ald (k := (90 + i)) rfl (nI_add 90 i) (by show 90 + i < 937; omega) ?_
        rw [l40]
        rcases (show x = 0 ∨ x = 1 by omega) with rfl | rfl
        · refine z_auto rfl ?_
          refine z_jp rfl ?_
          refine z_auto rfl ?_
          refine z_jp rfl ?_
          refine z_auto rfl ?_
          refine z_br rfl (fun c2 => ?_) (fun c2 => ?_)
          · exact yes c2
          · refine z_auto rfl ?_
            exact z_rt rfl (no c2)
        · refine z_auto rfl ?_
          refine z_st rfl ?_
          refine z_auto rfl ?_
          refine z_jp rfl ?_
          refine z_auto rfl ?_
          refine z_br rfl (fun c2 => ?_) (fun c2 => ?_)
          · exact yes c2
          · refine z_auto rfl ?_
            exact z_rt rfl (no c2)
  refine z_auto rfl ?_
  refine z_jp rfl ?_
  exact loop m 0 (Nat.zero_add _) (fun j hj => absurd hj (Nat.not_lt_zero j)) J zFM.rf
end
