/-! THE TWO SIDE BY SIDE: what holds between calls -/
/-- the class's own data stay -/
def zFk (I J : zMI) : Prop := ∀ c i k, (c = 1 ∨ c = 2 ∨ c = 4 ∨ c = 6 ∨ c = 7 ∨ c = 8 ∨ (20 ≤ c ∧ c ≤ 33)) → (c = 2 → i ≠ 2) → J c i k = I c i k
theorem zbx_fr {I J : zMI} (h : zFk I J) {b : Nat} (hb : b ≤ 1) {s : Nat → Int32} {n k t : Nat} (hx : zbx I b s n k t) : zbx J b s n k t := by
  have e : ∀ c i, (c = 1 ∨ c = 4 ∨ c = 6 ∨ c = 7 ∨ c = 8 ∨ (20 ≤ c ∧ c ≤ 33)) → J c i = I c i := fun c i hc => funext (fun k => h c i k (by omega) (by omega))
  have e2 : J 2 b = I 2 b := funext (fun k => h 2 b k (by omega) (by omega))
  obtain ⟨h1, h2, h3, h4, h5, h6⟩ := hx
  refine ⟨?_, ?_, ?_, ?_, ?_, ?_⟩
  · rw [e 4 b (by omega), e 20 b (by omega), e 21 b (by omega), e 22 b (by omega), e 23 b (by omega), e 24 b (by omega), e 25 b (by omega)]
    exact h1
  · obtain ⟨g1, g2, g3, g4, g5⟩ := h2
    refine ⟨by rw [e 1 b (by omega)]; exact g1, g2, g3, g4, fun j hj => ?_⟩
    obtain ⟨C, c1, c2⟩ := g5 j hj
    exact ⟨C, zES_fr (fun c k hc => h c _ k (by omega) (by omega)) c1, c2⟩
  · rw [e 7 _ (by omega), e 26 _ (by omega), e 27 _ (by omega), e 28 _ (by omega)]
    exact h3
  · rw [e 7 _ (by omega), e 26 _ (by omega), e 27 _ (by omega), e 28 _ (by omega)]
    exact h4
  · rw [e 8 _ (by omega), e 29 _ (by omega)]
    exact h5
  · rw [e 1 _ (by omega), e2]
    exact h6
/-- what holds between calls -/
def zRel (I : zMI) : Prop := ∃ n k t, zbx I 0 (I 40 0) n k t ∧ zES I 1 [] ∧
  ((I 9 0 2 = 0 ∧ I 10 0 3 = 0) ∨ (I 9 0 2 = 1 ∧ I 10 0 3 = 1 ∧ ∃ n' k' t', zbx I 1 (I 41 0) n' k' t' ∧ k' ≤ k)) ∧
  (∃ r : Nat, r < 2147483648 ∧ I 0 0 1 = nI r ∧ I 10 0 22 = nI r ∧ ∀ i, i < r → i < 20 → I 35 0 i = I 45 0 i) ∧ I 10 0 14 = 0 ∧ I 10 0 15 = 0
/-- what falling and asking change, on both sides -/
def zFa (I J : zMI) : Prop := ∀ c i k, c ≠ 3 → c ≠ 34 → c ≠ 42 → c ≠ 43 → c ≠ 44 → c ≠ 51 → (c ≠ 2 ∨ i ≠ 2) → (c ≠ 10 ∨ (k < 11 ∨ 20 ≤ k)) → J c i k = I c i k
theorem zFa.rf {I : zMI} : zFa I I := fun _ _ _ _ _ _ _ _ _ _ _ => rfl
theorem zFa.tr {I J K : zMI} (h1 : zFa I J) (h2 : zFa J K) : zFa I K := fun c i k a1 a2 a3 a4 a5 a6 a7 a8 => (h2 c i k a1 a2 a3 a4 a5 a6 a7 a8).trans (h1 c i k a1 a2 a3 a4 a5 a6 a7 a8)
theorem zFa.r {I J : zMI} (h : zFr I J) : zFa I J := fun c i k a1 a2 _ _ _ _ a7 _ => h c i k a1 a2 a7
theorem zFa.M {I J : zMI} (h : zFM I J) : zFa I J := fun c i k _ _ a3 a4 _ _ _ a8 => h c i k a3 a4 (by omega)
theorem zFa.m {I J : zMI} (h : zFm I J) : zFa I J := zFa.M (zFM.of h)
theorem zFa_k {I J : zMI} (h : zFa I J) : zFk I J := fun c i k hc h2 => h c i k (by omega) (by omega) (by omega) (by omega) (by omega) (by omega) (by omega) (by omega)
theorem zRel_fr {I J : zMI} (h : zFa I J) (j14 : J 10 0 14 = 0) (j15 : J 10 0 15 = 0) (hR : zRel I) : zRel J := by
  obtain ⟨n, k, t, h1, h2, h3, h4, h5, h6⟩ := hR
  have e : ∀ c i, (c = 40 ∨ c = 41 ∨ c = 0 ∨ c = 35 ∨ c = 45 ∨ c = 9) → J c i = I c i := fun c i hc => funext (fun k => h c i k (by omega) (by omega) (by omega) (by omega) (by omega) (by omega) (by omega) (by omega))
  have e2 : ∀ k, (k = 3 ∨ k = 22) → J 10 0 k = I 10 0 k := fun k hk => h 10 0 k (by decide) (by decide) (by decide) (by decide) (by decide) (by decide) (by decide) (by omega)
  refine ⟨n, k, t, ?_, zES_fr (fun c k hc => zFa_k h c _ k (by omega) (by omega)) h2, ?_, ?_, ?_, ?_⟩
  · rw [e 40 0 (by omega)]
    exact zbx_fr (zFa_k h) (by decide) h1
  · rw [e 9 0 (by omega), e2 3 (by omega), e 41 0 (by omega)]
    rcases h3 with q | ⟨q1, q2, n', k', t', q3, q4⟩
    · exact Or.inl q
    · exact Or.inr ⟨q1, q2, n', k', t', zbx_fr (zFa_k h) (by decide) q3, q4⟩
  · rw [e 0 0 (by omega), e 35 0 (by omega), e 45 0 (by omega), e2 22 (by omega)]
    exact h4
  · exact j14
  · exact j15
theorem zRel_r {I J : zMI} (h : zFr I J) (hR : zRel I) : zRel J := by
  have hR0 := hR
  obtain ⟨n, k, t, h1, h2, h3, h4, h5, h6⟩ := hR0
  exact zRel_fr (zFa.r h) ((h 10 0 14 (by decide) (by decide) (Or.inl (by decide))).trans h5) ((h 10 0 15 (by decide) (by decide) (Or.inl (by decide))).trans h6) hR
theorem zRel_M {I J : zMI} (h : zFM I J) (hR : zRel I) : zRel J := by
  have hR0 := hR
  obtain ⟨n, k, t, h1, h2, h3, h4, h5, h6⟩ := hR0
  exact zRel_fr (zFa.M h) ((h 10 0 14 (by decide) (by decide) (by decide)).trans h5) ((h 10 0 15 (by decide) (by decide) (by decide)).trans h6) hR
/-- all that is asked of the state, kept by a frame -/
def zSt8 (I : zMI) (C : List zCl) (n k t : Nat) : Prop := zbx I 0 (I 40 0) n k t ∧ zCu I k C n t ∧ zHo (I 40 0) C
theorem zSt8_fr {I J : zMI} {C : List zCl} {n k t : Nat} (h : zFa I J) (hS : zSt8 I C n k t) : zSt8 J C n k t := by
  obtain ⟨h1, h2, h3⟩ := hS
  have e : J 40 0 = I 40 0 := funext (fun k => h 40 0 k (by decide) (by decide) (by decide) (by decide) (by decide) (by decide) (by decide) (Or.inl (by decide)))
  obtain ⟨e1, e2, e3, e4, e5, e6, e7, e8⟩ := h2
  have g : ∀ c i k, (c = 1 ∨ c = 2 ∨ c = 4 ∨ c = 6 ∨ c = 7 ∨ c = 8 ∨ (20 ≤ c ∧ c ≤ 33)) → (c = 2 → i ≠ 2) → J c i k = I c i k := zFa_k h
  refine ⟨by rw [e]; exact zbx_fr (zFa_k h) (by decide) h1, ⟨?_, e2, zES_fr (fun c k hc => g c _ k (by omega) (by omega)) e3, ?_, e5, ?_, e7, ?_⟩, by rw [e]; exact h3⟩
  · rw [g 1 0 5 (by omega) (by omega)]; exact e1
  · rw [g 4 0 7 (by omega) (by omega)]; exact e4
  · rw [g 1 0 6 (by omega) (by omega)]; exact e6
  · rw [g 2 0 1 (by omega) (by omega)]; exact e8
theorem fAll_fa {I J : zMI} (h : zFa I J) (C : List zCl) (n t : Nat) (f a add out : Int32) : fAll J C n t f a add out = fAll I C n t f a add out := by
  have g : ∀ c i k, (c = 1 ∨ c = 2 ∨ c = 4 ∨ c = 6 ∨ c = 7 ∨ c = 8 ∨ (20 ≤ c ∧ c ≤ 33)) → (c = 2 → i ≠ 2) → J c i k = I c i k := zFa_k h
  have e : ∀ c, (20 ≤ c ∧ c ≤ 33) → J c 0 = I c 0 := fun c hc => funext (fun k => g c 0 k (by omega) (by omega))
  have el : zLy J t = zLy I t := by
    funext x k
    unfold zLy
    split <;> exact g _ _ _ (by omega) (by omega)
  unfold fAll
  rw [el, e 23 (by decide), g 1 0 6 (by decide) (by decide), g 4 0 6 (by decide) (by decide)]
theorem fFo_fa {I J : zMI} (h : zFa I J) (C : List zCl) (n t : Nat) (f a add out : Int32) : fFo J C n t f a add out = fFo I C n t f a add out := by
  unfold fFo
  rw [fAll_fa h]
theorem fEg_fa {I J : zMI} (h : zFa I J) (C : List zCl) (n t : Nat) (f a add out b : Int32) (s : Int32 × Int32) : fEg J C n t f a add out b s = fEg I C n t f a add out b s := by
  unfold fEg
  rw [fAll_fa h]
theorem r_cu {I : zMI} {n k t : Nat} (h : zbx I 0 (I 40 0) n k t) (hE : zES I 1 []) : ∃ C, zCu I k C n t ∧ zHo (I 40 0) C := by
  obtain ⟨h1, ⟨g1, g2, g3, g4, g5⟩, -, -, -, ⟨e1, e2, e3, e4, e5⟩⟩ := h
  have e6 : I 2 0 1 = 0 ∨ I 2 0 1 = 1 := by
    rcases e5 with q | q
    · exact Or.inr q.1
    · exact Or.inl q.1
  rcases k with _ | k
  · exact ⟨[], ⟨g1, g3, hE, h1.1, h1.2.2.1, e1, e3, e6⟩, Or.inl ⟨g4, rfl⟩⟩
  · obtain ⟨C, c1, c2⟩ := g5 k (Nat.lt_succ_self k)
    exact ⟨C, ⟨g1, g3, c1, h1.1, h1.2.2.1, e1, e3, e6⟩, Or.inr ⟨k, by omega, g4, c2⟩⟩
theorem fFo_fr {I J : zMI} (h : zFr I J) (C : List zCl) (n t : Nat) (f a add out : Int32) : fFo J C n t f a add out = fFo I C n t f a add out := by
  unfold fFo
  rw [fAll_fr h]
theorem fEg_fr {I J : zMI} (h : zFr I J) (C : List zCl) (n t : Nat) (f a add out b : Int32) (s : Int32 × Int32) : fEg J C n t f a add out b s = fEg I C n t f a add out b s := by
  unfold fEg
  rw [fAll_fr h]
section
variable {d : Nat} {I : zMI} {rl rs : Option (Nat × Nat)} {Q : zPQ} {G : zMR} {n k t : Nat} {C : List zCl}
set_option maxHeartbeats 4000000 in
set_option maxRecDepth 100000 in
theorem m_fn (hb : zbx I 0 (I 40 0) n k t) (hC : zCu I k C n t) (hH : zHo (I 40 0) C) {ad f : Nat} (hf : f ≤ 20) (hd : ad ≤ 100) (h15 : I 10 0 15 = nI ad) {out a : Int32} (h14 : I 10 0 14 = out)
    (h : ∀ K : zMI, zFM I K → K 10 0 19 = (fAll I C n t (nI f) a (nI ad) out).1 → K 10 0 16 = (fAll I C n t (nI f) a (nI ad) out).2.1.2.2 → (K 10 0 17, K 10 0 18) = fEg I C n t (nI f) a (nI ad) out (zlast C 0 20) (I 2 0 0, I 2 0 1) → Q (some (zi (fFo I C n t (nI f) a (nI ad) out))) K (zRR rl rs)) : zWm (d + 3) 143 [zr 10 0, zi (nI f), zi a] I (zRR rl rs) Q := by
  obtain ⟨h1, ⟨g1, g2, g3, g4, g5⟩, -, -, -, ⟨e1, e2, e3, e4, e5⟩⟩ := hb
  have hall := r_all h1 (t := t) (e1.trans e2.symm) (C := C) (f := nI f) (a := a) (add := nI ad) (out := out)
  obtain ⟨b, hb, eb⟩ := r_bl (s := I 40 0) (C := C) (n := n) (f := f) (ad := ad) (t := t) (ld := fLd C a (nI f)) (out := out) hC.2.2.1.2.2.2.1 hC.2.2.1.2.1 h1.2.2.1 (fun k hk => by
    obtain ⟨kd, v, th, w, sd, ⟨q1, q2, q3, q4, q5, q6⟩, -, r1, r2, r3, r4, r5⟩ := h1.2.2.2.1 k hk
    exact ⟨w, q5, r4⟩) hf hd e2 e3
  have hbl : 0 ≤ fBl C (nI f) (fLd C a (nI f)) (zww (fun k => I 40 0 (34 + k)) out n / 10) (I 40 0 6 - I 40 0 6 / 10 * 10) (nI ad) := by
    rw [eb]
    exact nI_pos' (by omega)
  have hw : zww (I 23 0) out n = zww (fun k => I 40 0 (34 + k)) out n := zww_cong n (fun k hk => by
    obtain ⟨kd, v, th, w, sd, q, ⟨p0, p1, p2, p3, p4⟩, r1, r2, r3, r4, r5⟩ := h1.2.2.2.1 k hk
    exact p3.trans r4.symm)
  have hfo : fFo I C n t (nI f) a (nI ad) out = mFo (mAll (I 40 0) C n t (nI f) a (nI ad) out) := by
    rw [r_fo (by rw [hw, e1, ← e2]; exact hbl), hall]
  have heg : (I 2 0 0, I 2 0 1) = (I 40 0 7, if I 40 0 8 = 0 then (1 : Int32) else 0) := by
    rw [e4]
    rcases e5 with ⟨q1, q2⟩ | ⟨q1, q2⟩
    · rw [q1, q2]; rfl
    · rw [q1, q2]; rfl
  rw [hfo, heg] at h
  unfold fEg at h
  rw [hall] at h
  refine m_fallsNow (C := C) (n := n) (t := t) hH h1.2.1 h1.2.2.1 (by omega) e2 (r_Ab h1 t) (by rw [h15, h14]; exact hbl) ?_
  rw [h15, h14]
  intro K hK _ q1 q2 q3
  exact h K hK q1 q2 q3
theorem zld_01 (x b : Int32) (s : Int32 × Int32) (hs : s.2 = 0 ∨ s.2 = 1) : (zld x b s).2 = 0 ∨ (zld x b s).2 = 1 := by
  unfold zld
  split
  · exact hs
  · split
    · split
      · exact hs
      · exact hs
    · exact Or.inl rfl
theorem fEg_01 {f a add out b : Int32} {s : Int32 × Int32} (hs : s.2 = 0 ∨ s.2 = 1) : (fEg I C n t f a add out b s).2 = 0 ∨ (fEg I C n t f a add out b s).2 = 1 := by
  unfold fEg zla2
  split
  · exact zld_01 _ _ _ hs
  · exact zld_01 _ _ _ (zld_01 _ _ _ hs)
/-- the model's fall at a memory that the frame reaches -/
theorem m_fa {J : zMI} (hS : zSt8 I C n k t) (hJ : zFa I J) {ad f : Nat} (hf : f ≤ 20) (hd : ad ≤ 100) (h15 : J 10 0 15 = nI ad) {out a : Int32} (h14 : J 10 0 14 = out)
    (h : ∀ K : zMI, zFM J K → K 10 0 19 = (fAll I C n t (nI f) a (nI ad) out).1 → K 10 0 16 = (fAll I C n t (nI f) a (nI ad) out).2.1.2.2 → (K 10 0 17, K 10 0 18) = fEg I C n t (nI f) a (nI ad) out (zlast C 0 20) (I 2 0 0, I 2 0 1) → Q (some (zi (fFo I C n t (nI f) a (nI ad) out))) K (zRR rl rs)) : zWm (d + 3) 143 [zr 10 0, zi (nI f), zi a] J (zRR rl rs) Q := by
  obtain ⟨h1, h2, h3⟩ := zSt8_fr hJ hS
  refine m_fn h1 h2 h3 hf hd h15 h14 ?_
  rw [fAll_fa hJ, fFo_fa hJ, fEg_fa hJ, hJ 2 0 0 (by decide) (by decide) (by decide) (by decide) (by decide) (by decide) (by decide) (by decide), hJ 2 0 1 (by decide) (by decide) (by decide) (by decide) (by decide) (by decide) (by decide) (by decide)]
  exact h
theorem r_st {I : zMI} (hR : zRel I) : ∃ C n k t, zSt8 I C n k t ∧ I 10 0 14 = 0 ∧ I 10 0 15 = 0 := by
  obtain ⟨n, k, t, h1, h2, h3, h4, h5, h6⟩ := hR
  obtain ⟨C, hC, hH⟩ := r_cu h1 h2
  exact ⟨C, n, k, t, ⟨h1, hC, hH⟩, h5, h6⟩
end
