/-! THE CLASS AND THE MODEL SIDE BY SIDE -/
theorem gFt_cong {A B : Nat → Nat → Int32} {fl sd out : Int32} : ∀ (n : Nat) (s : Int32 × Int32), (∀ k, k < n → A 0 k = B 0 k ∧ A 1 k = B 1 k ∧ A 2 k = B 2 k ∧ A 3 k = B 3 k ∧ A 4 k = B 4 k) → gFt A fl sd out n s = gFt B fl sd out n s
  | 0, _, _ => rfl
  | n + 1, s, h => by
    obtain ⟨h0, h1, h2, h3, h4⟩ := h n (Nat.lt_succ_self n)
    rw [gFt, gFt, gFt_cong n s (fun k hk => h k (Nat.lt_succ_of_lt hk)), gFs, gFs, h0, h1, h2, h3, h4]
theorem zww_cong {w u : Nat → Int32} {o : Int32} : ∀ n, (∀ k, k < n → w k = u k) → zww w o n = zww u o n
  | 0, _ => rfl
  | n + 1, h => by
    rw [zww, zww, zww_cong n (fun k hk => h k (Nat.lt_succ_of_lt hk)), h n (Nat.lt_succ_self n)]
theorem gFt_pos {A : Nat → Nat → Int32} {fl sd out : Int32} : ∀ (n : Nat) (s : Int32 × Int32), 0 ≤ s.1 → 0 ≤ (gFt A fl sd out n s).1
  | 0, _, h => h
  | n + 1, s, h => by
    have h2 := gFt_pos (A := A) (fl := fl) (sd := sd) (out := out) n s h
    rw [gFt, gFs]
    split
    · dsimp only
      split
      · rename_i q; exact Int32.le_of_lt q
      · decide
    · exact h2
/-- the layers, by the class's arrays and by the model's numbers -/
def zbL (a4 a20 a21 a22 a23 a24 a25 s : Nat → Int32) (n : Nat) : Prop := a4 7 = nI n ∧ s 0 = nI n ∧ n ≤ 8 ∧
  (∀ i, i < n → ∃ kd v th w sd : Nat, (kd < 7 ∧ v ≤ 9 ∧ 1 ≤ th ∧ th ≤ 9 ∧ w ≤ 20 ∧ sd < 4) ∧ (a20 i = nI kd ∧ a21 i = nI v ∧ a22 i = nI th ∧ a23 i = nI w ∧ a24 i = nI sd) ∧ s (10 + i) = nI kd ∧ s (18 + i) = nI v ∧ s (26 + i) = nI th ∧ s (34 + i) = nI w ∧ s (42 + i) = nI sd) ∧
  (∀ i l, i < n → l < 3 → ∃ r : Nat, r ≤ 9 ∧ a25 (i * 3 + l) = nI r ∧ s (50 + i * 3 + l) = nI r) ∧ (∀ x, n * 3 ≤ x → x < 24 → a25 x = 0) ∧ a4 6 = s 9 ∧ ∀ i, n ≤ i → bt (s 9) i = false
/-- the schools -/
def zbS (I : zMI) (b : Nat) (s : Nat → Int32) (k : Nat) : Prop := I 1 b 5 = nI k ∧ s 1 = nI k ∧ k ≤ 5 ∧ s 5 = (if k = 0 then -1 else nI (k - 1)) ∧ ∀ j, j < k → ∃ C, zES I (j + 2) C ∧ zMS s j C
/-- the rows of a sheet; X: what its third number may be -/
def zbH (a7 a26 a27 a28 s : Nat → Int32) (q o X n : Nat) : Prop := a7 3 = nI n ∧ s q = nI n ∧ n ≤ 8 ∧ ∀ i, i < n → ∃ f sd x : Nat, (f ≤ 20 ∧ sd < 4 ∧ x ≤ X) ∧ (a26 i = nI f ∧ a27 i = nI sd ∧ a28 i = nI x) ∧ s (o + i) = nI f ∧ s (o + 8 + i) = nI sd ∧ s (o + 16 + i) = nI x
/-- the tape -/
def zbT (a8 a29 s : Nat → Int32) (n : Nat) : Prop := a8 1 = nI n ∧ s 4 = nI n ∧ n ≤ 100 ∧ ∀ i, i < n → ∃ x : Nat, x < 128 ∧ a29 i = nI x ∧ s (122 + i) = nI x
/-- try and egg -/
def zbE (a1 a2 s : Nat → Int32) (t : Nat) : Prop := a1 6 = nI t ∧ s 6 = nI t ∧ t ≤ 9999 ∧ a2 0 = s 7 ∧ ((a2 1 = 1 ∧ s 8 = 0) ∨ (a2 1 = 0 ∧ s 8 = 1))
/-- box b of the class is s -/
def zbx (I : zMI) (b : Nat) (s : Nat → Int32) (n k t : Nat) : Prop := zbL (I 4 b) (I 20 b) (I 21 b) (I 22 b) (I 23 b) (I 24 b) (I 25 b) s n ∧ zbS I b s k ∧ (∃ m, zbH (I 7 (2 * b)) (I 26 (2 * b)) (I 27 (2 * b)) (I 28 (2 * b)) s 2 74 1 m) ∧ (∃ m, zbH (I 7 (2 * b + 1)) (I 26 (2 * b + 1)) (I 27 (2 * b + 1)) (I 28 (2 * b + 1)) s 3 98 9999 m) ∧ (∃ m, zbT (I 8 b) (I 29 b) s m) ∧ zbE (I 1 b) (I 2 b) s t
theorem r_Ab {a4 a20 a21 a22 a23 a24 a25 s : Nat → Int32} {n : Nat} (h : zbL a4 a20 a21 a22 a23 a24 a25 s n) (t : Nat) : zAb (mLy s t) n := by
  obtain ⟨h1, h2, h3, h4, h5, h6, h7, h8⟩ := h
  intro i hi
  obtain ⟨kd, v, th, w, sd, q, p, r1, r2, r3, r4, r5⟩ := h4 i hi
  obtain ⟨r, hr, g1, g2⟩ := h5 i (t % 3) hi (Nat.mod_lt _ (by decide))
  exact ⟨v, th, r, by omega, by omega, by omega, r2, r3, g2⟩
theorem r_all {I : zMI} {s : Nat → Int32} {n t : Nat} (h : zbL (I 4 0) (I 20 0) (I 21 0) (I 22 0) (I 23 0) (I 24 0) (I 25 0) s n) (h6 : I 1 0 6 = s 6) {C : List zCl} {f a add out : Int32} : fAll I C n t f a add out = mAll s C n t f a add out := by
  obtain ⟨h1, h2, h3, h4, h5, -, h7, h8⟩ := h
  have hw : zww (I 23 0) out n = zww (fun k => s (34 + k)) out n := zww_cong n (fun k hk => by
    obtain ⟨kd, v, th, w, sd, q, ⟨p0, p1, p2, p3, p4⟩, r1, r2, r3, r4, r5⟩ := h4 k hk
    exact p3.trans r4.symm)
  have hg : ∀ ld x, gFt (zLy I t) f ld out n x = gFt (mLy s t) f ld out n x := fun ld x => gFt_cong n x (fun k hk => by
    obtain ⟨kd, v, th, w, sd, q, ⟨p0, p1, p2, p3, p4⟩, r1, r2, r3, r4, r5⟩ := h4 k hk
    obtain ⟨r, hr, g1, g2⟩ := h5 k (t % 3) hk (Nat.mod_lt _ (by decide))
    exact ⟨p0.trans r1.symm, p1.trans r2.symm, p2.trans r3.symm, p4.trans r5.symm, g1.trans g2.symm⟩)
  unfold fAll mAll
  rw [hw, h6, h7]
  simp only [fFl, hg]
theorem zww_nat {w : Nat → Int32} {o : Int32} : ∀ n, n ≤ 8 → (∀ k, k < n → ∃ x : Nat, x ≤ 20 ∧ w k = nI x) → ∃ y : Nat, y ≤ 20 * n ∧ zww w o n = nI y
  | 0, _, _ => ⟨0, by omega, rfl⟩
  | n + 1, hn, h => by
    obtain ⟨y, hy, e⟩ := zww_nat (o := o) n (by omega) (fun k hk => h k (Nat.lt_succ_of_lt hk))
    obtain ⟨x, hx, e2⟩ := h n (Nat.lt_succ_self n)
    rw [zww]
    split
    · exact ⟨y + x, by omega, by rw [e, e2, nI_add]⟩
    · exact ⟨y, by omega, e⟩
theorem zcsum_le (v : Nat → Int32) (w : Nat) : ∀ C : List zCl, (∀ c ∈ C, zwf c) → zcsum v C w ≤ 99 * C.length
  | [], _ => Nat.le_refl _
  | c :: C, h => by
    have h1 := zcsum_le v w C (fun a ha => h a (List.mem_cons_of_mem _ ha))
    have h2 := (h c (List.mem_cons_self ..)).2.1
    rw [zcsum, List.length_cons]
    split <;> omega
theorem r_bl {s : Nat → Int32} {C : List zCl} {n f ad t : Nat} {ld out : Int32} (hC : ∀ c ∈ C, zwf c) (hC10 : C.length ≤ 10) (hn : n ≤ 8) (hw : ∀ k, k < n → ∃ x : Nat, x ≤ 20 ∧ s (34 + k) = nI x) (hf : f ≤ 20) (hd : ad ≤ 100) (ht : s 6 = nI t) (ht2 : t ≤ 9999) : ∃ b : Nat, b ≤ 2000 ∧ fBl C (nI f) ld (zww (fun k => s (34 + k)) out n / 10) (s 6 - s 6 / 10 * 10) (nI ad) = nI b := by
  obtain ⟨y, hy, e⟩ := zww_nat (w := fun k => s (34 + k)) (o := out) n hn hw
  have hz := zcsum_le (fVal (nI f) ld 9 (zww (fun k => s (34 + k)) out n / 10) (s 6 - s 6 / 10 * 10)) 2 C hC
  unfold fBl
  generalize zcsum (fVal (nI f) ld 9 (zww (fun k => s (34 + k)) out n / 10) (s 6 - s 6 / 10 * 10)) C 2 = z at hz
  refine ⟨f * 5 + z + y / 10 + ad, by omega, ?_⟩
  rw [e, show nI y / 10 = nI (y / 10) from pk_div (a := y) (d := 10) (by omega) (by omega) (by omega), Int32.mul_comm, show nI f * 5 = nI (f * 5) from pk_mul f 5, nI_add, nI_add, nI_add]
theorem r_fo {I : zMI} {C : List zCl} {n t : Nat} {f a add out : Int32} (hbl : 0 ≤ fBl C f (fLd C a f) (zww (I 23 0) out n / 10) (I 1 0 6 - I 1 0 6 / 10 * 10) add) : fFo I C n t f a add out = mFo (fAll I C n t f a add out) := by
  unfold fFo mFo fAll
  dsimp only
  by_cases c : fBl C f (fLd C a f) (zww (I 23 0) out n / 10) (I 1 0 6 - I 1 0 6 / 10 * 10) add ≤ 20
  · rw [if_pos c, if_pos rfl]
    simp only [fFl, if_pos c]
    have := gFt_pos (A := zLy I t) (fl := f) (sd := fLd C a f) (out := out) n (fBl C f (fLd C a f) (zww (I 23 0) out n / 10) (I 1 0 6 - I 1 0 6 / 10 * 10) add, I 4 0 6) hbl
    rw [if_neg (Int32.not_lt.mpr this)]
  · rw [if_neg c, if_neg (show ¬ (1 : Int32) = 0 by decide)]
    generalize (fFl (zLy I t) n f (fLd C a f) out (fBl C f (fLd C a f) (zww (I 23 0) out n / 10) (I 1 0 6 - I 1 0 6 / 10 * 10) add) (I 4 0 6)).1 = x
    generalize (fFl (zLy I t) n f (fLd C a f) out (fBl C f (fLd C a f) (zww (I 23 0) out n / 10) (I 1 0 6 - I 1 0 6 / 10 * 10) add) (I 4 0 6)).2.1 = y
    by_cases c2 : x < y
    · rw [if_pos c2, if_pos (Int32.le_of_lt c2)]
    · rw [if_neg c2]
      by_cases c3 : x ≤ y
      · rw [if_pos c3]
        exact Int32.le_antisymm c3 (Int32.not_lt.mp c2)
      · rw [if_neg c3]
