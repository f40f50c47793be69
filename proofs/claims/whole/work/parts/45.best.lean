/-! best: how great a force can be -/
theorem m_subl {a b : Int32} (ha : 0 ≤ a) (hb : 0 ≤ b) : (if 0 < a - b then a - b else 0) ≤ a := by
  rw [m_pos ha hb]
  split
  · exact ha
  · rename_i c
    rw [Int32.le_iff_toInt_le] at c ha hb ⊢
    rw [Int32.toInt_sub]
    have h1 := Int32.toInt_lt a
    have h2 := Int32.toInt_lt b
    rw [show (0 : Int32).toInt = 0 from rfl] at ha hb
    rw [Int.bmod_def]
    split <;> omega
theorem gFt_le {A : Nat → Nat → Int32} {N : Nat} (hA : zAb A N) {fl sd out : Int32} : ∀ (n : Nat) (s : Int32 × Int32), n ≤ N → 0 ≤ s.1 → (gFt A fl sd out n s).1 ≤ s.1
  | 0, _, _, _ => Int32.le_refl _
  | n + 1, s, hn, h => by
    have h2 := gFt_le hA (fl := fl) (sd := sd) (out := out) n s (by omega) h
    have h3 := gFt_pos (A := A) (fl := fl) (sd := sd) (out := out) n s h
    obtain ⟨v, th, r, hv, hth, hr, a1, a2, a4⟩ := hA n (by omega)
    rw [gFt, gFs]
    split
    · dsimp only
      exact Int32.le_trans (m_subl h3 (m_tk hv hth hr a1 a2 a4 h3)) h2
    · exact h2
theorem n_le {x : Int32} {m : Nat} (h0 : 0 ≤ x) (h : x ≤ nI m) (hm : m < 2147483648) : ∃ y, y ≤ m ∧ x = nI y := by
  rcases n_cases x m hm with q | q | q
  · exact q
  · exact absurd q (Int32.not_lt.mpr h0)
  · exact absurd q (Int32.not_lt.mpr h)
theorem fFo_le {I : zMI} {C : List zCl} {n k t : Nat} (hS : zSt8 I C n k t) {f ad : Nat} (hf : f ≤ 20) (hd : ad ≤ 100) {a out : Int32} : ∃ y, y ≤ 2000 ∧ fFo I C n t (nI f) a (nI ad) out = nI y := by
  obtain ⟨hb, hC, hH⟩ := hS
  obtain ⟨h1, -, -, -, -, ⟨e1, e2, e3, e4, e5⟩⟩ := hb
  have hall := r_all h1 (t := t) (e1.trans e2.symm) (C := C) (f := nI f) (a := a) (add := nI ad) (out := out)
  obtain ⟨b, hb, eb⟩ := r_bl (s := I 40 0) (C := C) (n := n) (f := f) (ad := ad) (t := t) (ld := fLd C a (nI f)) (out := out) hC.2.2.1.2.2.2.1 hC.2.2.1.2.1 h1.2.2.1 (fun k hk => by
    obtain ⟨kd, v, th, w, sd, ⟨q1, q2, q3, q4, q5, q6⟩, -, r1, r2, r3, r4, r5⟩ := h1.2.2.2.1 k hk
    exact ⟨w, q5, r4⟩) hf hd e2 e3
  have hA := r_Ab h1 t
  unfold fFo
  rw [hall]
  unfold mAll
  rw [eb]
  dsimp only
  have p0 : 0 ≤ nI b := nI_pos' (by omega)
  have p1 : nI b / 2 = nI (b / 2) := pk_div (a := b) (d := 2) (by omega) (by omega) (by omega)
  have p2 : 0 ≤ nI b / 2 := by rw [p1]; exact nI_pos' (by omega)
  have p3 : nI b / 2 ≤ nI b := by rw [p1]; exact nI_le (by omega) (by omega)
  have key : ∀ x y : Int32, 0 ≤ x → x ≤ nI b → 0 ≤ y → y ≤ nI b → ∃ z, z ≤ 2000 ∧ (if x < y then y else x) = nI z := by
    intro x y x0 x1 y0 y1
    split
    · obtain ⟨z, hz, e⟩ := n_le y0 y1 (by omega)
      exact ⟨z, by omega, e⟩
    · obtain ⟨z, hz, e⟩ := n_le x0 x1 (by omega)
      exact ⟨z, by omega, e⟩
  unfold fFl
  split
  · exact key _ _ (gFt_pos n _ p0) (gFt_le hA n _ (Nat.le_refl _) p0) (Int32.le_refl _) p0
  · exact key _ _ (gFt_pos n _ p0) (gFt_le hA n _ (Nat.le_refl _) p0) (gFt_pos n _ p2) (Int32.le_trans (gFt_le hA n _ (Nat.le_refl _) p2) p3)
