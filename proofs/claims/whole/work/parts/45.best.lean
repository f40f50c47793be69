/-! best: how great a force can be -/
theorem m_subl {a b : Int32} (ha : 0 ≤ a) (hb : 0 ≤ b) : (if 0 < a - b then a - b else 0) ≤ a := by
  rw [m_pos ha hb]
  split
  · exact ha
  · rename_i c
    rw [Int32.le_iff_toInt_le] at c ha hb ⊢
    rw [Int32.toInt_sub]
    have h1 := Int32.toInt_lt a
    have h2 := Int32.toInt_lt b
    rw [show (0 : Int32).toInt = 0 from rfl] at ha hb
    rw [Int.bmod_def]
    split <;> omega
theorem gFt_le {A : Nat → Nat → Int32} {N : Nat} (hA : zAb A N) {fl sd out : Int32} : ∀ (n : Nat) (s : Int32 × Int32), n ≤ N → 0 ≤ s.1 → (gFt A fl sd out n s).1 ≤ s.1
  | 0, _, _, _ => Int32.le_refl _
  | n + 1, s, hn, h => by
    have h2 := gFt_le hA (fl := fl) (sd := sd) (out := out) n s (by omega) h
    have h3 := gFt_pos (A := A) (fl := fl) (sd := sd) (out := out) n s h
    obtain ⟨v, th, r, hv, hth, hr, a1, a2, a4⟩ := hA n (by omega)
    rw [gFt, gFs]
    split
    · dsimp only
      exact Int32.le_trans (m_subl h3 (m_tk hv hth hr a1 a2 a4 h3)) h2
    · exact h2
