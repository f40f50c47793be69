/-! READING A TEXT, as a pure matter: c p is the sign at p, 999 behind all -/
abbrev fR : Type := Nat × Option (List Nat)
def zN (x : Nat) : Int32 := if x < 128 then nI x else -1
def fDg (x : Nat) : Prop := 48 ≤ x ∧ x ≤ 57
def fNum (c : Nat → Nat) (p : Nat) : Nat × Option Nat :=
  if 48 ≤ c p ∧ c p ≤ 57 then
    (if c p = 48 then (p + 1, some 0)
     else if 48 ≤ c (p + 1) ∧ c (p + 1) ≤ 57 then (p + 2, some (10 * (c p - 48) + (c (p + 1) - 48)))
     else (p + 1, some (c p - 48)))
  else (p, none)
def fIx : List Nat → Nat → Option Nat
  | [], _ => none
  | x :: l, y => if x = y then some 0 else (fIx l y).map (· + 1)
def fTst (c : Nat → Nat) (p : Nat) : fR := match fIx [102, 115, 107, 116, 121] (c p) with
  | none => (p, none)
  | some l => match fIx [60, 61, 62] (c (p + 1)) with
    | none => (p + 1, none)
    | some s => match fNum c (p + 2) with
      | (q, none) => (q, none)
      | (q, some n) => (q, some [300 * l + 100 * s + n])
/-- more parts behind a sign x, each closed by the step y -/
def fMor (c : Nat → Nat) (g : Nat → fR) (x y : Nat) : Nat → Nat → List Nat → fR
  | 0, p, st => (p, some st)
  | k + 1, p, st => if c p = x then (match g (p + 1) with
      | (q, none) => (q, none)
      | (q, some st') => fMor c g x y k q (st ++ (st' ++ [y]))) else (p, some st)
/-- parts with x between -/
def fPar (c : Nat → Nat) (g : Nat → fR) (x y : Nat) (p : Nat) : fR := match g p with
  | (q, none) => (q, none)
  | (q, some st) => fMor c g x y 100 q st
def fAny (c : Nat → Nat) (g : Nat → fR) (p : Nat) : fR := fPar c (fPar c g 38 1501) 124 1502 p
def fOne (c : Nat → Nat) : Nat → Nat → fR
  | 0, p => if c p = 33 ∨ c p = 40 then (p, none) else fTst c p
  | f + 1, p => if c p = 40 then (match fAny c (fOne c f) (p + 1) with
      | (q, none) => (q, none)
      | (q, some st) => if c q = 41 then (q + 1, some st) else (q, none))
    else if c p = 33 then (match fOne c f (p + 1) with
      | (q, none) => (q, none)
      | (q, some st) => (q, some (st ++ [1500])))
    else fTst c p
/-- what a reader of a part is to be: it takes signs, gives no more steps than signs, and the steps are good at heights up to F -/
def fGd (N F : Nat) (g : Nat → fR) : Prop := ∀ p, p ≤ N → (g p).1 ≤ N ∧ p ≤ (g p).1 ∧ ∀ st, (g p).2 = some st → p < (g p).1 ∧ st.length ≤ (g p).1 - p ∧ ∀ h, h + F < 29 → zok h st = some (h + 1)
theorem zok_app : ∀ (a b : List Nat) (h h' : Nat), zok h a = some h' → zok h (a ++ b) = zok h' b
  | [], b, h, h', e => by
    cases e
    rfl
  | t :: a, b, h, h', e => by
    rw [List.cons_append, zok]
    rw [zok] at e
    cases hz : zok1 h t with
    | none => rw [hz] at e; cases e
    | some x =>
      rw [hz] at e
      exact zok_app a b x h' e
theorem zok_1 {h : Nat} (t : Nat) (h1 : zok1 h t = some (h + 1)) : zok h [t] = some (h + 1) := by
  rw [zok, h1]
  rfl
theorem fIx_lt : ∀ (l : List Nat) (y i : Nat), fIx l y = some i → i < l.length
  | [], _, _, h => by cases h
  | x :: l, y, i, h => by
    rw [fIx] at h
    split at h
    · cases h
      exact Nat.succ_pos _
    · cases hz : fIx l y with
      | none => rw [hz] at h; cases h
      | some j =>
        rw [hz] at h
        cases h
        exact Nat.succ_lt_succ (fIx_lt l y j hz)
theorem fIx_no {l : List Nat} {y : Nat} (hl : ∀ x ∈ l, x < 128) (hy : ¬ y < 128) : fIx l y = none := by
  induction l with
  | nil => rfl
  | cons x l ih =>
    rw [fIx, if_neg (fun e => hy (by rw [← e]; exact hl x List.mem_cons_self)), ih (fun a ha => hl a (List.mem_cons_of_mem _ ha))]
    rfl
section
variable {c : Nat → Nat} {N : Nat}
theorem fNum_gd (hc : ∀ p, c p < 128 ↔ p < N) {p : Nat} (hp : p ≤ N) : (fNum c p).1 ≤ N ∧ p ≤ (fNum c p).1 ∧ ∀ n, (fNum c p).2 = some n → p < (fNum c p).1 ∧ n ≤ 99 := by
  unfold fNum
  split
  · rename_i h
    have h1 := (hc p).mp (by omega)
    split
    · exact ⟨by dsimp only; omega, by dsimp only; omega, fun n hn => by cases hn; exact ⟨by dsimp only; omega, by omega⟩⟩
    · split
      · rename_i h2
        have h3 := (hc (p + 1)).mp (by omega)
        exact ⟨by dsimp only; omega, by dsimp only; omega, fun n hn => by cases hn; exact ⟨by dsimp only; omega, by omega⟩⟩
      · exact ⟨by dsimp only; omega, by dsimp only; omega, fun n hn => by cases hn; exact ⟨by dsimp only; omega, by omega⟩⟩
  · exact ⟨hp, Nat.le_refl _, fun n hn => by cases hn⟩
theorem fTst_gd (hc : ∀ p, c p < 128 ↔ p < N) {F : Nat} : fGd N F (fTst c) := by
  intro p hp
  unfold fTst
  cases h1 : fIx [102, 115, 107, 116, 121] (c p) with
  | none => exact ⟨hp, Nat.le_refl _, fun st h => by cases h⟩
  | some l =>
    have c1 : p < N := by
      apply Classical.byContradiction
      intro q
      rw [fIx_no (by decide) (fun q2 => q ((hc p).mp q2))] at h1
      cases h1
    dsimp only
    cases h2 : fIx [60, 61, 62] (c (p + 1)) with
    | none => exact ⟨c1, Nat.le_succ _, fun st h => by cases h⟩
    | some s =>
      have c2 : p + 1 < N := by
        apply Classical.byContradiction
        intro q
        rw [fIx_no (by decide) (fun q2 => q ((hc (p + 1)).mp q2))] at h2
        cases h2
      have l1 := fIx_lt _ _ _ h1
      have l2 := fIx_lt _ _ _ h2
      dsimp only
      obtain ⟨g1, g2, g3⟩ := fNum_gd hc (p := p + 2) c2
      generalize fNum c (p + 2) = r at g1 g2 g3
      obtain ⟨q, o⟩ := r
      cases o with
      | none => exact ⟨g1, by dsimp only at g2 ⊢; omega, fun st h => by cases h⟩
      | some n =>
        obtain ⟨g4, g5⟩ := g3 n rfl
        dsimp only at g1 g2 g4 g5 ⊢
        refine ⟨g1, by omega, fun st h => ?_⟩
        cases h
        refine ⟨by omega, by show 1 ≤ q - p; omega, fun h hF => zok_1 _ ?_⟩
        change l < 5 at l1
        change s < 3 at l2
        rw [zok1, if_pos (by omega), if_pos (by omega)]
theorem fMor_gd (hc : ∀ p, c p < 128 ↔ p < N) {F x y : Nat} {g : Nat → fR} (hg : fGd N F g) (hx : x < 128) (hy : y = 1501 ∨ y = 1502) : ∀ (k p p0 : Nat) (st : List Nat), p ≤ N → p0 < p → st.length ≤ p - p0 → (∀ h, h + (F + 1) < 29 → zok h st = some (h + 1)) → (fMor c g x y k p st).1 ≤ N ∧ p ≤ (fMor c g x y k p st).1 ∧ ∀ st', (fMor c g x y k p st).2 = some st' → p0 < (fMor c g x y k p st).1 ∧ st'.length ≤ (fMor c g x y k p st).1 - p0 ∧ ∀ h, h + (F + 1) < 29 → zok h st' = some (h + 1)
  | 0, p, p0, st, hp, h0, h1, h2 => ⟨hp, Nat.le_refl _, fun st' h => by cases h; exact ⟨h0, h1, h2⟩⟩
  | k + 1, p, p0, st, hp, h0, h1, h2 => by
    rw [fMor]
    split
    · rename_i hcp
      have c1 : p < N := (hc p).mp (by omega)
      obtain ⟨g1, g2, g3⟩ := hg (p + 1) c1
      generalize g (p + 1) = r at g1 g2 g3
      obtain ⟨q, o⟩ := r
      cases o with
      | none => exact ⟨g1, by dsimp only at g2 ⊢; omega, fun st h => by cases h⟩
      | some st2 =>
        obtain ⟨g4, g5, g6⟩ := g3 st2 rfl
        dsimp only at g1 g2 g4 g5 ⊢
        obtain ⟨r1, r2, r3⟩ := fMor_gd hc hg hx hy k q p0 (st ++ (st2 ++ [y])) g1 (by omega) (by rw [List.length_append, List.length_append, List.length_singleton]; omega) (fun h hF => by
          rw [zok_app st _ h (h + 1) (h2 h hF), zok_app st2 _ (h + 1) (h + 1 + 1) (g6 (h + 1) (by omega)), zok, zok1]
          rcases hy with rfl | rfl
          · simp
            rfl
          · simp
            rfl)
        exact ⟨r1, by omega, r3⟩
    · exact ⟨hp, Nat.le_refl _, fun st' h => by cases h; exact ⟨h0, h1, h2⟩⟩
theorem fPar_gd (hc : ∀ p, c p < 128 ↔ p < N) {F x y : Nat} {g : Nat → fR} (hg : fGd N F g) (hx : x < 128) (hy : y = 1501 ∨ y = 1502) : fGd N (F + 1) (fPar c g x y) := by
  intro p hp
  obtain ⟨g1, g2, g3⟩ := hg p hp
  unfold fPar
  generalize g p = r at g1 g2 g3
  obtain ⟨q, o⟩ := r
  cases o with
  | none => exact ⟨g1, g2, fun st h => by cases h⟩
  | some st =>
    obtain ⟨g4, g5, g6⟩ := g3 st rfl
    dsimp only at g1 g2 g4 g5 ⊢
    obtain ⟨r1, r2, r3⟩ := fMor_gd hc hg hx hy 100 q p st g1 g4 g5 (fun h hF => g6 h (by omega))
    exact ⟨r1, by omega, r3⟩
theorem fAny_gd (hc : ∀ p, c p < 128 ↔ p < N) {F : Nat} {g : Nat → fR} (hg : fGd N F g) : fGd N (F + 2) (fAny c g) := fPar_gd hc (fPar_gd hc hg (by decide) (Or.inl rfl)) (by decide) (Or.inr rfl)
theorem fOne_gd (hc : ∀ p, c p < 128 ↔ p < N) : ∀ f, fGd N (2 * f) (fOne c f)
  | 0 => by
    intro p hp
    rw [fOne]
    split
    · exact ⟨hp, Nat.le_refl _, fun st h => by cases h⟩
    · exact fTst_gd hc p hp
  | f + 1 => by
    intro p hp
    rw [fOne]
    split
    · rename_i hcp
      have c1 : p < N := (hc p).mp (by omega)
      obtain ⟨g1, g2, g3⟩ := fAny_gd hc (fOne_gd hc f) (p + 1) c1
      generalize fAny c (fOne c f) (p + 1) = r at g1 g2 g3
      obtain ⟨q, o⟩ := r
      cases o with
      | none => exact ⟨g1, by dsimp only at g2 ⊢; omega, fun st h => by cases h⟩
      | some st =>
        obtain ⟨g4, g5, g6⟩ := g3 st rfl
        dsimp only at g1 g2 g4 g5 ⊢
        split
        · rename_i hcq
          have c2 : q < N := (hc q).mp (by omega)
          refine ⟨by dsimp only; omega, by dsimp only; omega, fun st h => ?_⟩
          cases h
          exact ⟨by dsimp only; omega, by dsimp only; omega, fun h hF => g6 h (by omega)⟩
        · exact ⟨g1, by dsimp only; omega, fun st h => by cases h⟩
    · split
      · rename_i hcp
        have c1 : p < N := (hc p).mp (by omega)
        obtain ⟨g1, g2, g3⟩ := fOne_gd hc f (p + 1) c1
        generalize fOne c f (p + 1) = r at g1 g2 g3
        obtain ⟨q, o⟩ := r
        cases o with
        | none => exact ⟨g1, by dsimp only at g2 ⊢; omega, fun st h => by cases h⟩
        | some st =>
          obtain ⟨g4, g5, g6⟩ := g3 st rfl
          dsimp only at g1 g2 g4 g5 ⊢
          refine ⟨g1, by omega, fun st' h => ?_⟩
          cases h
          refine ⟨by omega, by rw [List.length_append, List.length_singleton]; omega, fun h hF => ?_⟩
          rw [zok_app st _ h (h + 1) (g6 h (by omega)), zok, zok1]
          simp
          rfl
      · exact fTst_gd hc p hp
end
/-! clauses and the whole text -/
def fSp (c : Nat → Nat) : List Nat → Nat → Nat × Bool
  | [], p => (p, true)
  | x :: l, p => if c p = x then fSp c l (p + 1) else (p, false)
def fWd (x : Nat) : Option (Nat × List Nat) := if x = 98 then some (0, [98, 101, 97, 114, 32]) else if x = 116 then some (1, [116, 117, 114, 110, 32]) else if x = 119 then some (2, [119, 105, 110, 100, 32]) else if x = 112 then some (3, [112, 114, 105, 99, 101, 32]) else none
def fCla (c : Nat → Nat) (p : Nat) : Nat × Option zCl := match fWd (c p) with
  | none => (p, none)
  | some (w, l) => match fSp c l p with
    | (q, false) => (q, none)
    | (q, true) => match fNum c q with
      | (r, none) => (r, none)
      | (r, some n) => if w ≤ 1 then (r, some (w, (n, []))) else if c r = 32 then (match fAny c (fOne c 5) (r + 1) with
          | (s, none) => (s, none)
          | (s, some st) => (s, some (w, (n, st)))) else (r, none)
def fRd (c : Nat → Nat) (N : Nat) : Nat → Nat → List zCl → Nat × Option (List zCl)
  | 0, p, _ => (p, none)
  | m + 1, p, C => match fCla c p with
    | (q, none) => (q, none)
    | (q, some cl) => if q = N then (q, some (C ++ [cl])) else if m = 0 then (q, none) else if c q = 59 then fRd c N m (q + 1) (C ++ [cl]) else (q, none)
