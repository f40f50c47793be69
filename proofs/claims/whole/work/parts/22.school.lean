/-! SCHOOLS: a clause is (word, number, steps); a step below 1500 is a test (300 letter + 100 sign + number), 1500 not, 1501 and, 1502 or -/
abbrev zCl : Type := Nat × (Nat × List Nat)
def zcs (t : Nat) : Int32 := if t < 1500 then nI t else -nI (t - 1499)
def ztest (v : Nat → Int32) (t : Nat) : Bool := if t % 300 / 100 = 0 then decide (v (t / 300) < nI (t % 100)) else if t % 300 / 100 = 1 then decide (v (t / 300) = nI (t % 100)) else decide (nI (t % 100) < v (t / 300))
def zev1 (v : Nat → Int32) (t : Nat) : List Bool → List Bool
  | [] => if t < 1500 then [ztest v t] else []
  | [a] => if t < 1500 then [ztest v t, a] else if t = 1500 then [!a] else [a]
  | b :: a :: r => if t < 1500 then ztest v t :: b :: a :: r else if t = 1500 then (!b) :: a :: r else if t = 1501 then (a && b) :: r else (a || b) :: r
def zev (v : Nat → Int32) : List Nat → List Bool → List Bool
  | [], st => st
  | t :: p, st => zev v p (zev1 v t st)
/-- the height of the stack behind a step, if it fits -/
def zok1 (h t : Nat) : Option Nat := if t < 1500 then (if h < 30 then some (h + 1) else none) else if t = 1500 then (if 1 ≤ h then some h else none) else if t = 1501 ∨ t = 1502 then (if 2 ≤ h then some (h - 1) else none) else none
def zok : Nat → List Nat → Option Nat
  | h, [] => some h
  | h, t :: p => match zok1 h t with
    | some h' => zok h' p
    | none => none
def zcB (v : Nat → Int32) (p : List Nat) : Bool := (zev v p []).headD false
/-- where the steps of the first clauses end -/
def zend : List zCl → Nat → Nat
  | _, 0 => 0
  | [], _ + 1 => 0
  | c :: C, i + 1 => c.2.2.length + zend C i
def zflat (C : List zCl) : List Nat := C.flatMap (fun c => c.2.2)
def zwf (c : zCl) : Prop := c.1 ≤ 3 ∧ c.2.1 ≤ 99 ∧ ((c.1 ≤ 1 ∧ c.2.2 = []) ∨ (2 ≤ c.1 ∧ zok 0 c.2.2 = some 1))
/-- school j of the class holds these clauses -/
def zES (I : zMI) (j : Nat) (C : List zCl) : Prop := I 6 j 5 = nI C.length ∧ C.length ≤ 10 ∧ (zflat C).length ≤ 100 ∧ (∀ c ∈ C, zwf c) ∧
  (∀ i c, C[i]? = some c → I 30 j i = nI c.1 ∧ I 31 j i = nI c.2.1 ∧ I 32 j i = nI (zend C (i + 1))) ∧ ∀ k t, (zflat C)[k]? = some t → I 33 j k = zcs t
/-- the last number of a word -/
def zlast : List zCl → Nat → Int32 → Int32
  | [], _, n => n
  | c :: C, w, n => zlast C w (if c.1 = w then nI c.2.1 else n)
/-- the numbers of a word whose condition holds -/
def zcsum (v : Nat → Int32) : List zCl → Nat → Nat
  | [], _ => 0
  | c :: C, w => (if c.1 = w ∧ zcB v c.2.2 = true then c.2.1 else 0) + zcsum v C w
section
variable {d : Nat} {I : zMI} {rl rs : Option (Nat × Nat)} {Q : zPQ} {j : Nat}
set_option maxHeartbeats 4000000 in
set_option maxRecDepth 100000 in
theorem s_clear (h : Q none (zup (zup I 6 j 5 0) 6 j 6 0) (zRR rl rs)) : zWm d 48 [zr 6 j] I (zRR rl rs) Q := by
  refine z_auto rfl ?_
  exact z_rt rfl h
set_option maxHeartbeats 4000000 in
set_option maxRecDepth 100000 in
theorem s_addStep {x : Int32} {n : Nat} (hn : I 6 j 6 = nI n) (h8 : n < 100) (h : Q none (zup (zup I 33 j n x) 6 j 6 (nI (n + 1))) (zRR rl rs)) : zWm d 50 [zr 6 j, zi x] I (zRR rl rs) Q := by
  refine z_auto rfl ?_
  refine z_br rfl (fun c => ?_) (fun c => ?_)
  · rw [hn] at c
    exact absurd c (nI_pos (by omega))
  · refine z_auto rfl ?_
    refine z_br rfl (fun c2 => ?_) (fun c2 => ?_)
    · rw [hn] at c2
      exact absurd c2 (nI_ge (a := n) (b := 100) (by omega) (by omega))
    · refine z_auto rfl ?_
      refine z_ast (k := n) rfl hn (by show n < 100; omega) ?_
      have e : zup I 33 j n x 6 j 6 + 1 = nI (n + 1) := by
        rw [zup_c (by decide), hn]
        exact nI_1 n
      rw [← e] at h
      refine z_auto rfl ?_
      refine z_jp rfl ?_
      refine z_auto rfl ?_
      exact z_rt rfl h
set_option maxHeartbeats 4000000 in
set_option maxRecDepth 100000 in
theorem s_addClause {w x : Int32} {n : Nat} (hn : I 6 j 5 = nI n) (h8 : n < 10) (h : Q none (zup (zup (zup (zup I 30 j n w) 31 j n x) 32 j n (I 6 j 6)) 6 j 5 (nI (n + 1))) (zRR rl rs)) : zWm d 51 [zr 6 j, zi w, zi x] I (zRR rl rs) Q := by
  refine z_auto rfl ?_
  refine z_br rfl (fun c => ?_) (fun c => ?_)
  · rw [hn] at c
    exact absurd c (nI_pos (by omega))
  · refine z_auto rfl ?_
    refine z_br rfl (fun c2 => ?_) (fun c2 => ?_)
    · rw [hn] at c2
      exact absurd c2 (nI_ge (a := n) (b := 10) (by omega) (by omega))
    · refine z_auto rfl ?_
      refine z_ast (k := n) rfl hn (by show n < 10; omega) ?_
      refine z_auto rfl ?_
      refine z_ast (k := n) rfl (by rw [zup_c (by decide)]; exact hn) (by show n < 10; omega) ?_
      refine z_auto rfl ?_
      refine z_ast (k := n) rfl (by rw [zup_c (by decide), zup_c (by decide)]; exact hn) (by show n < 10; omega) ?_
      have e : zup (zup (zup I 30 j n w) 31 j n x) 32 j n (I 6 j 6) 6 j 5 + 1 = nI (n + 1) := by
        rw [zup_c (by decide), zup_c (by decide), zup_c (by decide), hn]
        exact nI_1 n
      have e2 : zup (zup I 30 j n w) 31 j n x 6 j 6 = I 6 j 6 := by
        rw [zup_c (by decide), zup_c (by decide)]
      rw [← e] at h
      rw [e2]
      refine z_auto rfl ?_
      refine z_jp rfl ?_
      refine z_auto rfl ?_
      exact z_rt rfl h
theorem zlast_snoc (C : List zCl) (c : zCl) (w : Nat) (n : Int32) : zlast (C ++ [c]) w n = if c.1 = w then nI c.2.1 else zlast C w n := by
  induction C generalizing n with
  | nil => rfl
  | cons a C ih => exact ih _
set_option maxHeartbeats 4000000 in
set_option maxRecDepth 100000 in
theorem s_last {C : List zCl} (hE : zES I j C) {w : Nat} (hw : w ≤ 3) {n0 : Int32} (h : Q (some (zi (zlast C w n0))) I (zRR rl rs)) : zWm d 52 [zr 6 j, zi (nI w), zi n0] I (zRR rl rs) Q := by
  obtain ⟨e1, e2, e3, e4, e5, e6⟩ := hE
  have loop : ∀ k i, i + k = C.length → zW d kX6_last (zblk kX6_last 1) [some (zr 6 j), some (zi (nI w)), some (zi n0), some (zi (zlast (C.take i) w n0)), some (zi (nI i))] [] I (zRR rl rs) Q := by
    intro k
    induction k with
    | zero =>
      intro i hi
      refine z_auto rfl ?_
      refine z_br rfl (fun c => ?_) (fun c => ?_)
      · have : i = C.length := by omega
        subst this
        rw [List.take_length]
        refine z_auto rfl ?_
        exact z_rt rfl h
      · exact absurd (by rw [e1]; exact nI_le (by omega) (by omega)) c
    | succ k ih =>
      intro i hi
      refine z_auto rfl ?_
      refine z_br rfl (fun c => ?_) (fun c => ?_)
      · rw [e1] at c
        exact absurd c (nI_ge (by omega) (by omega))
      · refine z_auto rfl ?_
        refine z_br rfl (fun c2 => ?_) (fun c2 => ?_)
        · exact absurd c2 (nI_ge (a := i) (b := 10) (by omega) (by omega))
        · have hlt : i < C.length := by omega
          have hg : C[i]? = some C[i] := List.getElem?_eq_getElem hlt
          obtain ⟨g1, g2, g3⟩ := e5 i _ hg
          have hw1 := (e4 _ (List.getElem_mem hlt)).1
          have h2 := ih (i + 1) (by omega)
          rw [List.take_succ, hg, Option.toList_some, zlast_snoc, nI_succ] at h2
          refine z_auto rfl ?_
          refine z_ald (k := i) rfl rfl (by show i < 10; omega) ?_
          rw [g1]
          refine z_auto rfl ?_
          refine z_br rfl (fun c3 => ?_) (fun c3 => ?_)
          · rw [if_neg (fun q => c3 (by rw [q]))] at h2
            refine z_auto rfl ?_
            refine z_jp rfl ?_
            exact h2
          · have hq : C[i].1 = w := (nI_eq (by omega) (by omega)).mp (Classical.not_not.mp c3)
            rw [if_pos hq, ← g2] at h2
            refine z_auto rfl ?_
            refine z_ald (k := i) rfl rfl (by show i < 10; omega) ?_
            refine z_auto rfl ?_
            refine z_jp rfl ?_
            refine z_auto rfl ?_
            refine z_jp rfl ?_
            exact h2
  refine z_auto rfl ?_
  refine z_jp rfl ?_
  exact loop C.length 0 (by omega)
set_option maxHeartbeats 4000000 in
set_option maxRecDepth 100000 in
theorem s_setTest {a b c e f : Int32} (h : Q none (zup (zup (zup (zup (zup I 34 j 0 a) 34 j 1 b) 34 j 2 c) 34 j 3 e) 34 j 4 f) (zRR rl rs)) : zWm d 53 [zr 6 j, zi a, zi b, zi c, zi e, zi f] I (zRR rl rs) Q := by
  refine z_auto rfl ?_
  refine z_ast (k := 0) rfl rfl (by decide) ?_
  refine z_auto rfl ?_
  refine z_ast (k := 1) rfl rfl (by decide) ?_
  refine z_auto rfl ?_
  refine z_ast (k := 2) rfl rfl (by decide) ?_
  refine z_auto rfl ?_
  refine z_ast (k := 3) rfl rfl (by decide) ?_
  refine z_auto rfl ?_
  refine z_ast (k := 4) rfl rfl (by decide) ?_
  refine z_auto rfl ?_
  exact z_rt rfl h
set_option maxHeartbeats 4000000 in
set_option maxRecDepth 100000 in
theorem s_passes {t : Nat} (ht : t < 1500) (h1 : ztest (I 34 j) t = true → Q (some (zi 1)) I (zRR rl rs)) (h0 : ztest (I 34 j) t = false → Q (some (zi 0)) I (zRR rl rs)) : zWm d 56 [zr 6 j, zi (nI t)] I (zRR rl rs) Q := by
  have d1 : nI t / 300 = nI (t / 300) := pk_div (a := t) (d := 300) (by omega) (by omega) (by omega)
  have d2 : nI t - nI t / 300 * 300 = nI (t % 300) := pk_rem (a := t) (d := 300) (by omega) (by omega) (by omega)
  have d3 : nI (t % 300) / 100 = nI (t % 300 / 100) := pk_div (a := t % 300) (d := 100) (by omega) (by omega) (by omega)
  have d4 : nI t - nI t / 100 * 100 = nI (t % 100) := pk_rem (a := t) (d := 100) (by omega) (by omega) (by omega)
  have hl : t / 300 < 5 := by omega
  refine z_auto rfl ?_
  first | refine z_st rfl ?_ | refine z_ck rfl (by decide) ?_
  rw [d1]
  refine z_auto rfl ?_
  refine z_br rfl (fun c => ?_) (fun c => ?_)
  · exact absurd c (nI_pos (by omega))
  · refine z_auto rfl ?_
    refine z_br rfl (fun c2 => ?_) (fun c2 => ?_)
    · refine z_auto rfl ?_
      first | refine z_st rfl ?_ | refine z_ck rfl (by decide) ?_
      rw [d2]
      refine z_auto rfl ?_
      first | refine z_st rfl ?_ | refine z_ck rfl (by decide) ?_
      rw [d3]
      refine z_auto rfl ?_
      first | refine z_st rfl ?_ | refine z_ck rfl (by decide) ?_
      rw [d4]
      refine z_auto rfl ?_
      refine z_br rfl (fun c3 => ?_) (fun c3 => ?_)
      · have q0 : ¬ t % 300 / 100 = 0 := fun q => c3 (by rw [q]; rfl)
        refine z_auto rfl ?_
        refine z_br rfl (fun c4 => ?_) (fun c4 => ?_)
        · have q1 : ¬ t % 300 / 100 = 1 := fun q => c4 (by rw [q]; rfl)
          refine z_auto rfl ?_
          refine z_ald (k := (t / 300)) rfl rfl (by show t / 300 < 5; omega) ?_
          refine z_auto rfl ?_
          refine z_br rfl (fun c5 => ?_) (fun c5 => ?_)
          · refine z_auto rfl ?_
            refine z_jp rfl ?_
            refine z_auto rfl ?_
            exact z_rt rfl (h0 (by unfold ztest; rw [if_neg q0, if_neg q1]; exact decide_eq_false (Int32.not_lt.mpr c5)))
          · refine z_auto rfl ?_
            refine z_jp rfl ?_
            refine z_auto rfl ?_
            exact z_rt rfl (h1 (by unfold ztest; rw [if_neg q0, if_neg q1]; exact decide_eq_true (Int32.not_le.mp c5)))
        · have q1 : t % 300 / 100 = 1 := (nI_eq (a := t % 300 / 100) (b := 1) (by omega) (by omega)).mp (Classical.not_not.mp c4)
          refine z_auto rfl ?_
          refine z_ald (k := (t / 300)) rfl rfl (by show t / 300 < 5; omega) ?_
          refine z_auto rfl ?_
          refine z_br rfl (fun c5 => ?_) (fun c5 => ?_)
          · refine z_auto rfl ?_
            refine z_jp rfl ?_
            refine z_auto rfl ?_
            exact z_rt rfl (h0 (by unfold ztest; rw [if_neg q0, if_pos q1]; exact decide_eq_false c5))
          · refine z_auto rfl ?_
            refine z_jp rfl ?_
            refine z_auto rfl ?_
            exact z_rt rfl (h1 (by unfold ztest; rw [if_neg q0, if_pos q1]; exact decide_eq_true (Classical.not_not.mp c5)))
      · have q0 : t % 300 / 100 = 0 := (nI_eq (a := t % 300 / 100) (b := 0) (by omega) (by omega)).mp (Classical.not_not.mp c3)
        refine z_auto rfl ?_
        refine z_ald (k := (t / 300)) rfl rfl (by show t / 300 < 5; omega) ?_
        refine z_auto rfl ?_
        refine z_br rfl (fun c5 => ?_) (fun c5 => ?_)
        · refine z_auto rfl ?_
          refine z_jp rfl ?_
          refine z_auto rfl ?_
          exact z_rt rfl (h0 (by unfold ztest; rw [if_pos q0]; exact decide_eq_false (Int32.not_lt.mpr c5)))
        · refine z_auto rfl ?_
          refine z_jp rfl ?_
          refine z_auto rfl ?_
          exact z_rt rfl (h1 (by unfold ztest; rw [if_pos q0]; exact decide_eq_true (Int32.not_le.mp c5)))
    · exact absurd ((nI_ltI (a := t / 300) (b := 5) (by omega) (by omega)).mpr hl) c2
end
