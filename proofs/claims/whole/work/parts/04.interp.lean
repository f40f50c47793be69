/-! THE ABSTRACT MACHINE: a fixed world of objects (kind, number), their ints and references; one instruction a step. -/
abbrev zAV : Type := Int32 ⊕ (Int64 ⊕ Option (Nat × Nat))
abbrev zi (x : Int32) : zAV := .inl x
abbrev zl (x : Int64) : zAV := .inr (.inl x)
abbrev zn : zAV := .inr (.inr none)
abbrev zr (c i : Nat) : zAV := .inr (.inr (some (c, i)))
abbrev zXL : Type := List (Option zAV)
abbrev zMI : Type := Nat → Nat → Nat → Int32
abbrev zMR : Type := Nat → Nat → Nat → Option (Nat × Nat)
/-- locals, stack, ints, references -/
abbrev zXS : Type := zXL × (List zAV × (zMI × zMR))
abbrev zRS : Type := Option zAV × (zMI × zMR)
/-- what an instruction does: on (at a block, or the next), a call (method, arguments, the rest), an end, a fault -/
abbrev zEV : Type := (Option Nat × zXS) ⊕ ((Nat × (List zAV × zXS)) ⊕ Option zRS)
abbrev zeN (s : zXS) : zEV := .inl (none, s)
abbrev zeJ (b : Nat) (s : zXS) : zEV := .inl (some b, s)
abbrev zeC (m : Nat) (a : List zAV) (s : zXS) : zEV := .inr (.inl (m, (a, s)))
abbrev zeR (v : Option zAV) (I : zMI) (G : zMR) : zEV := .inr (.inr (some (v, (I, G))))
abbrev zeF : zEV := .inr (.inr none)
/-- kinds: 0 an object (of the class of that number), 1 ints, 2 booleans, 3 schools, 4 a text, 5 the table -/
def zsh : Nat → Nat := fun c => if c ≤ 10 then 0 else if c = 43 then 2 else if c = 51 then 2 else if c = 50 then 3 else if c = 60 then 4 else if c = 61 then 5 else 1
def zalL : List Nat := [0, 0, 0, 0, 0, 0, 0, 0, 0, 0, 0, 0, 0, 0, 0, 0, 0, 0, 0, 0, 8, 8, 8, 8, 8, 24, 8, 8, 8, 100, 10, 10, 10, 100, 5, 20, 0, 0, 0, 0, 937, 937, 5, 64, 5, 20, 0, 0, 0, 0, 6, 100]
def zgn : List Nat → Nat → Nat
  | [], _ => 0
  | a :: _, 0 => a
  | _ :: t, k + 1 => zgn t k
/-- the length of an array -/
def zal (c : Nat) : Nat := zgn zalL c
/-- the types of the fields: 0 int, 1 boolean, 2 a reference -/
def zfyL : List (List Nat) := [[2, 0, 0, 0, 0], [2, 2, 2, 2, 2, 0, 0], [0, 1], [2, 0, 0, 2, 0, 0, 0, 0, 0, 1], [2, 2, 2, 2, 2, 2, 0, 0], [2, 2, 0, 0], [2, 2, 2, 2, 2, 0, 0], [2, 2, 2, 0], [2, 0], [2, 2, 1, 2, 2, 2, 2, 2], [0, 2, 2, 1, 0, 0, 0, 1, 0, 2, 2, 0, 0, 0, 0, 0, 0, 0, 1, 0, 2, 2, 0, 0, 0, 0]]
def zgl2 : List (List Nat) → Nat → List Nat
  | [], _ => []
  | a :: _, 0 => a
  | _ :: t, k + 1 => zgl2 t k
def zfy (c k : Nat) : Nat := zgn (zgl2 zfyL c) k
def znf (c : Nat) : Nat := (zgl2 zfyL c).length
/-- the texts and the table -/
def zstL : List (List Int32) := [[98, 101, 97, 114, 32], [116, 117, 114, 110, 32], [119, 105, 110, 100, 32], [112, 114, 105, 99, 101, 32], [102, 115, 107, 116, 121], [60, 61, 62]]
def zgs : List (List Int32) → Nat → List Int32
  | [], _ => []
  | a :: _, 0 => a
  | _ :: t, k + 1 => zgs t k
def zgi : List Int32 → Nat → Int32
  | [], _ => 0
  | a :: _, 0 => a
  | _ :: t, k + 1 => zgi t k
def zst (i : Nat) : List Int32 := zgs zstL i
def ztab (j : Nat) : Int32 := zgi [-1, 0, 0, 0, 1, 2, 3] j
/-- locals -/
def zgl : zXL → Nat → Option zAV
  | [], _ => none
  | v :: _, 0 => v
  | _ :: t, k + 1 => zgl t k
def zlg : Option zAV → Bool
  | some (.inr (.inl _)) => true
  | _ => false
/-- a value of one place into a place -/
def zs1 : zXL → Nat → zAV → Option zXL
  | [], _, _ => none
  | _ :: t, 0, v => some (some v :: t)
  | h :: t, k + 1, v => if (zlg h && k == 0) = true then none else match zs1 t k v with
    | some t' => some (h :: t')
    | none => none
def zs2 : zXL → Nat → zAV → Option zXL
  | _ :: _ :: t, 0, v => some (some v :: none :: t)
  | h :: t, k + 1, v => if (zlg h && k == 0) = true then none else match zs2 t k v with
    | some t' => some (h :: t')
    | none => none
  | _, _, _ => none
def zin (L : zXL) : Nat := L.length
/-- the first n of a stack, as arguments -/
def zpop : Nat → List zAV → List zAV → Option (List zAV × List zAV)
  | 0, a, S => some (a, S)
  | n + 1, a, v :: S => zpop n (v :: a) S
  | _ + 1, _, [] => none
def zshort : List zAV → Bool
  | [] => true
  | [_] => true
  | [_, _] => true
  | [_, _, _] => true
  | [_, _, _, _] => true
  | _ => false
/-- stores -/
def zup (I : zMI) (c i k : Nat) (v : Int32) : zMI := fun c' i' k' => if c' = c ∧ i' = i ∧ k' = k then v else I c' i' k'
def zur (G : zMR) (c i k : Nat) (v : Option (Nat × Nat)) : zMR := fun c' i' k' => if c' = c ∧ i' = i ∧ k' = k then v else G c' i' k'
def zcp (I : zMI) (cs js cd jd n : Nat) : zMI := fun c i k => if c = cd ∧ i = jd ∧ k < n then I cs js k else I c i k
def zbin : Nat → Int32 → Int32 → Int32
  | 0, x, y => x + y
  | 1, x, y => x - y
  | 2, x, y => x * y
  | 3, x, y => x &&& y
  | 4, x, y => x ||| y
  | 5, x, y => x ^^^ y
  | 6, x, y => x <<< (y &&& 31)
  | _, x, y => x >>> (y &&& 31)
def zcj (b a : Nat) (x y : Int32) (s : zXS) : zEV := match b with
  | 0 => if x = y then zeJ a s else zeN s
  | 1 => if ¬ x = y then zeJ a s else zeN s
  | 2 => if x < y then zeJ a s else zeN s
  | 3 => if y ≤ x then zeJ a s else zeN s
  | 4 => if y < x then zeJ a s else zeN s
  | _ => if x ≤ y then zeJ a s else zeN s
def zgsw : List (List (Int32 × Nat) × Nat) → Nat → List (Int32 × Nat) × Nat
  | [], _ => ([], 0)
  | a :: _, 0 => a
  | _ :: t, k + 1 => zgsw t k
def zsw : List (Int32 × Nat) → Nat → Int32 → zXS → zEV
  | [], d, _, s => zeJ d s
  | p :: l, d, x, s => if x = p.1 then zeJ p.2 s else zsw l d x s
def zex2 (i : zAI) (L : zXL) (S : List zAV) (I : zMI) (G : zMR) : zEV := match i.1, S with
  | 13, .inr (.inr (some (c, j))) :: S => if c = i.2.1 ∧ c ≤ 10 ∧ i.2.2.1 < znf c ∧ zfy c i.2.2.1 < 2 then zeN (L, zi (I c j i.2.2.1) :: S, I, G) else zeF
  | 14, .inr (.inr (some (c, j))) :: S => if c = i.2.1 ∧ c ≤ 10 ∧ i.2.2.1 < znf c ∧ zfy c i.2.2.1 = 2 then zeN (L, .inr (.inr (G c j i.2.2.1)) :: S, I, G) else zeF
  | 15, .inl x :: .inr (.inr (some (c, j))) :: S => if c = i.2.1 ∧ c ≤ 10 ∧ i.2.2.1 < znf c ∧ zfy c i.2.2.1 = 0 then zeN (L, S, zup I c j i.2.2.1 x, G) else zeF
  | 54, .inl x :: .inr (.inr (some (c, j))) :: S => if c = i.2.1 ∧ c ≤ 10 ∧ i.2.2.1 < znf c ∧ zfy c i.2.2.1 = 1 then (if x = 0 ∨ x = 1 then zeN (L, S, zup I c j i.2.2.1 x, G) else zeF) else zeF
  | 16, .inr (.inr (some (c2, j2))) :: .inr (.inr (some (c, j))) :: S => if c = i.2.1 ∧ c ≤ 10 ∧ i.2.2.1 < znf c ∧ zfy c i.2.2.1 = 2 then zeN (L, S, I, zur G c j i.2.2.1 (some (c2, j2))) else zeF
  | 17, .inl x :: .inr (.inr (some (c, j))) :: S => if zsh c = 1 then (if 0 ≤ x ∧ x.toNatClampNeg < zal c then zeN (L, zi (I c j x.toNatClampNeg) :: S, I, G) else zeF) else if zsh c = 5 then (if 0 ≤ x ∧ x.toNatClampNeg < 7 then zeN (L, zi (ztab x.toNatClampNeg) :: S, I, G) else zeF) else zeF
  | 18, .inl v :: .inl x :: .inr (.inr (some (c, j))) :: S => if zsh c = 1 then (if 0 ≤ x ∧ x.toNatClampNeg < zal c then zeN (L, S, zup I c j x.toNatClampNeg v, G) else zeF) else zeF
  | 19, .inl x :: .inr (.inr (some (c, j))) :: S => if zsh c = 2 then (if 0 ≤ x ∧ x.toNatClampNeg < zal c then zeN (L, zi (I c j x.toNatClampNeg) :: S, I, G) else zeF) else zeF
  | 20, .inl v :: .inl x :: .inr (.inr (some (c, j))) :: S => if zsh c = 2 then (if (0 ≤ x ∧ x.toNatClampNeg < zal c) ∧ (v = 0 ∨ v = 1) then zeN (L, S, zup I c j x.toNatClampNeg v, G) else zeF) else zeF
  | 21, .inr (.inr (some (c, _))) :: S => if zsh c = 1 ∨ zsh c = 2 ∨ zsh c = 3 then zeN (L, zi (nI (zal c)) :: S, I, G) else zeF
  | 22, .inl x :: .inr (.inr (some (c, j))) :: S => if zsh c = 3 then (if 0 ≤ x ∧ x.toNatClampNeg < zal c then zeN (L, .inr (.inr (G c j x.toNatClampNeg)) :: S, I, G) else zeF) else zeF
  | 39, .inr (.inr (some (c, j))) :: S => if zsh c = 4 ∧ zshort S = true ∧ j < 6 then zeN (L, zi (nI (zst j).length) :: S, I, G) else zeF
  | 40, .inl x :: .inr (.inr (some (c, j))) :: S => if zsh c = 4 ∧ zshort S = true ∧ j < 6 then (if 0 ≤ x ∧ x.toNatClampNeg < (zst j).length then zeN (L, zi (zgi (zst j) x.toNatClampNeg) :: S, I, G) else zeF) else zeF
  | 41, S => if i.2.1 < 6 then zeN (L, zr 60 i.2.1 :: S, I, G) else zeF
  | 44, .inl n :: .inl dp :: .inr (.inr (some (c, j))) :: .inl sp :: .inr (.inr (some (c0, j0))) :: S => if zsh c = 1 ∧ zsh c0 = 1 ∧ zal c0 = zal c ∧ n = nI (zal c) ∧ sp = 0 ∧ dp = 0 ∧ zshort S = true then zeN (L, S, zcp I c0 j0 c j (zal c), G) else zeF
  | 45, S => zeN (L, zr 61 0 :: S, I, G)
  | _, _ => zeF
def zex1 (i : zAI) (L : zXL) (S : List zAV) (I : zMI) (G : zMR) : zEV := match i.1, S with
  | 0, S => (match zgl L i.2.1 with | some (.inl x) => zeN (L, zi x :: S, I, G) | _ => zeF)
  | 1, .inl x :: S => (match zs1 L i.2.1 (zi x) with | some L' => zeN (L', S, I, G) | none => zeF)
  | 2, .inr (.inl x) :: S => (match zs2 L i.2.1 (zl x) with | some L' => zeN (L', S, I, G) | none => zeF)
  | 3, S => zeN (L, zi i.2.2.2 :: S, I, G)
  | 4, S => (match zgl L i.2.1 with | some (.inl x) => (match zs1 L i.2.1 (zi (x + i.2.2.2)) with | some L' => zeN (L', S, I, G) | none => zeF) | _ => zeF)
  | 5, .inl y :: .inl x :: S => zeN (L, zi (zbin i.2.2.1 x y) :: S, I, G)
  | 6, .inl y :: .inl x :: S => if ¬ y = 0 then zeN (L, zi (x / y) :: S, I, G) else zeF
  | 7, .inl y :: .inl x :: S => if ¬ y = 0 then zeN (L, zi (x - x / y * y) :: S, I, G) else zeF
  | 8, .inl x :: S => zeN (L, zi (-x) :: S, I, G)
  | 9, .inl y :: .inl x :: S => zcj i.2.2.1 i.2.1 x y (L, S, I, G)
  | 10, .inl x :: S => zcj i.2.2.1 i.2.1 x 0 (L, S, I, G)
  | 11, S => zeJ i.2.1 (L, S, I, G)
  | 12, S => zeJ i.2.1 (L, S, I, G)
  | 23, S => (match zpop i.2.2.1 [] S with | some (a, S') => if zshort S' = true then zeC i.2.1 a (L, S', I, G) else zeF | none => zeF)
  | 24, [] => zeR none I G
  | 25, [.inl x] => zeR (some (zi x)) I G
  | 26, [.inl x] => if x = 0 ∨ x = 1 then zeR (some (zi x)) I G else zeF
  | 27, [.inr (.inl x)] => zeR (some (zl x)) I G
  | 28, [.inr (.inr (some p))] => zeR (some (.inr (.inr (some p)))) I G
  | 29, .inl x :: S => zeN (L, zi x :: zi x :: S, I, G)
  | 29, .inr (.inr p) :: S => zeN (L, .inr (.inr p) :: .inr (.inr p) :: S, I, G)
  | 30, .inl x :: .inr (.inr p) :: S => zeN (L, zi x :: .inr (.inr p) :: zi x :: .inr (.inr p) :: S, I, G)
  | 31, .inl _ :: S => zeN (L, S, I, G)
  | 32, S => zeN (L, zl i.2.2.2.toInt64 :: S, I, G)
  | 33, .inl x :: S => zeN (L, zl x.toInt64 :: S, I, G)
  | 34, .inr (.inl y) :: .inr (.inl x) :: S => zeN (L, zl (x + y) :: S, I, G)
  | 35, .inr (.inl y) :: .inr (.inl x) :: S => if ¬ y = 0 then zeN (L, zl (x - x / y * y) :: S, I, G) else zeF
  | 36, .inr (.inl y) :: .inr (.inl x) :: S => if ¬ y = 0 then zeN (L, zl (x / y) :: S, I, G) else zeF
  | 37, .inr (.inl y) :: .inr (.inl x) :: S => zeN (L, zi (lg_cmp x y) :: S, I, G)
  | 38, .inl x :: S => zsw (zgsw zSW i.2.1).1 (zgsw zSW i.2.1).2 x (L, S, I, G)
  | 42, .inl y :: .inl x :: S => if zshort S = true then zeN (L, zi (if x < y then y else x) :: S, I, G) else zeF
  | 43, .inl y :: .inl x :: S => if zshort S = true then zeN (L, zi (if y < x then y else x) :: S, I, G) else zeF
  | 47, S => zeN (L, zl (-9223372036854775808) :: S, I, G)
  | 55, S => (match zgl L i.2.1 with | some (.inr (.inr (some p))) => zeN (L, .inr (.inr (some p)) :: S, I, G) | _ => zeF)
  | 56, S => (match zgl L i.2.1 with | some (.inr (.inl x)) => zeN (L, zl x :: S, I, G) | _ => zeF)
  | 57, .inr (.inr (some p)) :: S => (match zs1 L i.2.1 (.inr (.inr (some p))) with | some L' => zeN (L', S, I, G) | none => zeF)
  | _, _ => zex2 i L S I G
def zex (i : zAI) (s : zXS) : zEV := zex1 i s.1 s.2.1 s.2.2.1 s.2.2.2
/-- blocks -/
def zblk : List (List zAI) → Nat → List zAI
  | [], _ => []
  | b :: _, 0 => b
  | _ :: t, k + 1 => zblk t k
def zbk : List (List (List zAI)) → Nat → List (List zAI)
  | [], _ => []
  | b :: _, 0 => b
  | _ :: t, k + 1 => zbk t k
def zbm (m : Nat) : List (List zAI) := zbk zbmL m
def zgt : List (MethodName × (ByteArray × (Nat × Option FieldType))) → Nat → MethodName × (ByteArray × (Nat × Option FieldType))
  | [], _ => (yX0_clear, (cX0_clear, (1, none)))
  | b :: _, 0 => b
  | _ :: t, k + 1 => zgt t k
def zmt (m : Nat) : MethodName × (ByteArray × (Nat × Option FieldType)) := zgt zmT m
def zarg : List zAV → zXL
  | [] => []
  | .inr (.inl x) :: t => some (.inr (.inl x)) :: none :: zarg t
  | .inl x :: t => some (.inl x) :: zarg t
  | .inr (.inr p) :: t => some (.inr (.inr p)) :: zarg t
def zpad : Nat → zXL → zXL
  | 0, _ => []
  | n + 1, [] => none :: zpad n []
  | n + 1, h :: t => h :: zpad n t
def zent (m : Nat) (a : List zAV) : zXL := zpad (zmt m).2.2.1 (zarg a)
def zpush : Option zAV → List zAV → List zAV
  | none, S => S
  | some v, S => v :: S
def zrun : Nat → Nat → List (List zAI) → List zAI → zXS → Option zRS
  | 0, _, _, _, _ => none
  | _ + 1, _, _, [], _ => none
  | n + 1, d, B, i :: is, s => match zex i s with
    | .inl (none, s') => zrun n d B is s'
    | .inl (some b, s') => zrun n d B (zblk B b) s'
    | .inr (.inl (m, (a, s'))) => (match d with
      | 0 => none
      | d' + 1 => match zrun n d' (zbm m) (zblk (zbm m) 0) (zent m a, [], s'.2.2.1, s'.2.2.2) with
        | some r => zrun n d B is (s'.1, zpush r.1 s'.2.1, r.2.1, r.2.2)
        | none => none)
    | .inr (.inr r) => r
theorem zrun_up : ∀ (n d : Nat) (B : List (List zAI)) (is : List zAI) (s : zXS) (r : zRS), zrun n d B is s = some r → zrun (n + 1) d B is s = some r := by
  intro n
  induction n with
  | zero => intro d B is s r h; cases h
  | succ n ih =>
    intro d B is s r h
    cases is with
    | nil => cases h
    | cons i is =>
      rw [zrun] at h ⊢
      cases he : zex i s with
      | inl j =>
        obtain ⟨o, s'⟩ := j
        rw [he] at h
        cases o with
        | none => exact ih _ _ _ _ _ h
        | some b => exact ih _ _ _ _ _ h
      | inr j =>
        rw [he] at h
        cases j with
        | inr r' => exact h
        | inl q =>
          obtain ⟨m, a, s'⟩ := q
          cases d with
          | zero => cases h
          | succ d =>
            dsimp only at h ⊢
            cases hr : zrun n d (zbm m) (zblk (zbm m) 0) (zent m a, [], s'.2.2.1, s'.2.2.2) with
            | none => rw [hr] at h; cases h
            | some r' =>
              rw [hr] at h
              rw [ih _ _ _ _ _ hr]
              exact ih _ _ _ _ _ h
theorem zrun_le {n n' d : Nat} {B : List (List zAI)} {is : List zAI} {s : zXS} {r : zRS} (hn : n ≤ n') (h : zrun n d B is s = some r) : zrun n' d B is s = some r := by
  induction hn with
  | refl => exact h
  | step _ ih => exact zrun_up _ _ _ _ _ _ ih
/-- it comes to an end, with an answer and a memory of Q -/
def zW (d : Nat) (B : List (List zAI)) (is : List zAI) (s : zXS) (Q : Option zAV → zMI → zMR → Prop) : Prop := ∃ n v I G, zrun n d B is s = some (v, I, G) ∧ Q v I G
def zWm (d m : Nat) (a : List zAV) (I : zMI) (G : zMR) (Q : Option zAV → zMI → zMR → Prop) : Prop := zW d (zbm m) (zblk (zbm m) 0) (zent m a, [], I, G) Q
theorem zW.mono {d : Nat} {B : List (List zAI)} {is : List zAI} {s : zXS} {Q Q' : Option zAV → zMI → zMR → Prop} (h : zW d B is s Q) (hq : ∀ v I G, Q v I G → Q' v I G) : zW d B is s Q' := by
  obtain ⟨n, v, I, G, h1, h2⟩ := h
  exact ⟨n, v, I, G, h1, hq _ _ _ h2⟩
theorem zWm.mono {d m : Nat} {a : List zAV} {I : zMI} {G : zMR} {Q Q' : Option zAV → zMI → zMR → Prop} (h : zWm d m a I G Q) (hq : ∀ v I G, Q v I G → Q' v I G) : zWm d m a I G Q' := zW.mono h hq
section
variable {d : Nat} {B : List (List zAI)} {i : zAI} {is : List zAI} {s s' s1 s2 : zXS} {Q : Option zAV → zMI → zMR → Prop}
theorem z_st (h : zex i s = zeN s') (k : zW d B is s' Q) : zW d B (i :: is) s Q := by
  obtain ⟨n, v, I, G, h1, h2⟩ := k
  refine ⟨n + 1, v, I, G, ?_, h2⟩
  rw [zrun, h]
  exact h1
theorem z_jp {b : Nat} (h : zex i s = zeJ b s') (k : zW d B (zblk B b) s' Q) : zW d B (i :: is) s Q := by
  obtain ⟨n, v, I, G, h1, h2⟩ := k
  refine ⟨n + 1, v, I, G, ?_, h2⟩
  rw [zrun, h]
  exact h1
theorem z_rt {v : Option zAV} {I : zMI} {G : zMR} (h : zex i s = zeR v I G) (k : Q v I G) : zW d B (i :: is) s Q := by
  refine ⟨1, v, I, G, ?_, k⟩
  rw [zrun, h]
theorem z_br {c : Prop} {hc : Decidable c} {b : Nat} (h : zex i s = @ite zEV c hc (zeJ b s') (zeN s')) (k1 : c → zW d B (zblk B b) s' Q) (k2 : ¬ c → zW d B is s' Q) : zW d B (i :: is) s Q := by
  by_cases q : c
  · rw [if_pos q] at h
    exact z_jp h (k1 q)
  · rw [if_neg q] at h
    exact z_st h (k2 q)
/-- an instruction with a test of its own (an index, a divisor) -/
theorem z_ck {c : Prop} {hc : Decidable c} (h : zex i s = @ite zEV c hc (zeN s') zeF) (k1 : c) (k2 : zW d B is s' Q) : zW d B (i :: is) s Q := by
  rw [if_pos k1] at h
  exact z_st h k2
theorem z_rz {c : Prop} {hc : Decidable c} {v : Option zAV} {I : zMI} {G : zMR} (h : zex i s = @ite zEV c hc (zeR v I G) zeF) (k1 : c) (k2 : Q v I G) : zW d B (i :: is) s Q := by
  rw [if_pos k1] at h
  exact z_rt h k2
theorem z_cl {m : Nat} {a : List zAV} (h : zex i s = zeC m a s') (k : zWm d m a s'.2.2.1 s'.2.2.2 (fun v I G => zW (d + 1) B is (s'.1, zpush v s'.2.1, I, G) Q)) : zW (d + 1) B (i :: is) s Q := by
  obtain ⟨n1, v1, I1, G1, h1, n2, v2, I2, G2, h2, h3⟩ := k
  refine ⟨n1 + n2 + 1, v2, I2, G2, ?_, h3⟩
  rw [zrun, h]
  dsimp only
  rw [zrun_le (Nat.le_add_right n1 n2) h1]
  exact zrun_le (Nat.le_add_left n2 n1) h2
theorem z_sw {l : List (Int32 × Nat)} {df : Nat} {x : Int32} (h : zex i s = zsw l df x s') (k1 : ∀ q ∈ l, x = q.1 → zW d B (zblk B q.2) s' Q) (k2 : (∀ q ∈ l, ¬ x = q.1) → zW d B (zblk B df) s' Q) : zW d B (i :: is) s Q := by
  induction l with
  | nil => exact z_jp h (k2 (fun q hq => absurd hq List.not_mem_nil))
  | cons p l ih =>
    rw [zsw] at h
    by_cases hp : x = p.1
    · rw [if_pos hp] at h
      exact z_jp h (k1 p List.mem_cons_self hp)
    · rw [if_neg hp] at h
      exact ih h (fun q hq => k1 q (List.mem_cons_of_mem _ hq)) (fun hq => k2 (fun q hm => (List.mem_cons.mp hm).elim (fun e => e ▸ hp) (hq q)))
end
/-- k plain steps -/
def zgo : Nat → List (List zAI) → List zAI → zXS → Option (List zAI × zXS)
  | 0, _, is, s => some (is, s)
  | _ + 1, _, [], _ => none
  | k + 1, B, i :: is, s => match zex i s with
    | .inl (none, s') => zgo k B is s'
    | .inl (some b, s') => zgo k B (zblk B b) s'
    | .inr _ => none
theorem z_go (k : Nat) {d : Nat} {B : List (List zAI)} {is is' : List zAI} {s s' : zXS} {Q : Option zAV → zMI → zMR → Prop} (h : zgo k B is s = some (is', s')) (kk : zW d B is' s' Q) : zW d B is s Q := by
  induction k generalizing is s with
  | zero => cases h; exact kk
  | succ k ih =>
    cases is with
    | nil => cases h
    | cons i is =>
      rw [zgo] at h
      cases he : zex i s with
      | inr j => rw [he] at h; cases h
      | inl j =>
        obtain ⟨o, s1⟩ := j
        rw [he] at h
        cases o with
        | none => exact z_st he (ih h)
        | some b => exact z_jp he (ih h)
