/-! THE ABSTRACT MACHINE: a fixed world of objects (kind, number), their ints and references; one instruction a step. -/
abbrev zAV : Type := Int32 ⊕ (Int64 ⊕ Option (Nat × Nat))
abbrev zi (x : Int32) : zAV := .inl x
abbrev zl (x : Int64) : zAV := .inr (.inl x)
abbrev zn : zAV := .inr (.inr none)
abbrev zr (c i : Nat) : zAV := .inr (.inr (some (c, i)))
abbrev zXL : Type := List (Option zAV)
abbrev zMI : Type := Nat → Nat → Nat → Int32
abbrev zMR : Type := Nat → Nat → Nat → Option (Nat × Nat)
/-- locals, stack, ints, references -/
abbrev zXS : Type := zXL × (List zAV × (zMI × zMR))
abbrev zRS : Type := Option zAV × (zMI × zMR)
/-- what an instruction does: on (at a block, or the next), a call (method, arguments, the rest), an end, a fault -/
abbrev zEV : Type := (Option Nat × zXS) ⊕ ((Nat × (List zAV × zXS)) ⊕ Option zRS)
abbrev zeN (s : zXS) : zEV := .inl (none, s)
abbrev zeJ (b : Nat) (s : zXS) : zEV := .inl (some b, s)
abbrev zeC (m : Nat) (a : List zAV) (s : zXS) : zEV := .inr (.inl (m, (a, s)))
abbrev zeR (v : Option zAV) (I : zMI) (G : zMR) : zEV := .inr (.inr (some (v, (I, G))))
abbrev zeF : zEV := .inr (.inr none)
/-- kinds: 0 an object (of the class of that number), 1 ints, 2 booleans, 3 schools, 4 a text, 5 the table -/
def zsh : Nat → Nat := fun c => if c ≤ 10 then 0 else if c = 43 then 2 else if c = 51 then 2 else if c = 50 then 3 else if c = 60 then 4 else if c = 61 then 5 else 1
def zalL : List Nat := [0, 0, 0, 0, 0, 0, 0, 0, 0, 0, 0, 0, 0, 0, 0, 0, 0, 0, 0, 0, 8, 8, 8, 8, 8, 24, 8, 8, 8, 100, 10, 10, 10, 100, 5, 20, 0, 0, 0, 0, 937, 937, 5, 64, 5, 20, 0, 0, 0, 0, 6, 100]
def zgn : List Nat → Nat → Nat
  | [], _ => 0
  | a :: _, 0 => a
  | _ :: t, k + 1 => zgn t k
/-- the length of an array -/
def zal (c : Nat) : Nat := zgn zalL c
/-- the types of the fields: 0 int, 1 boolean, 2 a reference -/
def zfyL : List (List Nat) := [[2, 0, 0, 0, 0], [2, 2, 2, 2, 2, 0, 0], [0, 1], [2, 0, 0, 2, 0, 0, 0, 0, 0, 1], [2, 2, 2, 2, 2, 2, 0, 0], [2, 2, 0, 0], [2, 2, 2, 2, 2, 0, 0], [2, 2, 2, 0], [2, 0], [2, 2, 1, 2, 2, 2, 2, 2], [0, 2, 2, 1, 0, 0, 0, 1, 0, 2, 2, 0, 0, 0, 0, 0, 0, 0, 1, 0, 2, 2, 0, 0, 0, 0]]
def zgl2 : List (List Nat) → Nat → List Nat
  | [], _ => []
  | a :: _, 0 => a
  | _ :: t, k + 1 => zgl2 t k
def zfy (c k : Nat) : Nat := zgn (zgl2 zfyL c) k
def znf (c : Nat) : Nat := (zgl2 zfyL c).length
/-- the texts and the table -/
def zstL : List (List Int32) := [[98, 101, 97, 114, 32], [116, 117, 114, 110, 32], [119, 105, 110, 100, 32], [112, 114, 105, 99, 101, 32], [102, 115, 107, 116, 121], [60, 61, 62]]
def zgs : List (List Int32) → Nat → List Int32
  | [], _ => []
  | a :: _, 0 => a
  | _ :: t, k + 1 => zgs t k
def zgi : List Int32 → Nat → Int32
  | [], _ => 0
  | a :: _, 0 => a
  | _ :: t, k + 1 => zgi t k
def zst (i : Nat) : List Int32 := zgs zstL i
def ztab (j : Nat) : Int32 := zgi [-1, 0, 0, 0, 1, 2, 3] j
/-- locals -/
def zgl : zXL → Nat → Option zAV
  | [], _ => none
  | v :: _, 0 => v
  | _ :: t, k + 1 => zgl t k
def zlg : Option zAV → Bool
  | some (.inr (.inl _)) => true
  | _ => false
/-- a value of one place into a place -/
def zs1 : zXL → Nat → zAV → Option zXL
  | [], _, _ => none
  | _ :: t, 0, v => some (some v :: t)
  | h :: t, k + 1, v => if (zlg h && k == 0) = true then none else match zs1 t k v with
    | some t' => some (h :: t')
    | none => none
def zs2 : zXL → Nat → zAV → Option zXL
  | _ :: _ :: t, 0, v => some (some v :: none :: t)
  | h :: t, k + 1, v => if (zlg h && k == 0) = true then none else match zs2 t k v with
    | some t' => some (h :: t')
    | none => none
  | _, _, _ => none
def zin (L : zXL) : Nat := L.length
/-- the first n of a stack, as arguments -/
def zpop : Nat → List zAV → List zAV → Option (List zAV × List zAV)
  | 0, a, S => some (a, S)
  | n + 1, a, v :: S => zpop n (v :: a) S
  | _ + 1, _, [] => none
def zshort : List zAV → Bool
  | [] => true
  | [_] => true
  | [_, _] => true
  | [_, _, _] => true
  | [_, _, _, _] => true
  | _ => false
/-- the receiver is of that class -/
def zrcv : Nat → List zAV → Bool
  | c, .inr (.inr (some (c', _))) :: _ => c' == c
  | _, _ => false
/-- stores -/
def zup (I : zMI) (c i k : Nat) (v : Int32) : zMI := fun c' i' k' => if c' = c ∧ i' = i ∧ k' = k then v else I c' i' k'
def zur (G : zMR) (c i k : Nat) (v : Option (Nat × Nat)) : zMR := fun c' i' k' => if c' = c ∧ i' = i ∧ k' = k then v else G c' i' k'
def zcp (I : zMI) (cs js cd jd n : Nat) : zMI := fun c i k => if c = cd ∧ i = jd ∧ k < n then I cs js k else I c i k
def zcj (b a : Nat) (x y : Int32) (s : zXS) : zEV := match b with
  | 0 => if x = y then zeJ a s else zeN s
  | 1 => if ¬ x = y then zeJ a s else zeN s
  | 2 => if x < y then zeJ a s else zeN s
  | 3 => if y ≤ x then zeJ a s else zeN s
  | 4 => if y < x then zeJ a s else zeN s
  | _ => if x ≤ y then zeJ a s else zeN s
def zgsw : List (List (Int32 × Nat) × Nat) → Nat → List (Int32 × Nat) × Nat
  | [], _ => ([], 0)
  | a :: _, 0 => a
  | _ :: t, k + 1 => zgsw t k
def zsw : List (Int32 × Nat) → Nat → Int32 → zXS → zEV
  | [], d, _, s => zeJ d s
  | p :: l, d, x, s => if x = p.1 then zeJ p.2 s else zsw l d x s
def zex2 (i : zAI) (L : zXL) (S : List zAV) (I : zMI) (G : zMR) : zEV := match i, S with
  | (13, c0, k, _), .inr (.inr (some (c, j))) :: S => if c = c0 ∧ c ≤ 10 ∧ k < znf c ∧ zfy c k < 2 then zeN (L, zi (I c j k) :: S, I, G) else zeF
  | (14, c0, k, _), .inr (.inr (some (c, j))) :: S => if c = c0 ∧ c ≤ 10 ∧ k < znf c ∧ zfy c k = 2 then zeN (L, .inr (.inr (G c j k)) :: S, I, G) else zeF
  | (15, c0, k, _), .inl x :: .inr (.inr (some (c, j))) :: S => if c = c0 ∧ c ≤ 10 ∧ k < znf c ∧ zfy c k = 0 then zeN (L, S, zup I c j k x, G) else zeF
  | (54, c0, k, _), .inl x :: .inr (.inr (some (c, j))) :: S => if c = c0 ∧ c ≤ 10 ∧ k < znf c ∧ zfy c k = 1 then (if x = 0 ∨ x = 1 then zeN (L, S, zup I c j k x, G) else zeF) else zeF
  | (16, c0, k, _), .inr (.inr (some (c2, j2))) :: .inr (.inr (some (c, j))) :: S => if c = c0 ∧ c ≤ 10 ∧ k < znf c ∧ zfy c k = 2 then zeN (L, S, I, zur G c j k (some (c2, j2))) else zeF
  | (17, _, _, _), .inl x :: .inr (.inr (some (c, j))) :: S => if zsh c = 1 then (if 0 ≤ x ∧ x.toNatClampNeg < zal c then zeN (L, zi (I c j x.toNatClampNeg) :: S, I, G) else zeF) else if zsh c = 5 then (if 0 ≤ x ∧ x.toNatClampNeg < 7 then zeN (L, zi (ztab x.toNatClampNeg) :: S, I, G) else zeF) else zeF
  | (18, _, _, _), .inl v :: .inl x :: .inr (.inr (some (c, j))) :: S => if zsh c = 1 then (if 0 ≤ x ∧ x.toNatClampNeg < zal c then zeN (L, S, zup I c j x.toNatClampNeg v, G) else zeF) else zeF
  | (19, _, _, _), .inl x :: .inr (.inr (some (c, j))) :: S => if zsh c = 2 then (if 0 ≤ x ∧ x.toNatClampNeg < zal c then zeN (L, zi (I c j x.toNatClampNeg) :: S, I, G) else zeF) else zeF
  | (20, _, _, _), .inl v :: .inl x :: .inr (.inr (some (c, j))) :: S => if zsh c = 2 then (if (0 ≤ x ∧ x.toNatClampNeg < zal c) ∧ (v = 0 ∨ v = 1) then zeN (L, S, zup I c j x.toNatClampNeg v, G) else zeF) else zeF
  | (21, _, _, _), .inr (.inr (some (c, _))) :: S => if zsh c = 1 ∨ zsh c = 2 ∨ zsh c = 3 then zeN (L, zi (nI (zal c)) :: S, I, G) else zeF
  | (22, _, _, _), .inl x :: .inr (.inr (some (c, j))) :: S => if zsh c = 3 then (if 0 ≤ x ∧ x.toNatClampNeg < zal c then zeN (L, .inr (.inr (G c j x.toNatClampNeg)) :: S, I, G) else zeF) else zeF
  | (39, _, _, _), .inr (.inr (some (c, j))) :: S => if zsh c = 4 ∧ zshort S = true ∧ j < 6 then zeN (L, zi (nI (zst j).length) :: S, I, G) else zeF
  | (40, _, _, _), .inl x :: .inr (.inr (some (c, j))) :: S => if zsh c = 4 ∧ zshort S = true ∧ j < 6 then (if 0 ≤ x ∧ x.toNatClampNeg < (zst j).length then zeN (L, zi (zgi (zst j) x.toNatClampNeg) :: S, I, G) else zeF) else zeF
  | (41, a, _, _), S => if a < 6 then zeN (L, zr 60 a :: S, I, G) else zeF
  | (44, _, _, _), .inl n :: .inl dp :: .inr (.inr (some (c, j))) :: .inl sp :: .inr (.inr (some (c0, j0))) :: S => if zsh c = 1 ∧ zsh c0 = 1 ∧ zal c0 = zal c ∧ n = nI (zal c) ∧ sp = 0 ∧ dp = 0 ∧ zshort S = true then zeN (L, S, zcp I c0 j0 c j (zal c), G) else zeF
  | (45, _, _, _), S => zeN (L, zr 61 0 :: S, I, G)
  | _, _ => zeF
def zex1 (i : zAI) (L : zXL) (S : List zAV) (I : zMI) (G : zMR) : zEV := match i, S with
  | (60, _, _, _), .inl y :: .inl x :: S => zeN (L, zi (x + y) :: S, I, G)
  | (61, _, _, _), .inl y :: .inl x :: S => zeN (L, zi (x - y) :: S, I, G)
  | (62, _, _, _), .inl y :: .inl x :: S => zeN (L, zi (x * y) :: S, I, G)
  | (63, _, _, _), .inl y :: .inl x :: S => zeN (L, zi (x &&& y) :: S, I, G)
  | (64, _, _, _), .inl y :: .inl x :: S => zeN (L, zi (x ||| y) :: S, I, G)
  | (65, _, _, _), .inl y :: .inl x :: S => zeN (L, zi (x ^^^ y) :: S, I, G)
  | (66, _, _, _), .inl y :: .inl x :: S => zeN (L, zi (x <<< (y &&& 31)) :: S, I, G)
  | (67, _, _, _), .inl y :: .inl x :: S => zeN (L, zi (x >>> (y &&& 31)) :: S, I, G)
  | (6, _, _, _), .inl y :: .inl x :: S => if ¬ y = 0 then zeN (L, zi (x / y) :: S, I, G) else zeF
  | (7, _, _, _), .inl y :: .inl x :: S => if ¬ y = 0 then zeN (L, zi (x - x / y * y) :: S, I, G) else zeF
  | (8, _, _, _), .inl x :: S => zeN (L, zi (-x) :: S, I, G)
  | (23, m, n, _), S => (match zpop n [] S with | some (a, S') => if zshort S' = true then zeC m a (L, S', I, G) else zeF | none => zeF)
  | (58, m, b, _), S => (match zpop (b / 16) [] S with | some (a, S') => if zshort S' = true ∧ zrcv (b % 16) a = true then zeC m a (L, S', I, G) else zeF | none => zeF)
  | (24, _, _, _), [] => zeR none I G
  | (25, _, _, _), [.inl x] => zeR (some (zi x)) I G
  | (26, _, _, _), [.inl x] => if x = 0 ∨ x = 1 then zeR (some (zi x)) I G else zeF
  | (27, _, _, _), [.inr (.inl x)] => zeR (some (zl x)) I G
  | (28, _, _, _), [.inr (.inr (some p))] => zeR (some (.inr (.inr (some p)))) I G
  | (29, _, _, _), .inl x :: S => zeN (L, zi x :: zi x :: S, I, G)
  | (29, _, _, _), .inr (.inr p) :: S => zeN (L, .inr (.inr p) :: .inr (.inr p) :: S, I, G)
  | (30, _, _, _), .inl x :: .inr (.inr p) :: S => zeN (L, zi x :: .inr (.inr p) :: zi x :: .inr (.inr p) :: S, I, G)
  | (31, _, _, _), .inl _ :: S => zeN (L, S, I, G)
  | (32, _, _, x), S => zeN (L, zl x.toInt64 :: S, I, G)
  | (33, _, _, _), .inl x :: S => zeN (L, zl x.toInt64 :: S, I, G)
  | (34, _, _, _), .inr (.inl y) :: .inr (.inl x) :: S => zeN (L, zl (x + y) :: S, I, G)
  | (35, _, _, _), .inr (.inl y) :: .inr (.inl x) :: S => if ¬ y = 0 then zeN (L, zl (x - x / y * y) :: S, I, G) else zeF
  | (36, _, _, _), .inr (.inl y) :: .inr (.inl x) :: S => if ¬ y = 0 then zeN (L, zl (x / y) :: S, I, G) else zeF
  | (37, _, _, _), .inr (.inl y) :: .inr (.inl x) :: S => zeN (L, zi (lg_cmp x y) :: S, I, G)
  | (38, a, _, _), .inl x :: S => zsw (zgsw zSW a).1 (zgsw zSW a).2 x (L, S, I, G)
  | (42, _, _, _), .inl y :: .inl x :: S => if zshort S = true then zeN (L, zi (if x < y then y else x) :: S, I, G) else zeF
  | (43, _, _, _), .inl y :: .inl x :: S => if zshort S = true then zeN (L, zi (if y < x then y else x) :: S, I, G) else zeF
  | (47, _, _, _), S => zeN (L, zl (-9223372036854775808) :: S, I, G)
  | (56, a, _, _), S => (match zgl L a with | some (.inr (.inl x)) => zeN (L, zl x :: S, I, G) | _ => zeF)
  | (57, a, _, _), .inr (.inr (some p)) :: S => (match zs1 L a (.inr (.inr (some p))) with | some L' => zeN (L', S, I, G) | none => zeF)
  | i, S => zex2 i L S I G
def zex (i : zAI) (L : zXL) (S : List zAV) (I : zMI) (G : zMR) : zEV := match i, S with
  | (0, a, _, _), S => (match zgl L a with | some (.inl x) => zeN (L, zi x :: S, I, G) | _ => zeF)
  | (1, a, _, _), .inl x :: S => (match zs1 L a (zi x) with | some L' => zeN (L', S, I, G) | none => zeF)
  | (2, a, _, _), .inr (.inl x) :: S => (match zs2 L a (zl x) with | some L' => zeN (L', S, I, G) | none => zeF)
  | (3, _, _, x), S => zeN (L, zi x :: S, I, G)
  | (4, a, _, n), S => (match zgl L a with | some (.inl x) => (match zs1 L a (zi (x + n)) with | some L' => zeN (L', S, I, G) | none => zeF) | _ => zeF)
  | (9, a, b, _), .inl y :: .inl x :: S => zcj b a x y (L, S, I, G)
  | (10, a, b, _), .inl x :: S => zcj b a x 0 (L, S, I, G)
  | (11, a, _, _), S => zeJ a (L, S, I, G)
  | (12, a, _, _), S => zeJ a (L, S, I, G)
  | (55, a, _, _), S => (match zgl L a with | some (.inr (.inr (some p))) => zeN (L, .inr (.inr (some p)) :: S, I, G) | _ => zeF)
  | i, S => zex1 i L S I G
/-- blocks -/
def zblk : List (List zAI) → Nat → List zAI
  | [], _ => []
  | b :: _, 0 => b
  | _ :: t, k + 1 => zblk t k
def zbk : List (List (List zAI)) → Nat → List (List zAI)
  | [], _ => []
  | b :: _, 0 => b
  | _ :: t, k + 1 => zbk t k
def zbm (m : Nat) : List (List zAI) := zbk zbmL m
def zgt : List (MethodName × (ByteArray × (Nat × Option FieldType))) → Nat → MethodName × (ByteArray × (Nat × Option FieldType))
  | [], _ => (yX0_clear, (cX0_clear, (1, none)))
  | b :: _, 0 => b
  | _ :: t, k + 1 => zgt t k
def zmt (m : Nat) : MethodName × (ByteArray × (Nat × Option FieldType)) := zgt zmT m
def zarg : List zAV → zXL
  | [] => []
  | .inr (.inl x) :: t => some (.inr (.inl x)) :: none :: zarg t
  | .inl x :: t => some (.inl x) :: zarg t
  | .inr (.inr p) :: t => some (.inr (.inr p)) :: zarg t
def zpad : Nat → zXL → zXL
  | 0, _ => []
  | n + 1, [] => none :: zpad n []
  | n + 1, h :: t => h :: zpad n t
def zent (m : Nat) (a : List zAV) : zXL := zpad (zmt m).2.2.1 (zarg a)
def zfits : zXL → Nat → Bool
  | [], _ => true
  | _ :: _, 0 => false
  | _ :: t, n + 1 => zfits t n
/-- a method's first block, if the arguments have room -/
def zcode (m : Nat) (a : List zAV) : List zAI := match zfits (zarg a) (zmt m).2.2.1 with
  | true => zblk (zbm m) 0
  | false => []
def zpush : Option zAV → List zAV → List zAV
  | none, S => S
  | some v, S => v :: S
def zrun : Nat → Nat → List (List zAI) → List zAI → zXL → List zAV → zMI → zMR → Option zRS
  | 0, _, _, _, _, _, _, _ => none
  | _ + 1, _, _, [], _, _, _, _ => none
  | n + 1, d, B, i :: is, L, S, I, G => match zex i L S I G with
    | .inl (none, (L', (S', (I', G')))) => zrun n d B is L' S' I' G'
    | .inl (some b, (L', (S', (I', G')))) => zrun n d B (zblk B b) L' S' I' G'
    | .inr (.inl (m, (a, (L', (S', (I', G')))))) => (match d with
      | 0 => none
      | d' + 1 => match zrun n d' (zbm m) (zcode m a) (zent m a) [] I' G' with
        | some (v, (I2, G2)) => zrun n d B is L' (zpush v S') I2 G2
        | none => none)
    | .inr (.inr r) => r
theorem zrun_up : ∀ (n d : Nat) (B : List (List zAI)) (is : List zAI) (L : zXL) (S : List zAV) (I : zMI) (G : zMR) (r : zRS), zrun n d B is L S I G = some r → zrun (n + 1) d B is L S I G = some r := by
  intro n
  induction n with
  | zero => intro d B is L S I G r h; cases h
  | succ n ih =>
    intro d B is L S I G r h
    cases is with
    | nil => cases h
    | cons i is =>
      rw [zrun] at h ⊢
      cases he : zex i L S I G with
      | inl j =>
        obtain ⟨o, L', S', I', G'⟩ := j
        rw [he] at h
        cases o with
        | none => exact ih _ _ _ _ _ _ _ _ h
        | some b => exact ih _ _ _ _ _ _ _ _ h
      | inr j =>
        rw [he] at h
        cases j with
        | inr r' => exact h
        | inl q =>
          obtain ⟨m, a, L', S', I', G'⟩ := q
          cases d with
          | zero => cases h
          | succ d =>
            dsimp only at h ⊢
            cases hr : zrun n d (zbm m) (zcode m a) (zent m a) [] I' G' with
            | none => rw [hr] at h; cases h
            | some r' =>
              obtain ⟨v, I2, G2⟩ := r'
              rw [hr] at h
              rw [ih _ _ _ _ _ _ _ _ hr]
              exact ih _ _ _ _ _ _ _ _ h
theorem zrun_le {n n' d : Nat} {B : List (List zAI)} {is : List zAI} {L : zXL} {S : List zAV} {I : zMI} {G : zMR} {r : zRS} (hn : n ≤ n') (h : zrun n d B is L S I G = some r) : zrun n' d B is L S I G = some r := by
  induction hn with
  | refl => exact h
  | step _ ih => exact zrun_up _ _ _ _ _ _ _ _ _ ih
/-- what may be asked of an end -/
abbrev zPQ : Type := Option zAV → zMI → zMR → Prop
/-- it comes to an end, with an answer and a memory of Q -/
def zW (d : Nat) (B : List (List zAI)) (is : List zAI) (L : zXL) (S : List zAV) (I : zMI) (G : zMR) (Q : zPQ) : Prop := ∃ n v I' G', zrun n d B is L S I G = some (v, I', G') ∧ Q v I' G'
def zWm (d m : Nat) (a : List zAV) (I : zMI) (G : zMR) (Q : zPQ) : Prop := zW d (zbm m) (zcode m a) (zent m a) [] I G Q
theorem zW.mono {d : Nat} {B : List (List zAI)} {is : List zAI} {L : zXL} {S : List zAV} {I : zMI} {G : zMR} {Q Q' : zPQ} (h : zW d B is L S I G Q) (hq : ∀ v I G, Q v I G → Q' v I G) : zW d B is L S I G Q' := by
  obtain ⟨n, v, I, G, h1, h2⟩ := h
  exact ⟨n, v, I, G, h1, hq _ _ _ h2⟩
theorem zWm.mono {d m : Nat} {a : List zAV} {I : zMI} {G : zMR} {Q Q' : zPQ} (h : zWm d m a I G Q) (hq : ∀ v I G, Q v I G → Q' v I G) : zWm d m a I G Q' := zW.mono h hq
section
variable {d : Nat} {B : List (List zAI)} {i : zAI} {is : List zAI} {L L' : zXL} {S S' : List zAV} {I I' : zMI} {G G' : zMR} {Q : zPQ}
theorem z_st (h : zex i L S I G = zeN (L', S', I', G')) (k : zW d B is L' S' I' G' Q) : zW d B (i :: is) L S I G Q := by
  obtain ⟨n, v, I1, G1, h1, h2⟩ := k
  refine ⟨n + 1, v, I1, G1, ?_, h2⟩
  rw [zrun, h]
  exact h1
theorem z_jp {b : Nat} (h : zex i L S I G = zeJ b (L', S', I', G')) (k : zW d B (zblk B b) L' S' I' G' Q) : zW d B (i :: is) L S I G Q := by
  obtain ⟨n, v, I1, G1, h1, h2⟩ := k
  refine ⟨n + 1, v, I1, G1, ?_, h2⟩
  rw [zrun, h]
  exact h1
theorem z_rt {v : Option zAV} (h : zex i L S I G = zeR v I' G') (k : Q v I' G') : zW d B (i :: is) L S I G Q := by
  refine ⟨1, v, I', G', ?_, k⟩
  rw [zrun, h]
theorem z_br {c : Prop} {hc : Decidable c} {b : Nat} (h : zex i L S I G = @ite zEV c hc (zeJ b (L', S', I', G')) (zeN (L', S', I', G'))) (k1 : c → zW d B (zblk B b) L' S' I' G' Q) (k2 : ¬ c → zW d B is L' S' I' G' Q) : zW d B (i :: is) L S I G Q := by
  by_cases q : c
  · rw [if_pos q] at h
    exact z_jp h (k1 q)
  · rw [if_neg q] at h
    exact z_st h (k2 q)
/-- an instruction with a test of its own (an index, a divisor) -/
theorem z_ck {c : Prop} {hc : Decidable c} (h : zex i L S I G = @ite zEV c hc (zeN (L', S', I', G')) zeF) (k1 : c) (k2 : zW d B is L' S' I' G' Q) : zW d B (i :: is) L S I G Q := by
  rw [if_pos k1] at h
  exact z_st h k2
theorem z_rz {c : Prop} {hc : Decidable c} {v : Option zAV} (h : zex i L S I G = @ite zEV c hc (zeR v I' G') zeF) (k1 : c) (k2 : Q v I' G') : zW d B (i :: is) L S I G Q := by
  rw [if_pos k1] at h
  exact z_rt h k2
theorem z_cl {m : Nat} {a : List zAV} (h : zex i L S I G = zeC m a (L', S', I', G')) (k : zWm d m a I' G' (fun v I G => zW (d + 1) B is L' (zpush v S') I G Q)) : zW (d + 1) B (i :: is) L S I G Q := by
  obtain ⟨n1, v1, I1, G1, h1, n2, v2, I2, G2, h2, h3⟩ := k
  refine ⟨n1 + n2 + 1, v2, I2, G2, ?_, h3⟩
  rw [zrun, h]
  dsimp only
  rw [zrun_le (Nat.le_add_right n1 n2) h1]
  exact zrun_le (Nat.le_add_left n2 n1) h2
theorem z_sw {l : List (Int32 × Nat)} {df : Nat} {x : Int32} (h : zex i L S I G = zsw l df x (L', S', I', G')) (k1 : ∀ q ∈ l, x = q.1 → zW d B (zblk B q.2) L' S' I' G' Q) (k2 : (∀ q ∈ l, ¬ x = q.1) → zW d B (zblk B df) L' S' I' G' Q) : zW d B (i :: is) L S I G Q := by
  induction l with
  | nil => exact z_jp h (k2 (fun q hq => absurd hq List.not_mem_nil))
  | cons p l ih =>
    rw [zsw] at h
    by_cases hp : x = p.1
    · rw [if_pos hp] at h
      exact z_jp h (k1 p List.mem_cons_self hp)
    · rw [if_neg hp] at h
      exact ih h (fun q hq => k1 q (List.mem_cons_of_mem _ hq)) (fun hq => k2 (fun q hm => (List.mem_cons.mp hm).elim (fun e => e ▸ hp) (hq q)))
end
/-- k plain steps -/
def zgo : Nat → List (List zAI) → List zAI → zXL → List zAV → zMI → zMR → Option (List zAI × zXS)
  | 0, _, is, L, S, I, G => some (is, (L, (S, (I, G))))
  | _ + 1, _, [], _, _, _, _ => none
  | k + 1, B, i :: is, L, S, I, G => match zex i L S I G with
    | .inl (none, (L', (S', (I', G')))) => zgo k B is L' S' I' G'
    | .inl (some b, (L', (S', (I', G')))) => zgo k B (zblk B b) L' S' I' G'
    | .inr _ => none
theorem z_go (k : Nat) {d : Nat} {B : List (List zAI)} {is is' : List zAI} {L L' : zXL} {S S' : List zAV} {I I' : zMI} {G G' : zMR} {Q : zPQ} (h : zgo k B is L S I G = some (is', (L', (S', (I', G'))))) (kk : zW d B is' L' S' I' G' Q) : zW d B is L S I G Q := by
  induction k generalizing is L S I G with
  | zero => cases h; exact kk
  | succ k ih =>
    cases is with
    | nil => cases h
    | cons i is =>
      rw [zgo] at h
      cases he : zex i L S I G with
      | inr j => rw [he] at h; cases h
      | inl j =>
        obtain ⟨o, L1, S1, I1, G1⟩ := j
        rw [he] at h
        cases o with
        | none => exact z_st he (ih h)
        | some b => exact z_jp he (ih h)
