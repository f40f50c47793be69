/-! THE CODE TABLES ARE THE BYTECODE: checked by program -/
def zcd : ClassFile.Cond → Nat
  | .eq => 0
  | .ne => 1
  | .lt => 2
  | .ge => 3
  | .gt => 4
  | .le => 5
def ztg (pcs : List Nat) (pc : Nat) (off : Int) (a : Nat) : Bool := decide ((pc : Int) + off = (zgn pcs a : Int)) && decide (a < pcs.length)
def zswt (pcs : List Nat) (pc : Nat) : Int → List Int → List (Int32 × Nat) → Bool
  | _, [], [] => true
  | lo, o :: os, q :: qs => decide (q.1 = Int32.ofInt lo) && (ztg pcs pc o q.2 && zswt pcs pc (lo + 1) os qs)
  | _, _, _ => false
def zlks (pcs : List Nat) (pc : Nat) : List (Int × Int) → List (Int32 × Nat) → Bool
  | [], [] => true
  | o :: os, q :: qs => decide (q.1 = Int32.ofInt o.1 ∧ -65536 ≤ o.1 ∧ o.1 ≤ 65536) && (ztg pcs pc o.2 q.2 && zlks pcs pc os qs)
  | _, _ => false
def zgu : List (Nat × (Nat × (Bool × Nat))) → Nat → Nat × (Nat × (Bool × Nat))
  | [], _ => (0, (0, (false, 0)))
  | a :: _, 0 => a
  | _ :: t, k + 1 => zgu t k
/-- class, parameters, static, kind of the answer -/
def zmu (m : Nat) : Nat × (Nat × (Bool × Nat)) := zgu zmU m
def zgp : List (List Nat) → Nat → List Nat
  | [], _ => []
  | a :: _, 0 => a
  | _ :: t, k + 1 => zgp t k
def zmc (own ret : Nat) (pcs : List Nat) (pc : Nat) (ai : zAI) (ins : Instr) (len : Nat) : Bool := match ins with
  | .iload k => decide (ai = (0, k, 0, 0) ∧ len = 2)
  | .iload_n k => decide (ai = (0, k.val, 0, 0) ∧ len = 1)
  | .aload k => decide (ai = (55, k, 0, 0) ∧ len = 2)
  | .aload_n k => decide (ai = (55, k.val, 0, 0) ∧ len = 1)
  | .lload k => decide (ai = (56, k, 0, 0) ∧ len = 2)
  | .lload_n k => decide (ai = (56, k.val, 0, 0) ∧ len = 1)
  | .istore k => decide (ai = (1, k, 0, 0) ∧ len = 2)
  | .istore_n k => decide (ai = (1, k.val, 0, 0) ∧ len = 1)
  | .astore k => decide (ai = (57, k, 0, 0) ∧ len = 2)
  | .astore_n k => decide (ai = (57, k.val, 0, 0) ∧ len = 1)
  | .lstore k => decide (ai = (2, k, 0, 0) ∧ len = 2)
  | .lstore_n k => decide (ai = (2, k.val, 0, 0) ∧ len = 1)
  | .iconst n => decide (ai = (3, 0, 0, Int32.ofInt n) ∧ len = 1)
  | .bipush n => decide (ai = (3, 0, 0, (Int8.ofInt n).toInt32) ∧ len = 2)
  | .sipush n => decide (ai = (3, 0, 0, (Int16.ofInt n).toInt32) ∧ len = 3)
  | .iinc k n => decide (ai = (4, k, 0, Int32.ofInt n) ∧ len = 3)
  | .iadd => decide (ai = (60, 0, 0, 0) ∧ len = 1)
  | .isub => decide (ai = (61, 0, 0, 0) ∧ len = 1)
  | .imul => decide (ai = (62, 0, 0, 0) ∧ len = 1)
  | .iand => decide (ai = (63, 0, 0, 0) ∧ len = 1)
  | .ior => decide (ai = (64, 0, 0, 0) ∧ len = 1)
  | .ixor => decide (ai = (65, 0, 0, 0) ∧ len = 1)
  | .ishl => decide (ai = (66, 0, 0, 0) ∧ len = 1)
  | .ishr => decide (ai = (67, 0, 0, 0) ∧ len = 1)
  | .idiv => decide (ai = (6, 0, 0, 0) ∧ len = 1)
  | .irem => decide (ai = (7, 0, 0, 0) ∧ len = 1)
  | .ineg => decide (ai = (8, 0, 0, 0) ∧ len = 1)
  | .if_icmp cd off => decide (ai = (9, ai.2.1, zcd cd, 0) ∧ len = 3) && ztg pcs pc off ai.2.1
  | .ifCond cd off => decide (ai = (10, ai.2.1, zcd cd, 0) ∧ len = 3) && ztg pcs pc off ai.2.1
  | .goto off => decide (ai = (11, ai.2.1, 0, 0) ∧ len = 3) && ztg pcs pc off ai.2.1
  | .getfield x => decide ((ai = (13, ai.2.1, ai.2.2.1, 0) ∨ ai = (14, ai.2.1, ai.2.2.1, 0)) ∧ len = 3) && decide ((own, x, ai.2.1, ai.2.2.1) ∈ zFL)
  | .putfield x => decide ((ai = (15, ai.2.1, ai.2.2.1, 0) ∨ ai = (54, ai.2.1, ai.2.2.1, 0) ∨ ai = (16, ai.2.1, ai.2.2.1, 0)) ∧ len = 3) && (decide ((own, x, ai.2.1, ai.2.2.1) ∈ zFL) && decide ((zct ai.2.1 ai.2.2.1).2.2.2 = false))
  | .iaload => decide (ai = (17, 0, 0, 0) ∧ len = 1)
  | .iastore => decide (ai = (18, 0, 0, 0) ∧ len = 1)
  | .baload => decide (ai = (19, 0, 0, 0) ∧ len = 1)
  | .bastore => decide (ai = (20, 0, 0, 0) ∧ len = 1)
  | .arraylength => decide (ai = (21, 0, 0, 0) ∧ len = 1)
  | .aaload => decide (ai = (22, 0, 0, 0) ∧ len = 1)
  | .invokevirtual x => decide (len = 3) && (decide (ai = (58, ai.2.1, 16 * ((zmu ai.2.1).2.1 + 1) + (zmu ai.2.1).1, 0) ∧ (own, x, 0, ai.2.1) ∈ zML ∧ ai.2.1 < zmT.length) || decide (ai = (39, 0, 0, 0) ∧ (own, x, 3, 0) ∈ zML) || decide (ai = (40, 0, 0, 0) ∧ (own, x, 4, 0) ∈ zML))
  | .invokestatic x => decide (len = 3) && (decide (ai = (23, ai.2.1, (zmu ai.2.1).2.1, 0) ∧ (own, x, 1, ai.2.1) ∈ zML ∧ ai.2.1 < zmT.length) || decide (ai = (42, 0, 0, 0) ∧ (own, x, 5, 0) ∈ zML) || decide (ai = (43, 0, 0, 0) ∧ (own, x, 6, 0) ∈ zML) || decide (ai = (44, 0, 0, 0) ∧ (own, x, 7, 0) ∈ zML))
  | .return_ => decide (ai = (24, 0, 0, 0) ∧ len = 1 ∧ ret = 0)
  | .ireturn => decide (len = 1 ∧ ((ai = (25, 0, 0, 0) ∧ ret = 1) ∨ (ai = (26, 0, 0, 0) ∧ ret = 2)))
  | .lreturn => decide (ai = (27, 0, 0, 0) ∧ len = 1 ∧ ret = 3)
  | .areturn => decide (ai = (28, 0, 0, 0) ∧ len = 1 ∧ ret = 4)
  | .dup => decide (ai = (29, 0, 0, 0) ∧ len = 1)
  | .dup2 => decide (ai = (30, 0, 0, 0) ∧ len = 1)
  | .pop => decide (ai = (31, 0, 0, 0) ∧ len = 1)
  | .lconst n => decide (ai = (32, 0, 0, Int32.ofNat n.val) ∧ len = 1)
  | .i2l => decide (ai = (33, 0, 0, 0) ∧ len = 1)
  | .ladd => decide (ai = (34, 0, 0, 0) ∧ len = 1)
  | .lrem => decide (ai = (35, 0, 0, 0) ∧ len = 1)
  | .ldiv => decide (ai = (36, 0, 0, 0) ∧ len = 1)
  | .lcmp => decide (ai = (37, 0, 0, 0) ∧ len = 1)
  | .tableswitch df lo hi offs => decide (ai = (38, ai.2.1, ai.2.2.1, 0) ∧ hi = lo + offs.toList.length - 1 ∧ -65536 ≤ lo ∧ hi ≤ 65536) && (ztg pcs pc df (zgsw zSW ai.2.1).2 && zswt pcs pc lo offs.toList (zgsw zSW ai.2.1).1)
  | .lookupswitch df ps => decide (ai = (38, ai.2.1, ai.2.2.1, 0)) && ((ps.toList.zip (ps.toList.drop 1)).all (fun (a, next) => decide (a.1 < next.1)) && (ztg pcs pc df (zgsw zSW ai.2.1).2 && zlks pcs pc ps.toList (zgsw zSW ai.2.1).1))
  | .ldc x => decide (len = 2) && (decide (ai = (41, ai.2.1, 0, 0) ∧ (own, x, ai.2.1, 0) ∈ zSL) || decide (ai = (3, 0, 0, 100000) ∧ own = 10 ∧ x = 188))
  | .ldc2_w x => decide (len = 3 ∧ ((ai = (47, 0, 0, 0) ∧ ((own = 9 ∧ x = 220) ∨ (own = 10 ∧ x = 195))) ∨ (ai = (32, 0, 0, 40) ∧ own = 10 ∧ x = 197) ∨ (ai = (32, 0, 0, 4) ∧ own = 10 ∧ x = 203)))
  | .getstatic x => decide (ai = (45, 0, 0, 0) ∧ len = 3 ∧ own = 4 ∧ x = 37)
  | _ => false
def zck (own ret : Nat) (pcs : List Nat) (cc : ByteArray) : Nat → List zAI → Bool
  | _, [] => true
  | pc, i :: is => if i.1 = 12 then decide (i.2.1 < pcs.length ∧ zgn pcs i.2.1 = pc) else match decode cc pc with
    | .ok (ins, len) => zmc own ret pcs pc i ins len && zck own ret pcs cc (pc + len) is
    | .error _ => false
def zcb (own ret : Nat) (pcs : List Nat) (cc : ByteArray) : List Nat → List (List zAI) → Bool
  | [], [] => true
  | q :: qs, b :: bs => zck own ret pcs cc q b && zcb own ret pcs cc qs bs
  | _, _ => false
def zrk : Nat → Option FieldType → Bool
  | 0, none => true
  | 1, some .int => true
  | 2, some .boolean => true
  | 3, some .long => true
  | 4, some (.object _) => true
  | _, _ => false
def zckm (m : Nat) : Bool := zcb (zmu m).1 (zmu m).2.2.2 (zgp zpcL m) (zmt m).2.1 (zgp zpcL m) (zbm m) && (decide ((parseMethodDescriptor (zmt m).1.desc).map (fun d => d.parameters.length) = some (zmu m).2.1) && (zrk (zmu m).2.2.2 (zmt m).2.2.2 && (decide ((zmt m).1.cls = zcn (zmu m).1 ∧ (zmu m).1 ≤ 10 ∧ (zmt m).2.2.1 ≤ 40) && (decide (zgn (zgp zpcL m) 0 = 0) && plainName (zmt m).1.cls && decide ((zmt m).1.cls ≠ "java/lang/invoke/MethodHandle" ∧ (zmt m).1.cls ≠ "java/lang/invoke/VarHandle")))))
set_option maxRecDepth 100000 in
theorem zkc_0_0 : ∀ m ∈ [0, 1, 2, 3, 4, 5, 6, 7, 8], zckm m = true := by decide +kernel
set_option maxRecDepth 100000 in
theorem zkc_1_0 : ∀ m ∈ [9, 10], zckm m = true := by decide +kernel
set_option maxRecDepth 100000 in
theorem zkc_2_0 : ∀ m ∈ [11, 12, 13, 14], zckm m = true := by decide +kernel
set_option maxRecDepth 100000 in
theorem zkc_3_0 : ∀ m ∈ [15, 16, 17, 18, 19, 20, 21, 22, 23, 24, 25], zckm m = true := by decide +kernel
set_option maxRecDepth 100000 in
theorem zkc_4_0 : ∀ m ∈ [26, 27, 28, 29, 30, 31, 32, 33, 34], zckm m = true := by decide +kernel
set_option maxRecDepth 100000 in
theorem zkc_5_0 : ∀ m ∈ [35, 36, 37, 38, 39, 40, 41, 42, 43, 44, 45, 46], zckm m = true := by decide +kernel
set_option maxRecDepth 100000 in
theorem zkc_6_0 : ∀ m ∈ [47, 48, 49, 50, 51, 52, 53, 54, 55, 56], zckm m = true := by decide +kernel
set_option maxRecDepth 100000 in
theorem zkc_7_0 : ∀ m ∈ [57, 58, 59], zckm m = true := by decide +kernel
set_option maxRecDepth 100000 in
theorem zkc_8_0 : ∀ m ∈ [60, 61, 62], zckm m = true := by decide +kernel
set_option maxRecDepth 100000 in
theorem zkc_9_0 : ∀ m ∈ [63, 64, 65, 66, 67, 68, 69, 70, 71, 72, 73, 74, 75, 76, 77, 78, 79, 80, 81, 82, 83, 84, 85], zckm m = true := by decide +kernel
set_option maxRecDepth 100000 in
theorem zkc_9_23 : ∀ m ∈ [86, 87, 88, 89, 90, 91, 92, 93, 94, 95, 96, 97, 98, 99, 100, 101, 102, 103, 104, 105, 106, 107], zckm m = true := by decide +kernel
set_option maxRecDepth 100000 in
theorem zkc_10_0 : ∀ m ∈ [108, 109, 110, 111, 112, 113, 114, 115, 116, 117, 118, 119, 120, 121, 122, 123, 124, 125, 126, 127, 128, 129, 130], zckm m = true := by decide +kernel
set_option maxRecDepth 100000 in
theorem zkc_10_23 : ∀ m ∈ [131, 132, 133, 134, 135, 136, 137, 138, 139, 140, 141, 142, 143, 144, 145, 146, 147, 148, 149, 150, 151, 152, 153], zckm m = true := by decide +kernel
set_option maxRecDepth 100000 in
theorem zkc_10_46 : ∀ m ∈ [154, 155, 156, 157, 158, 159, 160, 161, 162, 163, 164, 165, 166, 167, 168, 169, 170, 171, 172, 173, 174], zckm m = true := by decide +kernel
