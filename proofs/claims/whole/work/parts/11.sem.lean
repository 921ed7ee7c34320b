/-! THE PURE MACHINE: a memory of fields by address and place, a step for each simple instruction, 'run' for all: what a method needs, and what it brings about -/
/-- addresses, kinds, lengths, ints, longs, references; the script's cell, its length, its ints -/
abbrev Mem : Type := List Nat × (Nat → Nat) × (Nat → Nat) × (Nat → Nat → Int32) × (Nat → Nat → Int64) × (Nat → Nat → Option Nat) × Nat × Nat × (Nat → Int32)
def mL (M : Mem) : List Nat := M.1
def mK (M : Mem) : Nat → Nat := M.2.1
def mN (M : Mem) : Nat → Nat := M.2.2.1
def mI (M : Mem) : Nat → Nat → Int32 := M.2.2.2.1
def mJ (M : Mem) : Nat → Nat → Int64 := M.2.2.2.2.1
def mR (M : Mem) : Nat → Nat → Option Nat := M.2.2.2.2.2.1
def mSb (M : Mem) : Nat := M.2.2.2.2.2.2.1
def mSl (M : Mem) : Nat := M.2.2.2.2.2.2.2.1
def mSx (M : Mem) : Nat → Int32 := M.2.2.2.2.2.2.2.2
def up2 {α : Type} (f : Nat → Nat → α) (a j : Nat) (v : α) : Nat → Nat → α := fun b i => if b = a ∧ i = j then v else f b i
def sI (M : Mem) (a j : Nat) (v : Int32) : Mem := (mL M, mK M, mN M, up2 (mI M) a j v, mJ M, mR M, mSb M, mSl M, mSx M)
def sJ (M : Mem) (a j : Nat) (v : Int64) : Mem := (mL M, mK M, mN M, mI M, up2 (mJ M) a j v, mR M, mSb M, mSl M, mSx M)
def sR (M : Mem) (a j : Nat) (v : Option Nat) : Mem := (mL M, mK M, mN M, mI M, mJ M, up2 (mR M) a j v, mSb M, mSl M, mSx M)
def alO (M : Mem) (q c : Nat) : Mem := (mL M ++ [q], va_up (mK M) q c, mN M, va_up (mI M) q (fun _ => 0), va_up (mJ M) q (fun _ => 0), va_up (mR M) q (fun _ => none), mSb M, mSl M, mSx M)
def alA (M : Mem) (q c n : Nat) : Mem := (mL M ++ [q], va_up (mK M) q c, va_up (mN M) q n, va_up (mI M) q (fun _ => 0), va_up (mJ M) q (fun _ => 0), va_up (mR M) q (fun _ => none), mSb M, mSl M, mSx M)
def cpI (M : Mem) (a0 a sp dp n : Nat) : Mem := (mL M, mK M, mN M, va_up (mI M) a (va_cpy (mI M a0) (mI M a) sp dp n), mJ M, mR M, mSb M, mSl M, mSx M)
def ob (M : Mem) (a c : Nat) : Prop := a ∈ mL M ∧ mK M a = c
def U0 : Value := .retAddr 0
def nth : List Value → Nat → Value
  | [], _ => .retAddr 0
  | v :: _, 0 => v
  | _ :: r, n + 1 => nth r n
def stL : List Value → Nat → Value → List Value
  | [], _, _ => []
  | _ :: r, 0, v => v :: r
  | x :: r, n + 1, v => x :: stL r n v
def fnd : List Ins → Nat → Option Ins
  | [], _ => none
  | i :: r, pc => bif Nat.beq i.1 pc then some i else fnd r pc
def lenI (i : Instr) : Nat := match i with
  | .bipush _ => 2 | .ldc _ => 2 | .iload _ => 2 | .lload _ => 2 | .aload _ => 2 | .istore _ => 2 | .lstore _ => 2 | .astore _ => 2 | .newarray _ => 2
  | .sipush _ => 3 | .ldc_w _ => 3 | .ldc2_w _ => 3 | .getfield _ => 3 | .putfield _ => 3 | .new _ => 3 | .anewarray _ => 3
  | .invokevirtual _ => 3 | .invokestatic _ => 3 | .invokespecial _ => 3 | .goto _ => 3 | .ifCond _ _ => 3 | .if_icmp _ _ => 3 | .if_acmp _ _ => 3 | .ifnull _ => 3 | .ifnonnull _ => 3 | .iinc _ _ => 3
  | .tableswitch _ _ _ _ => 0 | .lookupswitch _ _ => 0
  | _ => 1
def lenOK (i : Ins) : Bool := Nat.beq (lenI i.2.1) i.2.2.1 || Nat.beq (lenI i.2.1) 0
def fet (k pc : Nat) : Option Ins := match fnd ((pCd (tbl k)).getD (pc / 64) []) pc with
  | some i => bif lenOK i then some i else none
  | none => none
def ent : List Value → List Value
  | [] => []
  | .long w :: r => .long w :: .retAddr 1 :: ent r
  | .double w :: r => .double w :: .retAddr 1 :: ent r
  | v :: r => v :: ent r
def padV : Nat → List Value → List Value
  | 0, _ => []
  | n + 1, [] => .retAddr 0 :: padV n []
  | n + 1, v :: r => v :: padV n r
def cmpP (c : ClassFile.Cond) (x y : Int32) : Prop := match c with
  | .eq => x = y
  | .ne => ¬ x = y
  | .lt => x < y
  | .ge => y ≤ x
  | .gt => y < x
  | .le => x ≤ y
def swR (x : Int32) (f : Nat → Prop) (dflt : Nat) : List (Int32 × Nat) → Prop
  | [] => f dflt
  | (v, t) :: r => (x = v → f t) ∧ (¬ x = v → swR x f dflt r)
def clNn (a : Nat) : Nat := match zcl[a]? with
  | some (_, _, N) => N
  | none => 0
abbrev ZStp : Type := Option (List Prop × Nat × List Value × List Value × Mem)
def s1I (st : List Value) (f : Int32 → List Value → ZStp) : ZStp := match st with
  | .int x :: r => f x r
  | _ => none
def s2I (st : List Value) (f : Int32 → Int32 → List Value → ZStp) : ZStp := match st with
  | .int y :: .int x :: r => f x y r
  | _ => none
def s2J (st : List Value) (f : Int64 → Int64 → List Value → ZStp) : ZStp := match st with
  | .long y :: .long x :: r => f x y r
  | _ => none
def sJI (st : List Value) (f : Int64 → Int32 → List Value → ZStp) : ZStp := match st with
  | .int y :: .long x :: r => f x y r
  | _ => none
/-- a simple instruction, with the reference that a load of one brings -/
def stp (o : Option Nat) (i : Ins) (pc : Nat) (vs st : List Value) (M : Mem) : ZStp := match i with
  | (_, ins, len, a, b, _, x0, w0, _) => match ins with
    | .iconst _ => some ([], pc + 1, vs, .int x0 :: st, M)
    | .bipush _ => some ([], pc + 2, vs, .int x0 :: st, M)
    | .sipush _ => some ([], pc + 3, vs, .int x0 :: st, M)
    | .ldc _ => some ([], pc + 2, vs, .int x0 :: st, M)
    | .ldc_w _ => some ([], pc + 3, vs, .int x0 :: st, M)
    | .lconst _ => some ([], pc + 1, vs, .long w0 :: st, M)
    | .ldc2_w _ => some ([], pc + 3, vs, .long w0 :: st, M)
    | .aconst_null => some ([], pc + 1, vs, .null :: st, M)
    | .iload _ => (match nth vs a with | .int x => some ([], pc + 2, vs, .int x :: st, M) | _ => none)
    | .iload_n _ => (match nth vs a with | .int x => some ([], pc + 1, vs, .int x :: st, M) | _ => none)
    | .lload _ => (match nth vs a, nth vs (a + 1) with | .long x, .retAddr _ => (bif Nat.ble (a + 2) vs.length then some ([], pc + 2, vs, .long x :: st, M) else none) | _, _ => none)
    | .lload_n _ => (match nth vs a, nth vs (a + 1) with | .long x, .retAddr _ => (bif Nat.ble (a + 2) vs.length then some ([], pc + 1, vs, .long x :: st, M) else none) | _, _ => none)
    | .aload _ => (match nth vs a with | .ref x => some ([], pc + 2, vs, .ref x :: st, M) | .null => some ([], pc + 2, vs, .null :: st, M) | _ => none)
    | .aload_n _ => (match nth vs a with | .ref x => some ([], pc + 1, vs, .ref x :: st, M) | .null => some ([], pc + 1, vs, .null :: st, M) | _ => none)
    | .istore _ => (match st with | .int x :: r => (bif Nat.ble (a + 1) vs.length then some ([], pc + 2, stL vs a (.int x), r, M) else none) | _ => none)
    | .istore_n _ => (match st with | .int x :: r => (bif Nat.ble (a + 1) vs.length then some ([], pc + 1, stL vs a (.int x), r, M) else none) | _ => none)
    | .lstore _ => (match st with | .long x :: r => (bif Nat.ble (a + 2) vs.length then some ([], pc + 2, stL (stL vs a (.long x)) (a + 1) (.retAddr 1), r, M) else none) | _ => none)
    | .lstore_n _ => (match st with | .long x :: r => (bif Nat.ble (a + 2) vs.length then some ([], pc + 1, stL (stL vs a (.long x)) (a + 1) (.retAddr 1), r, M) else none) | _ => none)
    | .astore _ => (match st with | .ref x :: r => (bif Nat.ble (a + 1) vs.length then some ([], pc + 2, stL vs a (.ref x), r, M) else none) | .null :: r => (bif Nat.ble (a + 1) vs.length then some ([], pc + 2, stL vs a .null, r, M) else none) | _ => none)
    | .astore_n _ => (match st with | .ref x :: r => (bif Nat.ble (a + 1) vs.length then some ([], pc + 1, stL vs a (.ref x), r, M) else none) | .null :: r => (bif Nat.ble (a + 1) vs.length then some ([], pc + 1, stL vs a .null, r, M) else none) | _ => none)
    | .iinc _ _ => (match nth vs a with | .int x => some ([], pc + 3, stL vs a (.int (x + x0)), st, M) | _ => none)
    | .iadd => s2I st fun x y r => some ([], pc + 1, vs, .int (x + y) :: r, M)
    | .isub => s2I st fun x y r => some ([], pc + 1, vs, .int (x - y) :: r, M)
    | .imul => s2I st fun x y r => some ([], pc + 1, vs, .int (x * y) :: r, M)
    | .iand => s2I st fun x y r => some ([], pc + 1, vs, .int (x &&& y) :: r, M)
    | .ior => s2I st fun x y r => some ([], pc + 1, vs, .int (x ||| y) :: r, M)
    | .ixor => s2I st fun x y r => some ([], pc + 1, vs, .int (x ^^^ y) :: r, M)
    | .ishl => s2I st fun x y r => some ([], pc + 1, vs, .int (x <<< (y &&& 31)) :: r, M)
    | .ishr => s2I st fun x y r => some ([], pc + 1, vs, .int (x >>> (y &&& 31)) :: r, M)
    | .iushr => s2I st fun x y r => some ([], pc + 1, vs, .int (x.toUInt32 >>> (y.toUInt32 &&& Int32.toUInt32 31)).toInt32 :: r, M)
    | .idiv => s2I st fun x y r => some ([¬ y = 0], pc + 1, vs, .int (x / y) :: r, M)
    | .irem => s2I st fun x y r => some ([¬ y = 0], pc + 1, vs, .int (x - x / y * y) :: r, M)
    | .ineg => s1I st fun x r => some ([], pc + 1, vs, .int (-x) :: r, M)
    | .i2b => s1I st fun x r => some ([], pc + 1, vs, .int x.toInt8.toInt32 :: r, M)
    | .i2c => s1I st fun x r => some ([], pc + 1, vs, .int (x.toUInt32 % 65536).toInt32 :: r, M)
    | .i2l => s1I st fun x r => some ([], pc + 1, vs, .long x.toInt64 :: r, M)
    | .l2i => (match st with | .long x :: r => some ([], pc + 1, vs, .int x.toInt32 :: r, M) | _ => none)
    | .ladd => s2J st fun x y r => some ([], pc + 1, vs, .long (x + y) :: r, M)
    | .lsub => s2J st fun x y r => some ([], pc + 1, vs, .long (x - y) :: r, M)
    | .lmul => s2J st fun x y r => some ([], pc + 1, vs, .long (x * y) :: r, M)
    | .land => s2J st fun x y r => some ([], pc + 1, vs, .long (x &&& y) :: r, M)
    | .lor => s2J st fun x y r => some ([], pc + 1, vs, .long (x ||| y) :: r, M)
    | .lxor => s2J st fun x y r => some ([], pc + 1, vs, .long (x ^^^ y) :: r, M)
    | .ldiv => s2J st fun x y r => some ([¬ y = 0], pc + 1, vs, .long (x / y) :: r, M)
    | .lrem => s2J st fun x y r => some ([¬ y = 0], pc + 1, vs, .long (x - x / y * y) :: r, M)
    | .lshl => sJI st fun x y r => some ([], pc + 1, vs, .long (x <<< (y.toInt64 &&& 63)) :: r, M)
    | .lshr => sJI st fun x y r => some ([], pc + 1, vs, .long (x >>> (y.toInt64 &&& 63)) :: r, M)
    | .lushr => sJI st fun x y r => some ([], pc + 1, vs, .long (x.toUInt64 >>> (y.toInt64.toUInt64 &&& Int64.toUInt64 63)).toInt64 :: r, M)
    | .lcmp => s2J st fun x y r => some ([], pc + 1, vs, .int (lg_cmp x y) :: r, M)
    | .dup => (match st with | v :: r => some ([v.category = 1], pc + 1, vs, v :: v :: r, M) | _ => none)
    | .pop => (match st with | v :: r => some ([v.category = 1], pc + 1, vs, r, M) | _ => none)
    | .dup2 => (match a, st with
      | 1, v :: u :: r => some ([v.category = 1, u.category = 1], pc + 1, vs, v :: u :: v :: u :: r, M)
      | 2, v :: r => some ([v.category = 2], pc + 1, vs, v :: v :: r, M)
      | _, _ => none)
    | .pop2 => (match a, st with
      | 1, v :: u :: r => some ([v.category = 1, u.category = 1], pc + 1, vs, r, M)
      | 2, v :: r => some ([v.category = 2], pc + 1, vs, r, M)
      | _, _ => none)
    | .goto _ => some ([], a, vs, st, M)
    | .getfield _ => (match st with
      | .ref q :: r => (match zfT a b with
        | 3 => some ([ob M q a], pc + 3, vs, .long (mJ M q b) :: r, M)
        | 4 => some ([ob M q a, mR M q b = o], pc + 3, vs, va_rf o :: r, M)
        | _ => some ([ob M q a], pc + 3, vs, .int (mI M q b) :: r, M))
      | _ => none)
    | .putfield _ => (match zfT a b, st with
      | 0, .int x :: .ref q :: r => some ([ob M q a], pc + 3, vs, r, sI M q b x)
      | 1, .int x :: .ref q :: r => some ([ob M q a, x = 0 ∨ x = 1], pc + 3, vs, r, sI M q b x)
      | 3, .long x :: .ref q :: r => some ([ob M q a], pc + 3, vs, r, sJ M q b x)
      | 4, .ref x :: .ref q :: r => some ([ob M q a], pc + 3, vs, r, sR M q b (some x))
      | 4, .null :: .ref q :: r => some ([ob M q a], pc + 3, vs, r, sR M q b none)
      | _, _ => none)
    | .arraylength => (match st with
      | .ref q :: r => (match a with
        | 30 => some ([q = mSb M], pc + 1, vs, .int (nI (mSl M)) :: r, M)
        | _ => some ([ob M q a, 13 ≤ a ∧ a < 22], pc + 1, vs, .int (nI (mN M q)) :: r, M))
      | _ => none)
    | .iaload => (match st with
      | .int i :: .ref q :: r => (match a with
        | 30 => some ([q = mSb M, vp_in i (mSl M)], pc + 1, vs, .int (mSx M i.toNatClampNeg) :: r, M)
        | _ => some ([ob M q 15, vp_in i (mN M q)], pc + 1, vs, .int (mI M q i.toNatClampNeg) :: r, M))
      | _ => none)
    | .baload => (match st with
      | .int i :: .ref q :: r => some ([ob M q a, a = 13 ∨ a = 14, vp_in i (mN M q)], pc + 1, vs, .int (mI M q i.toNatClampNeg) :: r, M)
      | _ => none)
    | .laload => (match st with
      | .int i :: .ref q :: r => some ([ob M q 16, vp_in i (mN M q)], pc + 1, vs, .long (mJ M q i.toNatClampNeg) :: r, M)
      | _ => none)
    | .aaload => (match st with
      | .int i :: .ref q :: r => some ([ob M q a, 17 ≤ a ∧ a < 22, vp_in i (mN M q), mR M q i.toNatClampNeg = o], pc + 1, vs, va_rf o :: r, M)
      | _ => none)
    | .iastore => (match st with
      | .int x :: .int i :: .ref q :: r => some ([ob M q 15, vp_in i (mN M q)], pc + 1, vs, r, sI M q i.toNatClampNeg x)
      | _ => none)
    | .bastore => (match a, st with
      | 13, .int x :: .int i :: .ref q :: r => some ([ob M q 13, vp_in i (mN M q)], pc + 1, vs, r, sI M q i.toNatClampNeg (vp_nar .boolean x))
      | 14, .int x :: .int i :: .ref q :: r => some ([ob M q 14, vp_in i (mN M q)], pc + 1, vs, r, sI M q i.toNatClampNeg (vp_nar .byte x))
      | _, _ => none)
    | .lastore => (match st with
      | .long x :: .int i :: .ref q :: r => some ([ob M q 16, vp_in i (mN M q)], pc + 1, vs, r, sJ M q i.toNatClampNeg x)
      | _ => none)
    | .aastore => (match st with
      | .ref x :: .int i :: .ref q :: r => some ([ob M q a, 17 ≤ a ∧ a < 22, ob M x (zaI.getD (a - 17) 0), vp_in i (mN M q)], pc + 1, vs, r, sR M q i.toNatClampNeg (some x))
      | .null :: .int i :: .ref q :: r => some ([ob M q a, 17 ≤ a ∧ a < 22, vp_in i (mN M q)], pc + 1, vs, r, sR M q i.toNatClampNeg none)
      | _ => none)
    | _ => none
def allP : List Prop → Prop
  | [] => True
  | p :: r => p ∧ allP r
/-- the letters of Text.isLetter -/
def letV (x : Int32) : Int32 := if (x.toUInt32 % 65536).toInt32 = 99 ∨ (x.toUInt32 % 65536).toInt32 = 108 ∨ (x.toUInt32 % 65536).toInt32 = 114 ∨ (x.toUInt32 % 65536).toInt32 = 103 ∨ (x.toUInt32 % 65536).toInt32 = 100 ∨ (x.toUInt32 % 65536).toInt32 = 104 then 1 else 0
def wsum (st : List Value) : Nat := (st.map fun v => v.category).sum
/-- a call's stack: the arguments are there, fit the callee's locals, and little is below them -/
def cok (a r : Nat) (st : List Value) : Bool := Nat.ble (pN (tbl a) + r) st.length && Nat.ble (ent ((st.take (pN (tbl a) + r)).reverse)).length (pL (tbl a)) && Nat.ble (wsum (st.drop (pN (tbl a) + r))) 8
/-- what a return may bring: booleans are 0 or 1 -/
def retP (ty : Option FieldType) (v : Int32) : Prop := ty = some .int ∨ (ty = some .boolean ∧ (v = 0 ∨ v = 1))
def isObjTy (ty : Option FieldType) : Prop := ∃ C, ty = some (.object C)
/-- a predicate of what a frame brings about: d, k, bc, bs, pc, locals, stack, memory, what the end must be -/
abbrev PT : Type := Nat → Nat → Nat → Nat → Nat → List Value → List Value → Mem → (Option Value → Mem → Prop) → Prop
/-- from frame (d: how deep it may call; bc, bs: the cells and slots that it may still make): it comes to its end, with an answer and a memory that R holds of -/
def runF (P : PT) : PT := fun d k bc bs pc vs st M R => match fet k pc with
    | none => False
    | some (p0, ins, len, a, b, t, x0, w0, ts) => match ins with
      | .ifCond c _ => (match st with
        | .int x :: r => (cmpP c x 0 → P d k bc bs a vs r M R) ∧ (¬ cmpP c x 0 → P d k bc bs (pc + 3) vs r M R)
        | _ => False)
      | .if_icmp c _ => (match st with
        | .int y :: .int x :: r => (cmpP c x y → P d k bc bs a vs r M R) ∧ (¬ cmpP c x y → P d k bc bs (pc + 3) vs r M R)
        | _ => False)
      | .if_acmp .ne _ => (match st with
        | y :: x :: r => ∃ rx ry : Option Nat, x = va_rf rx ∧ y = va_rf ry ∧ (¬ rx = ry → P d k bc bs a vs r M R) ∧ (rx = ry → P d k bc bs (pc + 3) vs r M R)
        | _ => False)
      | .ifnull _ => (match st with
        | .null :: r => P d k bc bs a vs r M R
        | .ref _ :: r => P d k bc bs (pc + 3) vs r M R
        | _ => False)
      | .ifnonnull _ => (match st with
        | .null :: r => P d k bc bs (pc + 3) vs r M R
        | .ref _ :: r => P d k bc bs a vs r M R
        | _ => False)
      | .tableswitch _ _ _ _ => (match st with
        | .int x :: r => swR x (fun t => P d k bc bs t vs r M R) a ts
        | _ => False)
      | .lookupswitch _ _ => (match st with
        | .int x :: r => swR x (fun t => P d k bc bs t vs r M R) a ts
        | _ => False)
      | .new _ => (match a with
        | 98 => st = [] ∧ R (some (.retAddr 7)) M
        | _ => 1 ≤ bc ∧ clNn a ≤ bs ∧ ∀ q, q ∉ mL M → P d k (bc - 1) (bs - clNn a) (pc + 3) vs (.ref q :: st) (alO M q a) R)
      | .newarray _ => (match st with
        | .int x :: r => ¬ x < 0 ∧ x.toNatClampNeg ≤ 100000 ∧ 1 ≤ bc ∧ x.toNatClampNeg ≤ bs ∧ ∀ q, q ∉ mL M → P d k (bc - 1) (bs - x.toNatClampNeg) (pc + 2) vs (.ref q :: r) (alA M q a x.toNatClampNeg) R
        | _ => False)
      | .anewarray _ => (match st with
        | .int x :: r => ¬ x < 0 ∧ x.toNatClampNeg ≤ 100000 ∧ 1 ≤ bc ∧ x.toNatClampNeg ≤ bs ∧ ∀ q, q ∉ mL M → P d k (bc - 1) (bs - x.toNatClampNeg) (pc + 3) vs (.ref q :: r) (alA M q a x.toNatClampNeg) R
        | _ => False)
      | .invokespecial _ => (match a with
        | 9000 => (match st with
          | .ref _ :: r => 1 ≤ d ∧ wsum r ≤ 8 ∧ P d k bc bs (pc + 3) vs r M R
          | _ => False)
        | _ => (match (st.take (pN (tbl a) + 1)).reverse with
          | .ref q :: as => 1 ≤ d ∧ cok a 1 st = true ∧ pMc (tbl a) ≤ bc ∧ pMs (tbl a) ≤ bs ∧
            P (d - 1) a (pMc (tbl a)) (pMs (tbl a)) 0 (padV (pL (tbl a)) (ent (.ref q :: as))) [] M (fun v M' => v = none ∧ P d k (bc - pMc (tbl a)) (bs - pMs (tbl a)) (pc + 3) vs (st.drop (pN (tbl a) + 1)) M' R)
          | _ => False))
      | .invokevirtual _ => (match (st.take (pN (tbl a) + 1)).reverse with
          | .ref q :: as => 1 ≤ d ∧ cok a 1 st = true ∧ pMc (tbl a) ≤ bc ∧ pMs (tbl a) ≤ bs ∧ ob M q (pC (tbl a)) ∧
            P (d - 1) a (pMc (tbl a)) (pMs (tbl a)) 0 (padV (pL (tbl a)) (ent (.ref q :: as))) [] M (fun v M' => v ≠ some (.retAddr 7) ∧ P d k (bc - pMc (tbl a)) (bs - pMs (tbl a)) (pc + 3) vs (v.toList ++ st.drop (pN (tbl a) + 1)) M' R)
          | _ => False)
      | .invokestatic _ => (match a with
        | 9001 => (match st with
          | .int z :: .int dp :: .ref a1 :: .int sp :: .ref a0 :: r => 1 ≤ d ∧ wsum r ≤ 8 ∧ ob M a0 15 ∧ ob M a1 15 ∧ ¬ sp < 0 ∧ ¬ dp < 0 ∧ ¬ z < 0 ∧ sp.toNatClampNeg + z.toNatClampNeg ≤ mN M a0 ∧ dp.toNatClampNeg + z.toNatClampNeg ≤ mN M a1 ∧
            P d k bc bs (pc + 3) vs r (cpI M a0 a1 sp.toNatClampNeg dp.toNatClampNeg z.toNatClampNeg) R
          | _ => False)
        | 86 => (match st with
          | .int x :: r => 30 ≤ d ∧ wsum r ≤ 8 ∧ P d k bc bs (pc + 3) vs (.int (letV x) :: r) M R
          | _ => False)
        | 276 => (match st with
          | .ref u :: .int w :: .int z :: .ref q :: r => 30 ≤ d ∧ wsum r ≤ 8 ∧ 100 ≤ bc ∧ 1000 ≤ bs ∧ ob M u 16 ∧ 1 ≤ mN M u ∧ ob M q 11 ∧
            P (d - 10) 137 0 0 0 (padV (pL (tbl 137)) (ent [.ref q, .int z, .int w])) [] M (fun v M' => (∃ y : Int32, v = some (.int y) ∧ (ob M' u 16 ∧ 1 ≤ mN M' u) ∧ P d k (bc - 100) (bs - 1000) (pc + 3) vs (.int 0 :: r) (sJ M' u 0 y.toInt64) R) ∨
              (v = some (.retAddr 7) ∧ P d k (bc - 100) (bs - 1000) (pc + 3) vs (.int 1 :: r) M' R))
          | _ => False)
        | _ => 1 ≤ d ∧ cok a 0 st = true ∧ pMc (tbl a) ≤ bc ∧ pMs (tbl a) ≤ bs ∧
            P (d - 1) a (pMc (tbl a)) (pMs (tbl a)) 0 (padV (pL (tbl a)) (ent ((st.take (pN (tbl a))).reverse))) [] M (fun v M' => v ≠ some (.retAddr 7) ∧ P d k (bc - pMc (tbl a)) (bs - pMs (tbl a)) (pc + 3) vs (v.toList ++ st.drop (pN (tbl a))) M' R))
      | .ireturn => (match st with
        | [.int v] => retP (pRet (tbl k)) v ∧ R (some (.int v)) M
        | _ => False)
      | .lreturn => (match st with
        | [.long v] => pRet (tbl k) = some .long ∧ R (some (.long v)) M
        | _ => False)
      | .areturn => (match st with
        | [.ref v] => isObjTy (pRet (tbl k)) ∧ R (some (.ref v)) M
        | [.null] => isObjTy (pRet (tbl k)) ∧ R (some .null) M
        | _ => False)
      | .return_ => st = [] ∧ pRet (tbl k) = none ∧ R none M
      | _ => ∃ o, match stp o (p0, ins, len, a, b, t, x0, w0, ts) pc vs st M with
        | some (ps, pc', vs', st', M') => allP ps ∧ P d k bc bs pc' vs' st' M' R
        | none => False
def Mon (P : PT) : Prop := ∀ (d d' k bc bc' bs bs' pc : Nat) (vs st : List Value) (M : Mem) (R R' : Option Value → Mem → Prop), d ≤ d' → bc ≤ bc' → bs ≤ bs' → (∀ v M', R v M' → R' v M') → P d k bc bs pc vs st M R → P d' k bc' bs' pc vs st M R'
/-- it comes to its end, with an answer and a memory that R holds of: the least such predicate -/
def Go (d k bc bs pc : Nat) (vs st : List Value) (M : Mem) (R : Option Value → Mem → Prop) : Prop := ∀ P : PT, Mon P → (∀ (d k bc bs pc : Nat) (vs st : List Value) (M : Mem) (R : Option Value → Mem → Prop), runF P d k bc bs pc vs st M R → P d k bc bs pc vs st M R) → P d k bc bs pc vs st M R
