/-! A MINI MACHINE: tagged whole numbers, a flat memory, a shape; what it can run the real machine runs alike (soundness in a later part). -/
abbrev mV : Type := Int ⊕ (Int ⊕ (Int ⊕ Unit))
abbrev vI (x : Int) : mV := Sum.inl x
abbrev vL (x : Int) : mV := Sum.inr (Sum.inl x)
abbrev vA (x : Int) : mV := Sum.inr (Sum.inr (Sum.inl x))
abbrev vU : mV := Sum.inr (Sum.inr (Sum.inr ()))
abbrev mInf : Type := Nat × Int × Int × Int
abbrev mEnt : Type := Nat × Instr × mInf
abbrev mSh : Type := Int × Int × (Int → Int) × (Int → Int) × (Int → Int → Int)
abbrev mMem : Type := Int → Int → Int
abbrev mMeth : Type := Int × List Nat × Nat × Nat × List mEnt
def sN (S : mSh) : Int := S.1
def sU (S : mSh) : Int := S.2.1
def sK (S : mSh) (a : Int) : Int := S.2.2.1 a
def sL (S : mSh) (a : Int) : Int := S.2.2.2.1 a
def sF (S : mSh) (a k : Int) : Int := S.2.2.2.2 a k
def up (M : mMem) (a i v : Int) : mMem := fun a' i' => if a' = a ∧ i' = i then v else M a' i'
def zr (M : mMem) (a : Int) : mMem := fun a' i' => if a' = a then 0 else M a' i'
def cpy (M : mMem) (s sp d dp n : Int) : mMem := fun a i => if a = d ∧ dp ≤ i ∧ i < dp + n then M s (sp + (i - dp)) else M a i
/-- a new cell: its number is sN S + 1 -/
def sNew (S : mSh) (kind len slots : Int) : mSh :=
  (S.1 + 1, S.2.1 + slots, fun a => if a = S.1 + 1 then kind else S.2.2.1 a, fun a => if a = S.1 + 1 then len else S.2.2.2.1 a, fun a k => if a = S.1 + 1 then 0 else S.2.2.2.2 a k)
/-- a final field is set -/
def sSet (S : mSh) (a k : Int) : mSh := (S.1, S.2.1, S.2.2.1, S.2.2.2.1, fun a' k' => if a' = a ∧ k' = k then 1 else S.2.2.2.2 a' k')
abbrev R32 (x : Int) : Prop := -2147483648 ≤ x ∧ x ≤ 2147483647
abbrev R64 (x : Int) : Prop := -9223372036854775808 ≤ x ∧ x ≤ 9223372036854775807
def w32 (x : Int) : Int := x.bmod 4294967296
def isO (S : mSh) (a kd : Int) : Prop := 1 ≤ a ∧ a ≤ sN S ∧ sK S a = kd
def inA (S : mSh) (a kd i : Int) : Prop := isO S a kd ∧ 0 ≤ i ∧ i < sL S a
def band (x y : Int) : Int := (Int32.ofInt x &&& Int32.ofInt y).toInt
def bor (x y : Int) : Int := (Int32.ofInt x ||| Int32.ofInt y).toInt
def bshl (x y : Int) : Int := (Int32.ofInt x <<< (Int32.ofInt y &&& 31)).toInt
def bshr (x y : Int) : Int := (Int32.ofInt x >>> (Int32.ofInt y &&& 31)).toInt
def lcp (x y : Int) : Int := if x < y then -1 else if x = y then 0 else 1
/-- the Reader's text constants, by their numbers in its pool -/
def strT : List (Int × List Int) := [
  (99, [108, 111, 115, 101, 115]), (101, [121, 105, 101, 108, 100, 115]), (103, [98, 97, 114, 115]), (105, [112, 111, 117, 114]), (107, [114, 97, 99, 107]),
  (109, [98, 111, 116, 116, 108, 101]), (111, [112, 97, 115, 115]), (81, [102, 114, 111, 109]), (83, [105, 110]), (177, [91]), (179, [93]), (191, [99, 97, 115, 107]),
  (193, [116, 105, 101, 114]), (195, [115, 105, 122, 101]), (196, [102, 117, 108, 108]), (198, [109, 101, 97, 110]), (200, [121, 101, 97, 114]), (202, [109, 111, 111, 100]),
  (204, [100, 111, 110, 101]), (206, [108, 97, 116, 101, 115, 116]), (208, [98, 111, 116, 116, 108, 101, 100]), (210, [114, 111, 111, 109]), (171, [42]), (173, [47]), (175, [37]),
  (164, [43]), (166, [45]), (113, [116, 105, 109, 101, 115]), (94, [105, 102]), (140, [110, 111, 116]), (142, [40]), (147, [41]), (155, [60]), (157, [62]), (159, [61]),
  (138, [97, 110, 100]), (124, [111, 114]), (54, [59])]
def strOf (a : Int) : List Int := match strT.find? (fun q => q.1 == -a) with
  | some q => q.2
  | none => []
def isS (a : Int) : Prop := ∃ q ∈ strT, a = -q.1
/-- words of the operand stack -/
def c1 : mV → Bool
  | .inl _ => true
  | .inr (.inl _) => false
  | .inr (.inr (.inl _)) => true
  | .inr (.inr (.inr _)) => false
def stw : List mV → Nat
  | [] => 0
  | v :: st => (match c1 v with | true => 1 | false => 2) + stw st
/-- a local is stored; a long is good only as long as the local behind it is unset -/
def st1 (ls : List mV) (i : Nat) (v : mV) : List mV := ls.set i v
def st2 (ls : List mV) (i : Nat) (v : mV) : List mV := (ls.set (i + 1) vU).set i v
abbrev mR : Type := Option (Option Prop × List mV × List mV × mSh × mMem)
def pl_load (ls st : List mV) (S : mSh) (M : mMem) (i t : Nat) : mR := match t, ls.getD i vU with
  | 0, .inl x => some (none, ls, vI x :: st, S, M)
  | 1, .inr (.inl x) => match ls.getD (i + 1) (vI 0) with
    | .inr (.inr (.inr _)) => some (none, ls, vL x :: st, S, M)
    | _ => none
  | 2, .inr (.inr (.inl x)) => some (none, ls, vA x :: st, S, M)
  | _, _ => none
def pl_store (ls st : List mV) (S : mSh) (M : mMem) (i t : Nat) : mR := match t, st with
  | 0, .inl x :: st' => match Nat.blt i ls.length with
    | true => some (none, st1 ls i (vI x), st', S, M)
    | false => none
  | 1, .inr (.inl x) :: st' => match Nat.blt (i + 1) ls.length with
    | true => some (none, st2 ls i (vL x), st', S, M)
    | false => none
  | 2, .inr (.inr (.inl x)) :: st' => match Nat.blt i ls.length with
    | true => some (none, st1 ls i (vA x), st', S, M)
    | false => none
  | _, _ => none
def pl_bin (ls st : List mV) (S : mSh) (M : mMem) (c : Int → Int → Option Prop) (f : Int → Int → Int) : mR := match st with
  | .inl y :: .inl x :: st' => some (c x y, ls, vI (f x y) :: st', S, M)
  | _ => none
def pl_binL (ls st : List mV) (S : mSh) (M : mMem) (c : Int → Int → Option Prop) (f : Int → Int → Int) : mR := match st with
  | .inr (.inl y) :: .inr (.inl x) :: st' => some (c x y, ls, vL (f x y) :: st', S, M)
  | _ => none
def pl_getf (inf : mInf) (ls st : List mV) (S : mSh) (M : mMem) : mR := match inf, st with
  | (0, ci, k, _), .inr (.inr (.inl a)) :: st' => some (some (isO S a ci), ls, vI (M a k) :: st', S, M)
  | (1, ci, k, _), .inr (.inr (.inl a)) :: st' => some (some (isO S a ci), ls, vL (M a k) :: st', S, M)
  | (2, ci, k, _), .inr (.inr (.inl a)) :: st' => some (some (isO S a ci), ls, vA (M a k) :: st', S, M)
  | (3, ci, k, off), .inr (.inr (.inl a)) :: st' => some (some (isO S a ci ∧ sF S a k = 1), ls, vA (a + off) :: st', S, M)
  | (4, ci, k, _), .inr (.inr (.inl a)) :: st' => some (some (isO S a ci), ls, vI (M a k) :: st', S, M)
  | _, _ => none
def pl_putf (inf : mInf) (ls st : List mV) (S : mSh) (M : mMem) : mR := match inf, st with
  | (0, ci, k, _), .inl x :: .inr (.inr (.inl a)) :: st' => some (some (isO S a ci), ls, st', S, up M a k x)
  | (1, ci, k, _), .inr (.inl x) :: .inr (.inr (.inl a)) :: st' => some (some (isO S a ci), ls, st', S, up M a k x)
  | (2, ci, k, _), .inr (.inr (.inl x)) :: .inr (.inr (.inl a)) :: st' => some (some (isO S a ci), ls, st', S, up M a k x)
  | (3, ci, k, off), .inr (.inr (.inl x)) :: .inr (.inr (.inl a)) :: st' => some (some (isO S a ci ∧ x = a + off), ls, st', sSet S a k, M)
  | (4, ci, k, _), .inl x :: .inr (.inr (.inl a)) :: st' => some (some (isO S a ci ∧ (x = 0 ∨ x = 1)), ls, st', S, up M a k x)
  | _, _ => none
/-- array loads: t 0 of the world, 1 of the script -/
def pl_ald (inf : mInf) (ls st : List mV) (S : mSh) (M : mMem) : Instr → mR
  | .iaload => match inf.1, st with
    | 0, .inl i :: .inr (.inr (.inl a)) :: st' => some (some (inA S a 20 i), ls, vI (M a i) :: st', S, M)
    | 1, .inl i :: .inr (.inr (.inl a)) :: st' => some (some (a = -1 ∧ 0 ≤ i ∧ i < sL S (-1)), ls, vI (M (-1) i) :: st', S, M)
    | _, _ => none
  | .laload => match st with
    | .inl i :: .inr (.inr (.inl a)) :: st' => some (some (inA S a 21 i), ls, vL (M a i) :: st', S, M)
    | _ => none
  | .baload => match st with
    | .inl i :: .inr (.inr (.inl a)) :: st' => some (some (inA S a 22 i), ls, vI (M a i) :: st', S, M)
    | _ => none
  | .aaload => match st with
    | .inl i :: .inr (.inr (.inl a)) :: st' => some (some (inA S a inf.2.1 i), ls, vA (M a i) :: st', S, M)
    | _ => none
  | .arraylength => match inf.1, st with
    | 0, .inr (.inr (.inl a)) :: st' => some (some (isO S a inf.2.1), ls, vI (sL S a) :: st', S, M)
    | 1, .inr (.inr (.inl a)) :: st' => some (some (a = -1), ls, vI (sL S (-1)) :: st', S, M)
    | _, _ => none
  | _ => none
def pl_ast (inf : mInf) (ls st : List mV) (S : mSh) (M : mMem) : Instr → mR
  | .iastore => match st with
    | .inl x :: .inl i :: .inr (.inr (.inl a)) :: st' => some (some (inA S a 20 i), ls, st', S, up M a i x)
    | _ => none
  | .lastore => match st with
    | .inr (.inl x) :: .inl i :: .inr (.inr (.inl a)) :: st' => some (some (inA S a 21 i), ls, st', S, up M a i x)
    | _ => none
  | .bastore => match st with
    | .inl x :: .inl i :: .inr (.inr (.inl a)) :: st' => some (some (inA S a 22 i ∧ (x = 0 ∨ x = 1)), ls, st', S, up M a i x)
    | _ => none
  | .aastore => match st with
    | .inr (.inr (.inl x)) :: .inl i :: .inr (.inr (.inl a)) :: st' => some (some (inA S a inf.2.1 i ∧ isO S x inf.2.2.1), ls, st', S, up M a i x)
    | _ => none
  | _ => none
def pl_newa (k : Int) (ls st : List mV) (S : mSh) (M : mMem) : mR := match st with
  | .inl n :: st' => some (some (0 ≤ n ∧ n ≤ 100000), ls, vA (sN S + 1) :: st', sNew S k n n, zr M (sN S + 1))
  | _ => none
/-- the library's members: 1 max, 2 min, 3 arraycopy, 4 Object's constructor, 5 length, 6 charAt -/
def pl_lib (inf : mInf) (ls st : List mV) (S : mSh) (M : mMem) : mR := match inf.1, st with
  | 1, .inl y :: .inl x :: st' => match Nat.ble (stw st') 8 with
    | true => some (none, ls, vI (if x < y then y else x) :: st', S, M)
    | false => none
  | 2, .inl y :: .inl x :: st' => match Nat.ble (stw st') 8 with
    | true => some (none, ls, vI (if y < x then y else x) :: st', S, M)
    | false => none
  | 3, .inl n :: .inl dp :: .inr (.inr (.inl b)) :: .inl sp :: .inr (.inr (.inl a)) :: st' => match Nat.ble (stw st') 8 with
    | true => some (some (isO S a inf.2.1 ∧ isO S b inf.2.1 ∧ (0 ≤ sp ∧ 0 ≤ dp ∧ 0 ≤ n ∧ sp + n ≤ sL S a ∧ dp + n ≤ sL S b) ∧ (inf.2.1 = 23 → ∀ i, 0 ≤ i → i < n → M a (sp + i) = 0 ∨ isO S (M a (sp + i)) 6)), ls, st', S, cpy M a sp b dp n)
    | false => none
  | 4, .inr (.inr (.inl a)) :: st' => match Nat.ble (stw st') 8 with
    | true => some (some (1 ≤ a), ls, st', S, M)
    | false => none
  | 5, .inr (.inr (.inl a)) :: st' => match Nat.ble (stw st') 8 with
    | true => some (some (isS a), ls, vI ((strOf a).length : Int) :: st', S, M)
    | false => none
  | 6, .inl i :: .inr (.inr (.inl a)) :: st' => match Nat.ble (stw st') 8 with
    | true => some (some (isS a ∧ 0 ≤ i ∧ i < ((strOf a).length : Int)), ls, vI ((strOf a).getD i.toNat 0) :: st', S, M)
    | false => none
  | _, _ => none
def pl_cst (inf : mInf) (ls st : List mV) (S : mSh) (M : mMem) : mR := match inf.1 with
  | 0 => some (none, ls, vI inf.2.1 :: st, S, M)
  | 1 => some (none, ls, vA (-inf.2.1) :: st, S, M)
  | _ => none
/-- one plain instruction: what must hold for it, and what is behind it -/
def pl (ins : Instr) (inf : mInf) (ls st : List mV) (S : mSh) (M : mMem) : mR := match ins with
  | .aconst_null => some (none, ls, vA 0 :: st, S, M)
  | .iload i => pl_load ls st S M i 0
  | .iload_n i => pl_load ls st S M i.val 0
  | .lload i => pl_load ls st S M i 1
  | .lload_n i => pl_load ls st S M i.val 1
  | .aload i => pl_load ls st S M i 2
  | .aload_n i => pl_load ls st S M i.val 2
  | .istore i => pl_store ls st S M i 0
  | .istore_n i => pl_store ls st S M i.val 0
  | .lstore i => pl_store ls st S M i 1
  | .lstore_n i => pl_store ls st S M i.val 1
  | .astore i => pl_store ls st S M i 2
  | .astore_n i => pl_store ls st S M i.val 2
  | .iinc i k => match ls.getD i vU with
    | .inl x => some (some (R32 (x + k)), st1 ls i (vI (x + k)), st, S, M)
    | _ => none
  | .iconst v => some (none, ls, vI v :: st, S, M)
  | .bipush v => some (none, ls, vI v :: st, S, M)
  | .sipush v => some (none, ls, vI v :: st, S, M)
  | .lconst v => some (none, ls, vL (v.val : Int) :: st, S, M)
  | .ldc _ => pl_cst inf ls st S M
  | .ldc_w _ => pl_cst inf ls st S M
  | .ldc2_w _ => some (none, ls, vL inf.2.1 :: st, S, M)
  | .dup => match st with
    | v :: st' => match c1 v with
      | true => some (none, ls, v :: v :: st', S, M)
      | false => none
    | _ => none
  | .pop => match st with
    | v :: st' => match c1 v with
      | true => some (none, ls, st', S, M)
      | false => none
    | _ => none
  | .dup2 => match st with
    | v :: w :: st' => match c1 v, c1 w with
      | true, true => some (none, ls, v :: w :: v :: w :: st', S, M)
      | _, _ => none
    | _ => none
  | .iadd => pl_bin ls st S M (fun x y => some (R32 (x + y))) (fun x y => x + y)
  | .isub => pl_bin ls st S M (fun x y => some (R32 (x - y))) (fun x y => x - y)
  | .imul => pl_bin ls st S M (fun x y => some (R32 (x * y))) (fun x y => x * y)
  | .idiv => pl_bin ls st S M (fun x y => some (y ≠ 0 ∧ R32 (x.tdiv y))) (fun x y => x.tdiv y)
  | .irem => pl_bin ls st S M (fun x y => some (y ≠ 0 ∧ R32 (x.tdiv y))) (fun x y => x.tmod y)
  | .iand => pl_bin ls st S M (fun _ _ => none) band
  | .ior => pl_bin ls st S M (fun _ _ => none) bor
  | .ishl => pl_bin ls st S M (fun _ _ => none) bshl
  | .ishr => pl_bin ls st S M (fun _ _ => none) bshr
  | .ineg => match st with
    | .inl x :: st' => some (some (R32 (-x)), ls, vI (-x) :: st', S, M)
    | _ => none
  | .ladd => pl_binL ls st S M (fun x y => some (R64 (x + y))) (fun x y => x + y)
  | .lsub => pl_binL ls st S M (fun x y => some (R64 (x - y))) (fun x y => x - y)
  | .lmul => pl_binL ls st S M (fun x y => some (R64 (x * y))) (fun x y => x * y)
  | .ldiv => pl_binL ls st S M (fun x y => some (y ≠ 0 ∧ R64 (x.tdiv y))) (fun x y => x.tdiv y)
  | .lrem => pl_binL ls st S M (fun x y => some (y ≠ 0 ∧ R64 (x.tdiv y))) (fun x y => x.tmod y)
  | .lcmp => match st with
    | .inr (.inl y) :: .inr (.inl x) :: st' => some (none, ls, vI (lcp x y) :: st', S, M)
    | _ => none
  | .i2l => match st with
    | .inl x :: st' => some (none, ls, vL x :: st', S, M)
    | _ => none
  | .l2i => match st with
    | .inr (.inl x) :: st' => some (none, ls, vI (w32 x) :: st', S, M)
    | _ => none
  | .getfield _ => pl_getf inf ls st S M
  | .putfield _ => pl_putf inf ls st S M
  | .iaload => pl_ald inf ls st S M .iaload
  | .laload => pl_ald inf ls st S M .laload
  | .baload => pl_ald inf ls st S M .baload
  | .aaload => pl_ald inf ls st S M .aaload
  | .arraylength => pl_ald inf ls st S M .arraylength
  | .iastore => pl_ast inf ls st S M .iastore
  | .lastore => pl_ast inf ls st S M .lastore
  | .bastore => pl_ast inf ls st S M .bastore
  | .aastore => pl_ast inf ls st S M .aastore
  | .new _ => some (none, ls, vA (sN S + 1) :: st, sNew S inf.2.1 0 inf.2.2.1, zr M (sN S + 1))
  | .newarray .int => pl_newa 20 ls st S M
  | .newarray .long => pl_newa 21 ls st S M
  | .newarray .boolean => pl_newa 22 ls st S M
  | .anewarray _ => pl_newa inf.2.1 ls st S M
  | .invokestatic _ => pl_lib inf ls st S M
  | .invokespecial _ => pl_lib inf ls st S M
  | .invokevirtual _ => pl_lib inf ls st S M
  | _ => none
def jc (c : Jvm.ClassFile.Cond) (x y : Int) : Prop := match c with
  | .eq => x = y
  | .ne => ¬ x = y
  | .lt => x < y
  | .ge => y ≤ x
  | .gt => y < x
  | .le => x ≤ y
/-- where a switch goes -/
def swT (pc : Nat) (x dflt lo hi : Int) (offs : List Int) : Nat := if x < lo ∨ hi < x then ((pc : Int) + dflt).toNat else ((pc : Int) + offs.getD (x - lo).toNat 0).toNat
/-- jumps: the condition, where to, the stack -/
def jm (pc : Nat) (ins : Instr) (st : List mV) : Option (Prop × Nat × List mV) := match ins with
  | .goto off => some (True, ((pc : Int) + off).toNat, st)
  | .ifCond c off => match st with
    | .inl x :: st' => some (jc c x 0, ((pc : Int) + off).toNat, st')
    | _ => none
  | .if_icmp c off => match st with
    | .inl y :: .inl x :: st' => some (jc c x y, ((pc : Int) + off).toNat, st')
    | _ => none
  | .ifnull off => match st with
    | .inr (.inr (.inl a)) :: st' => some (a = 0, ((pc : Int) + off).toNat, st')
    | _ => none
  | .tableswitch dflt lo hi offs => match st with
    | .inl x :: st' => some (True, swT pc x dflt lo hi offs.toList, st')
    | _ => none
  | _ => none
/-- returns: by the kind of the answer (0 int, 1 long, 2 reference, 3 none, 4 boolean) -/
def rt (k : Nat) (ins : Instr) (st : List mV) : Option (Prop × Option mV) := match k, ins, st with
  | 0, .ireturn, [.inl x] => some (True, some (vI x))
  | 4, .ireturn, [.inl x] => some (x = 0 ∨ x = 1, some (vI x))
  | 1, .lreturn, [.inr (.inl x)] => some (True, some (vL x))
  | 2, .areturn, [.inr (.inr (.inl x))] => some (True, some (vA x))
  | 3, .return_, [] => some (True, none)
  | _, _, _ => none
def mGet (P : List mMeth) (j : Nat) : mMeth := P.getD j (-1, [], 0, 3, [])
def mCode (P : List mMeth) (j : Nat) : List mEnt := (mGet P j).2.2.2.2
def mRet (P : List mMeth) (j : Nat) : Nat := (mGet P j).2.2.2.1
def mAt (P : List mMeth) (j pc : Nat) : List mEnt := (mCode P j).dropWhile (fun e => !(Nat.beq e.1 pc))
/-- arguments off the stack, the last on top: tags from the last to the first -/
def popA : List Nat → List mV → List mV → Option (List mV × List mV)
  | [], st, as => some (as, st)
  | 0 :: ts, .inl x :: st, as => popA ts st (vI x :: as)
  | 1 :: ts, .inr (.inl x) :: st, as => popA ts st (vL x :: as)
  | 2 :: ts, .inr (.inr (.inl x)) :: st, as => popA ts st (vA x :: as)
  | _, _, _ => none
/-- the locals of a call -/
def iniA : List mV → List mV
  | [] => []
  | .inr (.inl x) :: as => vL x :: vU :: iniA as
  | v :: as => v :: iniA as
def iniL (as : List mV) (n : Nat) : List mV := iniA as ++ List.replicate (n - (iniA as).length) vU
def rcv (S : mSh) (ci : Int) (as : List mV) : Prop := match as with
  | .inr (.inr (.inl a)) :: _ => isO S a ci
  | _ => False
/-- a call of an own method -/
def ca (P : List mMeth) (ins : Instr) (inf : mInf) (st : List mV) (S : mSh) : Option (Prop × Nat × List mV × List mV) := match inf.1 with
  | 0 => match popA (mGet P inf.2.1.toNat).2.1.reverse st [] with
    | some (as, st') => match Nat.ble (stw st') 8 with
      | true => match ins with
        | .invokestatic _ => some (True, inf.2.1.toNat, iniL as (mGet P inf.2.1.toNat).2.2.1, st')
        | .invokevirtual _ => some (rcv S (mGet P inf.2.1.toNat).1 as, inf.2.1.toNat, iniL as (mGet P inf.2.1.toNat).2.2.1, st')
        | .invokespecial _ => some (rcv S (mGet P inf.2.1.toNat).1 as, inf.2.1.toNat, iniL as (mGet P inf.2.1.toNat).2.2.1, st')
        | _ => none
      | false => none
    | none => none
  | _ => none
noncomputable def pif {α : Type} (c : Prop) (a b : α) : α := @ite α c (Classical.propDecidable c) a b
theorem pif_t {α : Type} {c : Prop} {a b : α} (h : c) : pif c a b = a := @if_pos c (Classical.propDecidable c) h α a b
theorem pif_f {α : Type} {c : Prop} {a b : α} (h : ¬ c) : pif c a b = b := @if_neg c (Classical.propDecidable c) h α a b
abbrev mRun : Type := Nat → Nat → List mEnt → List mV → List mV → mSh → mMem → Option (Option mV × mSh × mMem)
/-- one instruction, and the rest by rc -/
noncomputable def exB (P : List mMeth) (rc : mRun) (d j pc : Nat) (ins : Instr) (inf : mInf) (cs : List mEnt) (ls st : List mV) (S : mSh) (M : mMem) : Option (Option mV × mSh × mMem) :=
    match pl ins inf ls st S M with
    | some (none, ls', st', S', M') => rc d j cs ls' st' S' M'
    | some (some c, ls', st', S', M') => pif c (rc d j cs ls' st' S' M') none
    | none => match jm pc ins st with
      | some (c, t, st') => pif c (rc d j (mAt P j t) ls st' S M) (rc d j cs ls st' S M)
      | none => match rt (mRet P j) ins st with
        | some (c, r) => pif c (some (r, S, M)) none
        | none => match d with
          | 0 => none
          | d' + 1 => match ca P ins inf st S with
            | some (c, q, las, st') => pif c (match rc d' q (mCode P q) las [] S M with
                | some (r, S', M') => rc (d' + 1) j cs ls (r.toList ++ st') S' M'
                | none => none) none
            | none => none
/-- the run of a method's rest, with so much fuel, so many calls deep at most -/
noncomputable def ex (P : List mMeth) : Nat → mRun
  | 0 => fun _ _ _ _ _ _ _ => none
  | n + 1 => fun d j cs ls st S M => match cs with
    | [] => none
    | (pc, ins, inf) :: cs => exB P (ex P n) d j pc ins inf cs ls st S M
theorem ex_0 (P : List mMeth) (d j : Nat) (cs : List mEnt) (ls st : List mV) (S : mSh) (M : mMem) : ex P 0 d j cs ls st S M = none := rfl
theorem ex_nil (P : List mMeth) (n d j : Nat) (ls st : List mV) (S : mSh) (M : mMem) : ex P (n + 1) d j [] ls st S M = none := rfl
theorem ex_cons (P : List mMeth) (n d j pc : Nat) (ins : Instr) (inf : mInf) (cs : List mEnt) (ls st : List mV) (S : mSh) (M : mMem) : ex P (n + 1) d j ((pc, ins, inf) :: cs) ls st S M = exB P (ex P n) d j pc ins inf cs ls st S M := rfl
