/-! ===== the pure machine: shapes, memory, steps, runs ===== -/
/-- shapes: how many cells, how many slots, a cell's kind (1 + class number, 20 + array kind, 0: none), an array's length -/
abbrev ab_H : Type := Nat × Nat × (Nat → Nat) × (Nat → Nat)
abbrev ab_k (h : ab_H) (a : Nat) : Nat := h.2.2.1 a
abbrev ab_n (h : ab_H) (a : Nat) : Nat := h.2.2.2 a
/-- memory: ints, longs, references -/
abbrev ab_M : Type := (Nat → Nat → Int32) × (Nat → Nat → Int64) × (Nat → Nat → Nat)
def ab_u {α : Type} (f : Nat → Nat → α) (a k : Nat) (v : α) : Nat → Nat → α := fun b j => if b = a ∧ j = k then v else f b j
abbrev ab_S : Type := Nat × ab_Ls × List Value × ab_H × ab_M
def ab_lk : ab_T → Nat → Option (Instr × Nat × Nat)
  | [], _ => none
  | e :: t, pc => match Nat.beq e.1 pc with
    | true => some e.2
    | false => ab_lk t pc
def ab_get : ab_Ls → Nat → Option Value
  | [], _ => none
  | a :: _, 0 => a
  | _ :: t, i + 1 => ab_get t i
def ab_set : ab_Ls → Nat → Value → Option ab_Ls
  | [], _, _ => none
  | _ :: t, 0, v => some (some v :: t)
  | some (.long _) :: _, 1, _ => none
  | some (.double _) :: _, 1, _ => none
  | a :: t, i + 1, v => match ab_set t i v with
    | some t' => some (a :: t')
    | none => none
/-- a long, with the place behind it -/
def ab_setl : ab_Ls → Nat → Int64 → Option ab_Ls
  | _ :: none :: t, 0, v => some (some (.long v) :: none :: t)
  | some (.long _) :: _, 1, _ => none
  | some (.double _) :: _, 1, _ => none
  | a :: t, i + 1, v => match ab_setl t i v with
    | some t' => some (a :: t')
    | none => none
  | _, _, _ => none
/-- one step: where it comes to, and what must hold -/
abbrev ab_R : Type := Option (ab_S × Prop)
def ab_ok (s : ab_S) : ab_R := some (s, True)
def ab_ii (f : Int32 → Int32 → Int32) (pc : Nat) (L : ab_Ls) (h : ab_H) (M : ab_M) : List Value → ab_R
  | .int y :: .int x :: r => some ((pc, L, .int (f x y) :: r, h, M), True)
  | _ => none
def ab_jj (f : Int64 → Int64 → Int64) (pc : Nat) (L : ab_Ls) (h : ab_H) (M : ab_M) : List Value → ab_R
  | .long y :: .long x :: r => some ((pc, L, .long (f x y) :: r, h, M), True)
  | _ => none
def ab_ij (f : Int64 → Int32 → Int64) (pc : Nat) (L : ab_Ls) (h : ab_H) (M : ab_M) : List Value → ab_R
  | .int y :: .long x :: r => some ((pc, L, .long (f x y) :: r, h, M), True)
  | _ => none
def ab_iv (f : Int32 → Value) (pc : Nat) (L : ab_Ls) (h : ab_H) (M : ab_M) : List Value → ab_R
  | .int x :: r => some ((pc, L, f x :: r, h, M), True)
  | _ => none
def ab_ild (pc i : Nat) (L : ab_Ls) (st : List Value) (h : ab_H) (M : ab_M) : ab_R := match ab_get L i with
  | some (.int x) => some ((pc, L, .int x :: st, h, M), True)
  | _ => none
def ab_lld (pc i : Nat) (L : ab_Ls) (st : List Value) (h : ab_H) (M : ab_M) : ab_R := match ab_get L i with
  | some (.long x) => some ((pc, L, .long x :: st, h, M), True)
  | _ => none
def ab_ald (pc i : Nat) (L : ab_Ls) (st : List Value) (h : ab_H) (M : ab_M) : ab_R := match ab_get L i with
  | some (.ref x) => some ((pc, L, .ref x :: st, h, M), x ≠ 0)
  | _ => none
def ab_gl (pc : Nat) (st : List Value) (h : ab_H) (M : ab_M) (φ : Prop) : Option ab_Ls → ab_R
  | some L => some ((pc, L, st, h, M), φ)
  | none => none
def ab_ist (pc i : Nat) (L : ab_Ls) (h : ab_H) (M : ab_M) : List Value → ab_R
  | .int x :: r => ab_gl pc r h M True (ab_set L i (.int x))
  | _ => none
def ab_ast (pc i : Nat) (L : ab_Ls) (h : ab_H) (M : ab_M) : List Value → ab_R
  | .ref x :: r => ab_gl pc r h M (x ≠ 0) (ab_set L i (.ref x))
  | _ => none
def ab_lst (pc i : Nat) (L : ab_Ls) (h : ab_H) (M : ab_M) : List Value → ab_R
  | .long x :: r => ab_gl pc r h M True (ab_setl L i x)
  | _ => none
def ab_inc (pc i : Nat) (d : Int32) (L : ab_Ls) (st : List Value) (h : ab_H) (M : ab_M) : ab_R := match ab_get L i with
  | some (.int x) => ab_gl pc st h M True (ab_set L i (.int (x + d)))
  | _ => none
/-- the types of the fields: 0 int, 1 boolean, 2 reference -/
def ab_ft : Nat → List Nat
  | 0 => [2, 2, 2, 2, 2, 0]
  | 1 => [2, 2, 0, 0, 0]
  | 2 => [2, 0]
  | 3 => [2, 0, 0, 0]
  | 4 => [2, 2, 2, 0, 0, 0, 0, 1, 1]
  | 5 => [2, 2, 0, 0, 0]
  | 6 => [2, 2, 2, 1, 1, 0, 0, 0, 0, 0, 0]
  | 7 => [2, 1, 0, 0]
  | 8 => [2, 0]
  | 9 => [2, 2, 2, 2, 0, 0]
  | 10 => [2, 2, 2, 2, 2, 2, 2, 2, 2, 2, 0, 0]
  | 11 => [2, 2, 0, 2, 0, 2, 2, 2, 0, 0, 0, 0, 0, 2, 0, 0, 0, 0, 0, 0, 0, 0, 2, 2, 2, 2, 2, 2, 2, 2, 0]
  | _ => []
/-- a field's type, of ex = 100 * class + slot -/
def ab_fty (ex : Nat) : Option Nat := (ab_ft (ex / 100))[ex % 100]?
def ab_gf (pc ex : Nat) (L : ab_Ls) (h : ab_H) (M : ab_M) : List Value → ab_R
  | .ref a :: r => match ab_fty ex with
    | some 2 => some ((pc, L, .ref (M.2.2 a (ex % 100)) :: r, h, M), ab_k h a = ex / 100 + 1)
    | some _ => some ((pc, L, .int (M.1 a (ex % 100)) :: r, h, M), ab_k h a = ex / 100 + 1)
    | none => none
  | _ => none
def ab_pf (pc ex : Nat) (L : ab_Ls) (h : ab_H) (M : ab_M) : List Value → ab_R
  | .ref q :: .ref a :: r => match ab_fty ex with
    | some 2 => some ((pc, L, r, h, (M.1, M.2.1, ab_u M.2.2 a (ex % 100) q)), ab_k h a = ex / 100 + 1 ∧ q ≠ 0)
    | _ => none
  | .int x :: .ref a :: r => match ab_fty ex with
    | some 0 => some ((pc, L, r, h, (ab_u M.1 a (ex % 100) x, M.2.1, M.2.2)), ab_k h a = ex / 100 + 1)
    | some 1 => some ((pc, L, r, h, (ab_u M.1 a (ex % 100) x, M.2.1, M.2.2)), ab_k h a = ex / 100 + 1 ∧ (x = 0 ∨ x = 1))
    | _ => none
  | _ => none
def ab_iald (pc : Nat) (L : ab_Ls) (h : ab_H) (M : ab_M) : List Value → ab_R
  | .int i :: .ref a :: r => some ((pc, L, .int (M.1 a i.toNatClampNeg) :: r, h, M), (ab_k h a = 20 ∨ ab_k h a = 30) ∧ vp_in i (ab_n h a))
  | _ => none
def ab_bald (pc : Nat) (L : ab_Ls) (h : ab_H) (M : ab_M) : List Value → ab_R
  | .int i :: .ref a :: r => some ((pc, L, .int (M.1 a i.toNatClampNeg) :: r, h, M), (ab_k h a = 21 ∨ ab_k h a = 22) ∧ vp_in i (ab_n h a))
  | _ => none
def ab_lald (pc : Nat) (L : ab_Ls) (h : ab_H) (M : ab_M) : List Value → ab_R
  | .int i :: .ref a :: r => some ((pc, L, .long (M.2.1 a i.toNatClampNeg) :: r, h, M), ab_k h a = 23 ∧ vp_in i (ab_n h a))
  | _ => none
def ab_aald (pc : Nat) (L : ab_Ls) (h : ab_H) (M : ab_M) : List Value → ab_R
  | .int i :: .ref a :: r => some ((pc, L, .ref (M.2.2 a i.toNatClampNeg) :: r, h, M), (24 ≤ ab_k h a ∧ ab_k h a ≤ 27) ∧ vp_in i (ab_n h a))
  | _ => none
def ab_iast (pc : Nat) (L : ab_Ls) (h : ab_H) (M : ab_M) : List Value → ab_R
  | .int x :: .int i :: .ref a :: r => some ((pc, L, r, h, (ab_u M.1 a i.toNatClampNeg x, M.2.1, M.2.2)), ab_k h a = 20 ∧ vp_in i (ab_n h a))
  | _ => none
/-- bytes: what is stored is narrowed; booleans: 0 or 1 -/
def ab_bast (pc : Nat) (L : ab_Ls) (h : ab_H) (M : ab_M) : List Value → ab_R
  | .int x :: .int i :: .ref a :: r => some ((pc, L, r, h, (ab_u M.1 a i.toNatClampNeg x.toInt8.toInt32, M.2.1, M.2.2)), (ab_k h a = 21 ∨ ab_k h a = 22 ∧ (x = 0 ∨ x = 1)) ∧ vp_in i (ab_n h a))
  | _ => none
def ab_last (pc : Nat) (L : ab_Ls) (h : ab_H) (M : ab_M) : List Value → ab_R
  | .long x :: .int i :: .ref a :: r => some ((pc, L, r, h, (M.1, ab_u M.2.1 a i.toNatClampNeg x, M.2.2)), ab_k h a = 23 ∧ vp_in i (ab_n h a))
  | _ => none
def ab_aast (pc : Nat) (L : ab_Ls) (h : ab_H) (M : ab_M) : List Value → ab_R
  | .ref q :: .int i :: .ref a :: r => some ((pc, L, r, h, (M.1, M.2.1, ab_u M.2.2 a i.toNatClampNeg q)), (24 ≤ ab_k h a ∧ ab_k h a ≤ 27) ∧ ab_k h q = ab_oc (ab_k h a) + 1 ∧ vp_in i (ab_n h a))
  | _ => none
def ab_alen (pc : Nat) (L : ab_Ls) (h : ab_H) (M : ab_M) : List Value → ab_R
  | .ref a :: r => some ((pc, L, .int (Int32.ofNat (ab_n h a)) :: r, h, M), (20 ≤ ab_k h a ∧ ab_k h a ≤ 27) ∨ ab_k h a = 30)
  | _ => none
/-- a new object of class ci, its fields 0 and null -/
def ab_newo (pc ci : Nat) (L : ab_Ls) (st : List Value) (h : ab_H) (M : ab_M) : ab_R :=
  some ((pc, L, .ref h.1 :: st, (h.1 + 1, h.2.1 + (ab_ft ci).length, va_up h.2.2.1 h.1 (ci + 1), h.2.2.2), (va_up M.1 h.1 (fun _ => 0), M.2.1, va_up M.2.2 h.1 (fun _ => 0))), ci < 12 ∧ h.1 < 1000000)
def ab_newa (pc k : Nat) (L : ab_Ls) (h : ab_H) (M : ab_M) : List Value → ab_R
  | .int m :: st => some ((pc, L, .ref h.1 :: st, (h.1 + 1, h.2.1 + m.toNatClampNeg, va_up h.2.2.1 h.1 k, va_up h.2.2.2 h.1 m.toNatClampNeg), (va_up M.1 h.1 (fun _ => 0), va_up M.2.1 h.1 (fun _ => 0), va_up M.2.2 h.1 (fun _ => 0))), ¬ m < 0 ∧ m.toNatClampNeg ≤ 1000000 ∧ h.1 < 1000000)
  | _ => none
def ab_dup (pc : Nat) (L : ab_Ls) (h : ab_H) (M : ab_M) : List Value → ab_R
  | .int x :: r => some ((pc, L, .int x :: .int x :: r, h, M), True)
  | .ref x :: r => some ((pc, L, .ref x :: .ref x :: r, h, M), True)
  | _ => none
def ab_dup2 (pc : Nat) (L : ab_Ls) (h : ab_H) (M : ab_M) : List Value → ab_R
  | .int x :: .ref y :: r => some ((pc, L, .int x :: .ref y :: .int x :: .ref y :: r, h, M), True)
  | _ => none
def ab_pop (pc : Nat) (L : ab_Ls) (h : ab_H) (M : ab_M) : List Value → ab_R
  | .int _ :: r => some ((pc, L, r, h, M), True)
  | _ => none
def ab_div (f : Int32 → Int32 → Int32) (pc : Nat) (L : ab_Ls) (h : ab_H) (M : ab_M) : List Value → ab_R
  | .int y :: .int x :: r => some ((pc, L, .int (f x y) :: r, h, M), ¬ y = 0)
  | _ => none
/-- the String constants, their characters -/
def ab_str : List (List Int32) := [[108, 97, 119], [102, 101, 101], [108, 101, 116, 116, 101, 114], [111, 110, 101], [108, 105, 115, 116], [107, 110, 111, 119, 110], [112, 108, 97, 105, 110], [100, 101, 97, 100], [102, 111, 114, 101, 105, 103, 110], [109, 117, 116, 101], [116, 119, 105, 110]]
abbrev ab_sl (k : Nat) : Nat := (ab_str.getD k []).length
abbrev ab_sc (k j : Nat) : Int32 := (ab_str.getD k []).getD j 0
def ab_wd (t : List Value) : Prop := (t.map fun v => v.category).sum ≤ 8
/-- Object's constructor, String's length and charAt, Math's min and max -/
def ab_prs1 (pc : Nat) (L : ab_Ls) (h : ab_H) (M : ab_M) : List Value → ab_R
  | .ref a :: t => some ((pc, L, t, h, M), a ≠ 0 ∧ ab_wd t)
  | _ => none
def ab_prv (ex pc : Nat) (L : ab_Ls) (h : ab_H) (M : ab_M) : List Value → ab_R
  | .ref a :: t => match Nat.beq ex 9998 with
    | true => some ((pc, L, .int (Int32.ofNat (ab_sl (a - 1000000))) :: t, h, M), (1000000 ≤ a ∧ a < 1000011) ∧ ab_wd t)
    | false => none
  | .int q :: .ref a :: t => match Nat.beq ex 9997 with
    | true => some ((pc, L, .int (ab_sc (a - 1000000) q.toNatClampNeg) :: t, h, M), (1000000 ≤ a ∧ a < 1000011) ∧ vp_in q (ab_sl (a - 1000000)) ∧ ab_wd t)
    | false => none
  | _ => none
def ab_pst (ex pc : Nat) (L : ab_Ls) (h : ab_H) (M : ab_M) : List Value → ab_R
  | .int y :: .int x :: t => match Nat.beq ex 9996 with
    | true => some ((pc, L, .int (if x < y then y else x) :: t, h, M), ab_wd t)
    | false => match Nat.beq ex 9995 with
      | true => some ((pc, L, .int (if y < x then y else x) :: t, h, M), ab_wd t)
      | false => none
  | .long y :: .long x :: t => match Nat.beq ex 9994 with
    | true => some ((pc, L, .long (if y < x then y else x) :: t, h, M), ab_wd t)
    | false => none
  | _ => none
/-- the instructions that neither branch, call nor return -/
def ab_step (I : Instr) (ex pc : Nat) (L : ab_Ls) (st : List Value) (h : ab_H) (M : ab_M) : ab_R := match I with
  | .aload_n k => ab_ald (pc + 1) k.val L st h M
  | .iload_n k => ab_ild (pc + 1) k.val L st h M
  | .iconst v => ab_ok (pc + 1, L, .int (Int32.ofInt v) :: st, h, M)
  | .getfield _ => ab_gf (pc + 3) ex L h M st
  | .bipush v => ab_ok (pc + 2, L, .int (Int8.ofInt v).toInt32 :: st, h, M)
  | .sipush v => ab_ok (pc + 3, L, .int (Int16.ofInt v).toInt32 :: st, h, M)
  | .iload i => ab_ild (pc + 2) i L st h M
  | .iadd => ab_ii (fun x y => x + y) (pc + 1) L h M st
  | .goto _ => ab_ok (ex, L, st, h, M)
  | .iaload => ab_iald (pc + 1) L h M st
  | .istore_n k => ab_ist (pc + 1) k.val L h M st
  | .putfield _ => ab_pf (pc + 3) ex L h M st
  | .istore i => ab_ist (pc + 2) i L h M st
  | .iastore => ab_iast (pc + 1) L h M st
  | .iinc i d => ab_inc (pc + 3) i (Int32.ofInt d) L st h M
  | .dup => ab_dup (pc + 1) L h M st
  | .imul => ab_ii (fun x y => x * y) (pc + 1) L h M st
  | .isub => ab_ii (fun x y => x - y) (pc + 1) L h M st
  | .i2l => ab_iv (fun x => .long x.toInt64) (pc + 1) L h M st
  | .lconst k => ab_ok (pc + 1, L, .long (Int64.ofNat k.val) :: st, h, M)
  | .ldc2_w _ => ab_ok (pc + 3, L, .long (Int64.ofNat ex) :: st, h, M)
  | .ldc _ => match Nat.blt ex 4294967296 with
    | true => ab_ok (pc + 2, L, .int (Int32.ofNat ex) :: st, h, M)
    | false => ab_ok (pc + 2, L, .ref (ex - 4294967296) :: st, h, M)
  | .ldc_w _ => ab_ok (pc + 3, L, .int (Int32.ofNat ex) :: st, h, M)
  | .newarray _ => ab_newa (pc + 2) ex L h M st
  | .anewarray _ => ab_newa (pc + 3) ex L h M st
  | .aaload => ab_aald (pc + 1) L h M st
  | .aload i => ab_ald (pc + 2) i L st h M
  | .ishl => ab_ii (fun x y => x <<< (y &&& 31)) (pc + 1) L h M st
  | .ishr => ab_ii (fun x y => x >>> (y &&& 31)) (pc + 1) L h M st
  | .iushr => ab_ii (fun x y => (x.toUInt32 >>> (y.toUInt32 &&& Int32.toUInt32 31)).toInt32) (pc + 1) L h M st
  | .iand => ab_ii (fun x y => x &&& y) (pc + 1) L h M st
  | .ior => ab_ii (fun x y => x ||| y) (pc + 1) L h M st
  | .ineg => ab_iv (fun x => .int (-x)) (pc + 1) L h M st
  | .i2b => ab_iv (fun x => .int x.toInt8.toInt32) (pc + 1) L h M st
  | .i2s => ab_iv (fun x => .int x.toInt16.toInt32) (pc + 1) L h M st
  | .i2c => ab_iv (fun x => .int (x.toUInt32 % 65536).toInt32) (pc + 1) L h M st
  | .new _ => ab_newo (pc + 3) ex L st h M
  | .baload => ab_bald (pc + 1) L h M st
  | .astore_n k => ab_ast (pc + 1) k.val L h M st
  | .astore i => ab_ast (pc + 2) i L h M st
  | .irem => ab_div (fun x y => x - x / y * y) (pc + 1) L h M st
  | .idiv => ab_div (fun x y => x / y) (pc + 1) L h M st
  | .pop => ab_pop (pc + 1) L h M st
  | .lload_n k => ab_lld (pc + 1) k.val L st h M
  | .lload i => ab_lld (pc + 2) i L st h M
  | .bastore => ab_bast (pc + 1) L h M st
  | .lcmp => match st with
    | .long y :: .long x :: r => ab_ok (pc + 1, L, .int (lg_cmp x y) :: r, h, M)
    | _ => none
  | .laload => ab_lald (pc + 1) L h M st
  | .l2i => match st with
    | .long x :: r => ab_ok (pc + 1, L, .int x.toInt32 :: r, h, M)
    | _ => none
  | .arraylength => ab_alen (pc + 1) L h M st
  | .aastore => ab_aast (pc + 1) L h M st
  | .lstore i => ab_lst (pc + 2) i L h M st
  | .lstore_n k => ab_lst (pc + 1) k.val L h M st
  | .lshr => ab_ij (fun x y => x >>> (y.toInt64 &&& 63)) (pc + 1) L h M st
  | .lshl => ab_ij (fun x y => x <<< (y.toInt64 &&& 63)) (pc + 1) L h M st
  | .lushr => ab_ij (fun x y => (x.toUInt64 >>> (y.toInt64.toUInt64 &&& Int64.toUInt64 63)).toInt64) (pc + 1) L h M st
  | .ladd => ab_jj (fun x y => x + y) (pc + 1) L h M st
  | .lmul => ab_jj (fun x y => x * y) (pc + 1) L h M st
  | .land => ab_jj (fun x y => x &&& y) (pc + 1) L h M st
  | .lor => ab_jj (fun x y => x ||| y) (pc + 1) L h M st
  | .dup2 => ab_dup2 (pc + 1) L h M st
  | .lastore => ab_last (pc + 1) L h M st
  | .invokespecial _ => ab_prs1 (pc + 3) L h M st
  | .invokevirtual _ => ab_prv ex (pc + 3) L h M st
  | .invokestatic _ => ab_pst ex (pc + 3) L h M st
  | _ => none
/-- the condition of a branch -/
def ab_cmp : Jvm.ClassFile.Cond → Int32 → Int32 → Prop
  | .eq, x, y => x = y
  | .ne, x, y => ¬ x = y
  | .lt, x, y => x < y
  | .ge, x, y => y ≤ x
  | .gt, x, y => y < x
  | .le, x, y => x ≤ y
/-- the locals of a method at its entry -/
def ab_args : List Value → ab_Ls
  | [] => []
  | .long v :: t => some (.long v) :: none :: ab_args t
  | .double v :: t => some (.double v) :: none :: ab_args t
  | v :: t => some v :: ab_args t
def ab_ent (i : ab_I) (vs : List Value) : ab_Ls := ab_args vs ++ List.replicate (ab_Il i - (ab_args vs).length) none
/-- the answer fits the type -/
def ab_rt : Option FieldType → Value → Prop
  | some .int, .int _ => True
  | some .boolean, .int x => x = 0 ∨ x = 1
  | some .long, .long _ => True
  | some (.object _), .ref q => q ≠ 0
  | _, _ => False
/-- THE RUN: from here the method comes to its end with this answer and this memory -/
def ab_ev (P : List ab_I) : Nat → ab_I → Nat → ab_Ls → List Value → ab_H → ab_M → Option Value → ab_H → ab_M → Prop
  | 0, _, _, _, _, _, _, _, _, _ => False
  | f + 1, i, pc, L, st, h, M, r, h', M' => match ab_lk (ab_It i) pc with
    | none => False
    | some (I, _, ex) => match I with
      | .ifCond c _ => match st with
        | .int x :: t => (ab_cmp c x 0 → ab_ev P f i ex L t h M r h' M') ∧ (¬ ab_cmp c x 0 → ab_ev P f i (pc + 3) L t h M r h' M')
        | _ => False
      | .if_icmp c _ => match st with
        | .int y :: .int x :: t => (ab_cmp c x y → ab_ev P f i ex L t h M r h' M') ∧ (¬ ab_cmp c x y → ab_ev P f i (pc + 3) L t h M r h' M')
        | _ => False
      | .tableswitch d lo hi offs => match st with
        | .int x :: t => ((x.toInt < lo ∨ hi < x.toInt) → ∃ g : Nat, (pc : Int) + d = (g : Int) ∧ ab_ev P f i g L t h M r h' M') ∧ (¬ (x.toInt < lo ∨ hi < x.toInt) → ∃ (o : Int) (g : Nat), offs[(x.toInt - lo).toNat]? = some o ∧ (pc : Int) + o = (g : Int) ∧ ab_ev P f i g L t h M r h' M')
        | _ => False
      | .lookupswitch d ps => match st with
        | .int x :: t => ∃ g : Nat, (ps.toList.zip (ps.toList.drop 1)).all (fun (a, next) => a.1 < next.1) = true ∧ (pc : Int) + Op.lookupswitch.offset ps.toList d x.toInt = (g : Int) ∧ ab_ev P f i g L t h M r h' M'
        | _ => False
      | .ireturn => match st with
        | [.int x] => r = some (.int x) ∧ h' = h ∧ M' = M ∧ ab_rt (ab_Ir i) (.int x)
        | _ => False
      | .lreturn => match st with
        | [.long x] => r = some (.long x) ∧ h' = h ∧ M' = M ∧ ab_rt (ab_Ir i) (.long x)
        | _ => False
      | .areturn => match st with
        | [.ref x] => r = some (.ref x) ∧ h' = h ∧ M' = M ∧ ab_rt (ab_Ir i) (.ref x)
        | _ => False
      | .return_ => match st with
        | [] => r = none ∧ h' = h ∧ M' = M ∧ ab_Ir i = none
        | _ => False
      | .invokevirtual z => (ex < 9000 ∧ ∃ (j : ab_I) (t As : List Value) (a : Nat) (v : Option Value) (h1 : ab_H) (M1 : ab_M), P[ex % 1000]? = some j ∧ st = As.reverse ++ .ref a :: t ∧ As.length + 1 = ab_In j ∧ (ab_args (.ref a :: As)).length ≤ ab_Il j ∧ ab_k h a = ab_Ic j + 1 ∧ (t.map fun v => v.category).sum ≤ 8 ∧ ab_ev P f j 0 (ab_ent j (.ref a :: As)) [] h M v h1 M1 ∧ ab_ev P f i (pc + 3) L (v.toList ++ t) h1 M1 r h' M') ∨ (¬ ex < 9000 ∧ match ab_step (.invokevirtual z) ex pc L st h M with
        | some ((pc', L', st', h1, M1), φ) => φ ∧ ab_ev P f i pc' L' st' h1 M1 r h' M'
        | none => False)
      | .invokespecial z => (ex < 9000 ∧ ∃ (j : ab_I) (t As : List Value) (a : Nat) (v : Option Value) (h1 : ab_H) (M1 : ab_M), P[ex % 1000]? = some j ∧ st = As.reverse ++ .ref a :: t ∧ As.length + 1 = ab_In j ∧ (ab_args (.ref a :: As)).length ≤ ab_Il j ∧ a ≠ 0 ∧ (t.map fun v => v.category).sum ≤ 8 ∧ ab_ev P f j 0 (ab_ent j (.ref a :: As)) [] h M v h1 M1 ∧ ab_ev P f i (pc + 3) L (v.toList ++ t) h1 M1 r h' M') ∨ (¬ ex < 9000 ∧ match ab_step (.invokespecial z) ex pc L st h M with
        | some ((pc', L', st', h1, M1), φ) => φ ∧ ab_ev P f i pc' L' st' h1 M1 r h' M'
        | none => False)
      | .invokestatic z => (ex < 9000 ∧ ∃ (j : ab_I) (t As : List Value) (v : Option Value) (h1 : ab_H) (M1 : ab_M), P[ex % 1000]? = some j ∧ st = As.reverse ++ t ∧ As.length = ab_In j ∧ (ab_args As).length ≤ ab_Il j ∧ (t.map fun v => v.category).sum ≤ 8 ∧ ab_ev P f j 0 (ab_ent j As) [] h M v h1 M1 ∧ ab_ev P f i (pc + 3) L (v.toList ++ t) h1 M1 r h' M') ∨ (¬ ex < 9000 ∧ match ab_step (.invokestatic z) ex pc L st h M with
        | some ((pc', L', st', h1, M1), φ) => φ ∧ ab_ev P f i pc' L' st' h1 M1 r h' M'
        | none => False)
      | I => match ab_step I ex pc L st h M with
        | some ((pc', L', st', h1, M1), φ) => φ ∧ ab_ev P f i pc' L' st' h1 M1 r h' M'
        | none => False
