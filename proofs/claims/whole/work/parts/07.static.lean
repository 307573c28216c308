/-! ===== what must hold of the tables: decided once, by program ===== -/
def ab_tb : List Cond := lw_tbl.filter goodWord
def ab_isN : Cond → Bool
  | .fieldLinkNest .. => true
  | .methodLinkNest .. => true
  | _ => false
def ab_nst : List Cond := lw_tbl.filter ab_isN
def ab_cns : List String := [RX0, RX1, RX2, RX3, RX4, RX5, RX6, RX7, RX8, RX9, RX10, RX11, RL, RJ6, RJ9]
def ab_cn (c : Nat) : String := ab_cns.getD c ""
/-- the words of a method: its code first -/
def ab_wi (i : ab_I) : List Cond := Cond.code (ab_Iy i) (ab_Ib i) (ab_Il i) (ab_Ir i) :: ab_tb
/-- the length of an instruction -/
def ab_ln : Instr → Nat
  | .iload _ => 2 | .lload _ => 2 | .aload _ => 2 | .istore _ => 2 | .lstore _ => 2 | .astore _ => 2
  | .bipush _ => 2 | .ldc _ => 2 | .newarray _ => 2
  | .getfield _ => 3 | .putfield _ => 3 | .sipush _ => 3 | .goto _ => 3 | .iinc .. => 3 | .ldc_w _ => 3 | .ldc2_w _ => 3
  | .anewarray _ => 3 | .new _ => 3 | .if_icmp .. => 3 | .ifCond .. => 3 | .invokevirtual _ => 3 | .invokestatic _ => 3 | .invokespecial _ => 3
  | _ => 1
def ab_isSw : Instr → Bool
  | .tableswitch .. => true
  | .lookupswitch .. => true
  | _ => false
/-- links of fields: class, entry, 100 * class + slot, a nest mate's? -/
abbrev ab_FL : Type := List (Nat × Nat × Nat × Bool)
def ab_flw (f : Nat × Nat × Nat × Bool) : Option Cond := match vwCl[f.2.2.1 / 100]? with
  | none => none
  | some (C, T, N) => match decide (f.2.2.1 % 100 < N) with
    | false => none
    | true => match f.2.2.2 with
      | false => some (.fieldLink (ab_cn f.1) f.2.1 C (T (f.2.2.1 % 100)).2.1 (T (f.2.2.1 % 100)).2.2.1)
      | true => some (.fieldLinkNest (ab_cn f.1) f.2.1 C (T (f.2.2.1 % 100)).2.1 (T (f.2.2.1 % 100)).2.2.1 "SameMan")
def ab_flok (f : Nat × Nat × Nat × Bool) : Bool := match ab_flw f with
  | none => false
  | some w => match f.2.2.2 with
    | false => decide (w ∈ ab_tb)
    | true => decide (w ∈ ab_nst)
/-- links of methods: class, entry, the method's number, how it is called -/
abbrev ab_ML : Type := List (Nat × Nat × Nat × Nat)
def ab_mlok (P : List ab_I) (f : Nat × Nat × Nat × Nat) : Bool := match P[f.2.2.1]? with
  | none => false
  | some j => decide (Cond.code (ab_Iy j) (ab_Ib j) (ab_Il j) (ab_Ir j) ∈ ab_tb) && decide (Cond.initialized (ab_Iy j).cls ∈ ab_tb) && decide ((ab_Iy j).cls ≠ "java/lang/invoke/MethodHandle") && decide ((ab_Iy j).cls ≠ "java/lang/invoke/VarHandle") &&
    (match f.2.2.2 with
    | 0 => decide (Cond.methodLink (ab_cn f.1) f.2.1 (ab_Iy j) ∈ ab_tb)
    | 2 => decide (Cond.methodLink (ab_cn f.1) f.2.1 (ab_Iy j) ∈ ab_tb)
    | 4 => decide (Cond.methodLink (ab_cn f.1) f.2.1 (ab_Iy j) ∈ ab_tb)
    | _ => decide (Cond.methodLinkNest (ab_cn f.1) f.2.1 (ab_Iy j) "SameMan" ∈ ab_nst)) &&
    (match f.2.2.2 with
    | 0 => decide (Cond.instanceMethod (ab_Iy j) ∈ ab_tb) && decide (Cond.selects (ab_Iy j).cls (ab_Iy j) (ab_Iy j) ∈ ab_tb) && decide (vwCl[ab_Ic j]?.map (fun q => q.1) = some (ab_Iy j).cls) && decide ((parseMethodDescriptor (ab_Iy j).desc).map (fun d => d.parameters.length + 1) = some (ab_In j))
    | 1 => decide (Cond.instanceMethod (ab_Iy j) ∈ ab_tb) && decide (Cond.selects (ab_Iy j).cls (ab_Iy j) (ab_Iy j) ∈ ab_tb) && decide (vwCl[ab_Ic j]?.map (fun q => q.1) = some (ab_Iy j).cls) && decide ((parseMethodDescriptor (ab_Iy j).desc).map (fun d => d.parameters.length + 1) = some (ab_In j))
    | 2 => decide (Cond.static (ab_Iy j) ∈ ab_tb) && decide ((parseMethodDescriptor (ab_Iy j).desc).map (fun d => d.parameters.length) = some (ab_In j))
    | 3 => decide (Cond.static (ab_Iy j) ∈ ab_tb) && decide ((parseMethodDescriptor (ab_Iy j).desc).map (fun d => d.parameters.length) = some (ab_In j))
    | 4 => decide (Cond.instanceMethod (ab_Iy j) ∈ ab_tb) && decide ((ab_Iy j).name = "<init>") && decide (ab_Ir j = none) && decide ((parseMethodDescriptor (ab_Iy j).desc).map (fun d => d.parameters.length + 1) = some (ab_In j))
    | 5 => decide (Cond.instanceMethod (ab_Iy j) ∈ ab_tb) && decide ((ab_Iy j).name = "<init>") && decide (ab_Ir j = none) && decide ((parseMethodDescriptor (ab_Iy j).desc).map (fun d => d.parameters.length + 1) = some (ab_In j))
    | _ => false)
/-- the texts of the String constants, and their entries in the Reader -/
def ab_strT : List String := ["law", "fee", "letter", "one", "list", "known", "plain", "dead", "foreign", "mute", "twin"]
def ab_strI : List Nat := [71, 80, 85, 90, 95, 100, 169, 171, 173, 175, 177]
/-- is this field final -/
def ab_fin (ex : Nat) : Bool := match vwCl[ex / 100]? with
  | none => false
  | some (_, T, _) => (T (ex % 100)).2.2.2
/-- the instruction at a place, against the tables -/
def ab_chk (P : List ab_I) (fl : ab_FL) (ml : ab_ML) (i : ab_I) (e : Nat × Instr × Nat × Nat) : Bool :=
  decide (decode (ab_Ib i) e.1 = .ok (e.2.1, e.2.2.1)) && (ab_isSw e.2.1 || Nat.beq e.2.2.1 (ab_ln e.2.1)) &&
  match e.2.1 with
  | .goto off => decide ((e.1 : Int) + off = (e.2.2.2 : Int))
  | .ifCond _ off => decide ((e.1 : Int) + off = (e.2.2.2 : Int))
  | .if_icmp _ off => decide ((e.1 : Int) + off = (e.2.2.2 : Int))
  | .getfield idx => fl.any (fun f => Nat.beq f.1 (ab_Ic i) && Nat.beq f.2.1 idx && Nat.beq f.2.2.1 e.2.2.2)
  | .putfield idx => fl.any (fun f => Nat.beq f.1 (ab_Ic i) && Nat.beq f.2.1 idx && Nat.beq f.2.2.1 e.2.2.2) && (!ab_fin e.2.2.2 || decide ((ab_Iy i).name = "<init>") && decide (e.2.2.2 / 100 = ab_Ic i) && fl.any (fun f => Nat.beq f.1 (ab_Ic i) && Nat.beq f.2.1 idx && Nat.beq f.2.2.1 e.2.2.2 && !f.2.2.2))
  | .ldc idx => (Nat.blt e.2.2.2 4294967296 && decide (Cond.constant (ab_cn (ab_Ic i)) idx (Int32.ofNat e.2.2.2) ∈ ab_tb)) || (decide (4295967296 ≤ e.2.2.2) && Nat.blt e.2.2.2 4295967307 && Nat.beq (ab_Ic i) 6 && Nat.beq (ab_strI.getD (e.2.2.2 - 4295967296) 0) idx)
  | .ldc_w idx => decide (Cond.constant (ab_cn (ab_Ic i)) idx (Int32.ofNat e.2.2.2) ∈ ab_tb)
  | .ldc2_w idx => decide (Cond.constantLong (ab_cn (ab_Ic i)) idx (Int64.ofNat e.2.2.2) ∈ ab_tb)
  | .newarray t => (match t, e.2.2.2 with
    | .int, 20 => true
    | .byte, 21 => true
    | .boolean, 22 => true
    | .long, 23 => true
    | _, _ => false)
  | .anewarray idx => decide (24 ≤ e.2.2.2) && decide (e.2.2.2 ≤ 27) && decide (Cond.classLink (ab_cn (ab_Ic i)) idx (ab_cn (ab_oc e.2.2.2)) ∈ ab_tb)
  | .new idx => decide (e.2.2.2 < 12) && decide (Cond.classLink (ab_cn (ab_Ic i)) idx (ab_cn e.2.2.2) ∈ ab_tb)
  | .invokevirtual idx => (decide (e.2.2.2 < 9000) && ml.any (fun f => Nat.beq f.1 (ab_Ic i) && Nat.beq f.2.1 idx && Nat.beq f.2.2.1 (e.2.2.2 % 1000) && Nat.beq f.2.2.2 (e.2.2.2 / 1000) && Nat.ble f.2.2.2 1) && (match P[e.2.2.2 % 1000]? with
      | none => false
      | some j => Nat.ble (ab_If j + 1) (ab_If i) && Nat.ble (8 + (ab_Il j + 11) + ab_Iw j) (ab_Iw i)))
    || (Nat.beq e.2.2.2 9998 && decide (Cond.methodLink (ab_cn (ab_Ic i)) idx yJ0_length_8abf5 ∈ ab_tb) && Nat.ble 4 (ab_If i) && Nat.ble 150 (ab_Iw i))
    || (Nat.beq e.2.2.2 9997 && decide (Cond.methodLink (ab_cn (ab_Ic i)) idx yJ0_charAt_5068e ∈ ab_tb) && Nat.ble 4 (ab_If i) && Nat.ble 150 (ab_Iw i))
  | .invokestatic idx => ml.any (fun f => Nat.beq f.1 (ab_Ic i) && Nat.beq f.2.1 idx && Nat.beq f.2.2.1 (e.2.2.2 % 1000) && Nat.beq f.2.2.2 (e.2.2.2 / 1000) && Nat.ble 2 f.2.2.2 && Nat.ble f.2.2.2 3) && (match P[e.2.2.2 % 1000]? with
      | none => false
      | some j => Nat.ble (ab_If j + 1) (ab_If i) && Nat.ble (8 + (ab_Il j + 11) + ab_Iw j) (ab_Iw i))
  | .invokespecial idx => (Nat.beq e.2.2.2 9999 && decide (Cond.methodLink (ab_cn (ab_Ic i)) idx objectInit ∈ ab_tb) && Nat.ble 1 (ab_If i) && Nat.ble 20 (ab_Iw i))
    || (ml.any (fun f => Nat.beq f.1 (ab_Ic i) && Nat.beq f.2.1 idx && Nat.beq f.2.2.1 (e.2.2.2 % 1000) && Nat.beq f.2.2.2 (e.2.2.2 / 1000) && Nat.ble 4 f.2.2.2) && (match P[e.2.2.2 % 1000]? with
      | none => false
      | some j => Nat.ble (ab_If j + 1) (ab_If i) && Nat.ble (8 + (ab_Il j + 11) + ab_Iw j) (ab_Iw i)))
  | _ => true
def ab_chkI (P : List ab_I) (fl : ab_FL) (ml : ab_ML) (i : ab_I) : Bool := decide ((ab_Iy i).cls = ab_cn (ab_Ic i)) && plainName (ab_Iy i).cls && (ab_It i).all (ab_chk P fl ml i) && Nat.ble (ab_In i) (ab_Il i)
