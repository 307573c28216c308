/-! ===== what must hold of the tables: decided once, by program ===== -/
def ab_tb : List Cond := lw_tbl.filter goodWord
def ab_isN : Cond → Bool
  | .fieldLinkNest .. => true
  | .methodLinkNest .. => true
  | _ => false
def ab_nst : List Cond := lw_tbl.filter ab_isN
def ab_cns : List String := [RX0, RX1, RX2, RX3, RX4, RX5, RX6, RX7, RX8, RX9, RX10, RX11, RL, RJ6, RJ9]
def ab_cn (c : Nat) : String := ab_cns.getD c ""
/-- the words of a method: its code first -/
def ab_wi (i : ab_I) : List Cond := Cond.code (ab_Iy i) (ab_Ib i) (ab_Il i) (ab_Ir i) :: ab_tb
/-- the length of an instruction -/
def ab_ln : Instr → Nat
  | .iload _ => 2 | .lload _ => 2 | .aload _ => 2 | .istore _ => 2 | .lstore _ => 2 | .astore _ => 2
  | .bipush _ => 2 | .ldc _ => 2 | .newarray _ => 2
  | .getfield _ => 3 | .putfield _ => 3 | .sipush _ => 3 | .goto _ => 3 | .iinc .. => 3 | .ldc_w _ => 3 | .ldc2_w _ => 3
  | .anewarray _ => 3 | .new _ => 3 | .if_icmp .. => 3 | .ifCond .. => 3 | .invokevirtual _ => 3 | .invokestatic _ => 3 | .invokespecial _ => 3
  | _ => 1
def ab_isSw : Instr → Bool
  | .tableswitch .. => true
  | .lookupswitch .. => true
  | _ => false
/-- a word at its place in the tables -/
def ab_at (k : Nat) (w : Cond) : Bool := match lw_tbl[k]? with
  | some v => decide (v = w) && goodWord w
  | none => false
def ab_atN (k : Nat) (w : Cond) : Bool := match lw_tbl[k]? with
  | some v => decide (v = w) && ab_isN w
  | none => false
/-- links of fields: class, entry, 100 * class + slot, a nest mate's?, place -/
abbrev ab_FL : Type := List (Nat × Nat × Nat × Bool × Nat)
def ab_flw (f : Nat × Nat × Nat × Bool × Nat) : Option Cond := match vwCl[f.2.2.1 / 100]? with
  | none => none
  | some (C, T, N) => match decide (f.2.2.1 % 100 < N) with
    | false => none
    | true => match f.2.2.2.1 with
      | false => some (.fieldLink (ab_cn f.1) f.2.1 C (T (f.2.2.1 % 100)).2.1 (T (f.2.2.1 % 100)).2.2.1)
      | true => some (.fieldLinkNest (ab_cn f.1) f.2.1 C (T (f.2.2.1 % 100)).2.1 (T (f.2.2.1 % 100)).2.2.1 "SameMan")
def ab_flok (f : Nat × Nat × Nat × Bool × Nat) : Bool := match ab_flw f with
  | none => false
  | some w => match f.2.2.2.1 with
    | false => ab_at f.2.2.2.2 w
    | true => ab_atN f.2.2.2.2 w
/-- the words of a method as it is called: where its code, its class's initialization, its kind, its selection stand -/
abbrev ab_MC : Type := List (Nat × Nat × Nat × Nat)
/-- how a method is called: 0 an object's, 1 static, 2 a constructor -/
def ab_mcok (P : List ab_I) (mi how : Nat) (q : Nat × Nat × Nat × Nat) : Bool := match P[mi]? with
  | none => false
  | some j => ab_at q.1 (Cond.code (ab_Iy j) (ab_Ib j) (ab_Il j) (ab_Ir j)) && ab_at q.2.1 (Cond.initialized (ab_Iy j).cls) && decide ((ab_Iy j).cls ≠ "java/lang/invoke/MethodHandle") && decide ((ab_Iy j).cls ≠ "java/lang/invoke/VarHandle") &&
    (match how with
    | 0 => ab_at q.2.2.1 (Cond.instanceMethod (ab_Iy j)) && ab_at q.2.2.2 (Cond.selects (ab_Iy j).cls (ab_Iy j) (ab_Iy j)) && decide (vwCl[ab_Ic j]?.map (fun q => q.1) = some (ab_Iy j).cls) && decide ((parseMethodDescriptor (ab_Iy j).desc).map (fun d => d.parameters.length + 1) = some (ab_In j))
    | 1 => ab_at q.2.2.1 (Cond.static (ab_Iy j)) && decide ((parseMethodDescriptor (ab_Iy j).desc).map (fun d => d.parameters.length) = some (ab_In j))
    | 2 => ab_at q.2.2.1 (Cond.instanceMethod (ab_Iy j)) && decide ((ab_Iy j).name = "<init>") && decide (ab_Ir j = none) && decide ((parseMethodDescriptor (ab_Iy j).desc).map (fun d => d.parameters.length + 1) = some (ab_In j))
    | _ => false)
/-- links of methods: class, entry, the method's number, 2 * how + a nest mate's?, place -/
abbrev ab_ML : Type := List (Nat × Nat × Nat × Nat × Nat)
def ab_mlok (P : List ab_I) (hw : List Nat) (f : Nat × Nat × Nat × Nat × Nat) : Bool := match P[f.2.2.1]? with
  | none => false
  | some j => decide (hw[f.2.2.1]? = some (f.2.2.2.1 / 2)) && (match f.2.2.2.1 % 2 with
    | 0 => ab_at f.2.2.2.2 (Cond.methodLink (ab_cn f.1) f.2.1 (ab_Iy j))
    | _ => ab_atN f.2.2.2.2 (Cond.methodLinkNest (ab_cn f.1) f.2.1 (ab_Iy j) "SameMan"))
/-- the texts of the String constants, and their entries in the Reader -/
def ab_strT : List String := ["law", "fee", "letter", "one", "list", "known", "plain", "dead", "foreign", "mute", "twin"]
def ab_strI : List Nat := [71, 80, 85, 90, 95, 100, 169, 171, 173, 175, 177]
/-- is this field final -/
def ab_fin (ex : Nat) : Bool := match vwCl[ex / 100]? with
  | none => false
  | some (_, T, _) => (T (ex % 100)).2.2.2
/-- the instruction at a place, against the tables -/
def ab_chk (P : List ab_I) (fl : ab_FL) (ml : ab_ML) (i : ab_I) (e : Nat × Instr × Nat × Nat) : Bool :=
  decide (decode (ab_Ib i) e.1 = .ok (e.2.1, e.2.2.1)) && (ab_isSw e.2.1 || Nat.beq e.2.2.1 (ab_ln e.2.1)) &&
  match e.2.1 with
  | .goto off => decide ((e.1 : Int) + off = (e.2.2.2 : Int))
  | .ifCond _ off => decide ((e.1 : Int) + off = (e.2.2.2 : Int))
  | .if_icmp _ off => decide ((e.1 : Int) + off = (e.2.2.2 : Int))
  | .getfield idx => fl.any (fun f => Nat.beq f.1 (ab_Ic i) && Nat.beq f.2.1 idx && Nat.beq f.2.2.1 e.2.2.2)
  | .putfield idx => fl.any (fun f => Nat.beq f.1 (ab_Ic i) && Nat.beq f.2.1 idx && Nat.beq f.2.2.1 e.2.2.2) && (!ab_fin e.2.2.2 || decide ((ab_Iy i).name = "<init>") && decide (e.2.2.2 / 100 = ab_Ic i) && fl.any (fun f => Nat.beq f.1 (ab_Ic i) && Nat.beq f.2.1 idx && Nat.beq f.2.2.1 e.2.2.2 && !f.2.2.2.1))
  | .ldc idx => (Nat.blt e.2.2.2 4294967296 && decide (Cond.constant (ab_cn (ab_Ic i)) idx (Int32.ofNat e.2.2.2) ∈ ab_tb)) || (decide (4295967296 ≤ e.2.2.2) && Nat.blt e.2.2.2 4295967307 && Nat.beq (ab_Ic i) 6 && Nat.beq (ab_strI.getD (e.2.2.2 - 4295967296) 0) idx)
  | .ldc_w idx => decide (Cond.constant (ab_cn (ab_Ic i)) idx (Int32.ofNat e.2.2.2) ∈ ab_tb)
  | .ldc2_w idx => decide (Cond.constantLong (ab_cn (ab_Ic i)) idx (Int64.ofNat e.2.2.2) ∈ ab_tb)
  | .newarray t => (match t, e.2.2.2 with
    | .int, 20 => true
    | .byte, 21 => true
    | .boolean, 22 => true
    | .long, 23 => true
    | _, _ => false)
  | .anewarray idx => decide (24 ≤ e.2.2.2) && decide (e.2.2.2 ≤ 27) && decide (Cond.classLink (ab_cn (ab_Ic i)) idx (ab_cn (ab_oc e.2.2.2)) ∈ ab_tb)
  | .new idx => decide (e.2.2.2 < 12) && decide (Cond.classLink (ab_cn (ab_Ic i)) idx (ab_cn e.2.2.2) ∈ ab_tb)
  | .invokevirtual idx => (Nat.blt e.2.2.2 9000 && ml.any (fun f => Nat.beq f.1 (ab_Ic i) && Nat.beq f.2.1 idx && Nat.beq f.2.2.1 (e.2.2.2 % 1000) && Nat.beq f.2.2.2.1 (e.2.2.2 / 1000) && Nat.beq (f.2.2.2.1 / 2) 0) && (match P[e.2.2.2 % 1000]? with
      | none => false
      | some j => Nat.ble (ab_If j + 1) (ab_If i) && Nat.ble (8 + (ab_Il j + 11) + ab_Iw j) (ab_Iw i)))
    || (Nat.beq e.2.2.2 9998 && decide (Cond.methodLink (ab_cn (ab_Ic i)) idx yJ0_length_8abf5 ∈ ab_tb) && Nat.ble 4 (ab_If i) && Nat.ble 90 (ab_Iw i))
    || (Nat.beq e.2.2.2 9997 && decide (Cond.methodLink (ab_cn (ab_Ic i)) idx yJ0_charAt_5068e ∈ ab_tb) && Nat.ble 4 (ab_If i) && Nat.ble 90 (ab_Iw i))
  | .invokestatic idx => (Nat.blt e.2.2.2 9000 && ml.any (fun f => Nat.beq f.1 (ab_Ic i) && Nat.beq f.2.1 idx && Nat.beq f.2.2.1 (e.2.2.2 % 1000) && Nat.beq f.2.2.2.1 (e.2.2.2 / 1000) && Nat.beq (f.2.2.2.1 / 2) 1) && (match P[e.2.2.2 % 1000]? with
      | none => false
      | some j => Nat.ble (ab_If j + 1) (ab_If i) && Nat.ble (8 + (ab_Il j + 11) + ab_Iw j) (ab_Iw i)))
    || (Nat.beq e.2.2.2 9996 && decide (Cond.methodLink (ab_cn (ab_Ic i)) idx yJ9_max_7cf53 ∈ ab_tb) && Nat.ble 1 (ab_If i) && Nat.ble 30 (ab_Iw i))
    || (Nat.beq e.2.2.2 9995 && decide (Cond.methodLink (ab_cn (ab_Ic i)) idx yJ9_min_7cf53 ∈ ab_tb) && Nat.ble 1 (ab_If i) && Nat.ble 30 (ab_Iw i))
    || (Nat.beq e.2.2.2 9994 && decide (Cond.methodLink (ab_cn (ab_Ic i)) idx yJ9_min_f86c9 ∈ ab_tb) && Nat.ble 1 (ab_If i) && Nat.ble 30 (ab_Iw i))
  | .invokespecial idx => (Nat.beq e.2.2.2 9999 && decide (Cond.methodLink (ab_cn (ab_Ic i)) idx objectInit ∈ ab_tb) && Nat.ble 1 (ab_If i) && Nat.ble 20 (ab_Iw i))
    || (Nat.blt e.2.2.2 9000 && ml.any (fun f => Nat.beq f.1 (ab_Ic i) && Nat.beq f.2.1 idx && Nat.beq f.2.2.1 (e.2.2.2 % 1000) && Nat.beq f.2.2.2.1 (e.2.2.2 / 1000) && Nat.beq (f.2.2.2.1 / 2) 2) && (match P[e.2.2.2 % 1000]? with
      | none => false
      | some j => Nat.ble (ab_If j + 1) (ab_If i) && Nat.ble (8 + (ab_Il j + 11) + ab_Iw j) (ab_Iw i)))
  | _ => true
def ab_chkI (P : List ab_I) (fl : ab_FL) (ml : ab_ML) (i : ab_I) : Bool := decide ((ab_Iy i).cls = ab_cn (ab_Ic i)) && plainName (ab_Iy i).cls && (ab_It i).all (ab_chk P fl ml i) && Nat.ble (ab_In i) (ab_Il i)
