/-! THE CLAIM OUT OF ONE WALK OF THE LAW'S BODY. Your part is whole_start (and what it stands on); all else here is the same for every law, but numbers. -/
def R_law : String := "SameManLaw"
def lw_P (b : Addr) (xs : List Int32) (args : Array Value) (s : State) : Prop := args = #[.ref b] ∧ s.IntsAt b xs ∧ xs.length ≤ 2560 ∧ (Jvm.Cond.and given_1 narrow_1).before args s = true
def lw_Q (_ : Array Value) (s : State) (o : Outcome) (t : State) : Prop := o = .returned (some (.int 1)) ∧ Framed s o t [] 600000 7302250
def lw_Z (below : List Frame) (a : Array Value) (s : State) : State → Prop := fun t => ∃ o, t.status = .running ∧ Ended t below o ∧ lw_Q a s o t
/-- the law's own end, with 1 on the stack, nothing written that was there before, its room as the claim has it -/
theorem lw_ret {p : Program} {l : Launch} {e : Env} {s : State} {m : MethodId} {below : List Frame} {meth : Method} {c : Code} {b : Nat} (hx : p.tables.exec = Jvm.exec) (hb : c.code = code) (hr : meth.sig.returnType = ret) (hlocks : meth.locks = false) {pc : Nat} {H : Heap} {ls : Array Slot} (hdg : decode code pc = .ok (.ireturn, 1)) : W p l e room_1 s m #[Value.ref b] below meth c H [] 600000 7302250 (lw_Z below #[Value.ref b] s) (F0 m pc ls [.int 1]) := by
  intro T hT X
  obtain ⟨fs, hret, hrun, hended, hW, hframe⟩ := X.leave (v := some (.int 1)) (hlocks := hlocks) (fun h => by rw [hr] at h; cases h)
  have hmeth' : T.vm.method? m = some meth := X.method'
  refine ⟨T.setFrames fs, ?_, .returned (some (.int 1)), hrun, hended, rfl, ⟨_, rfl⟩, hW, hframe⟩
  jvm_step X.here [X.here.top, hx, hb, hdg, hmeth', hr, ret, narrow_b1]
  (try refine ⟨rfl, ?_⟩); (try refine ⟨rfl, ?_⟩)
  first | (intro acts; rw [hret _ acts rfl rfl rfl]) | rw [hret _ _ rfl rfl rfl]
  exact Steps.refl _
/-- what holds at the law's entry: the machine, the code, the tables' words, the script of L ints xs at the cell b, what the Statement gives of the start, and the law's own code word -/
def lw_At (p : Program) (s : State) (m : MethodId) (meth : Method) (c : Code) (b L : Nat) (xs : Nat → Int32) : Prop :=
  p.tables.exec = Jvm.exec ∧ c.code = code ∧ meth.sig.returnType = ret ∧ c.maxLocals = 4 ∧ s.vm.findClass R_law = some m.cls ∧ (∀ w ∈ lw_tbl, w.before #[Value.ref b] s = true) ∧ va_X b L xs s s.heap ∧ b < s.heap.size ∧ meth.locks = false ∧ (Jvm.Cond.and given_1 narrow_1).before #[Value.ref b] s = true ∧ (Jvm.Cond.code x code maxLocals ret).before #[Value.ref b] s = true ∧ meth.name = "law"
/-! ===== the start, in the pure machine's words ===== -/
def w_h0 (n : Nat) : ab_H := (1, 0, (fun a => if a = 2000000 then 30 else 0), fun a => if a = 2000000 then n else 0)
def w_M0 (xs : Nat → Int32) : ab_M := (fun a => if a = 2000000 then xs else fun _ => 0, fun _ _ => 0, fun _ _ => 0)
def w_tm (i : Nat) : Term := .string RX6 (ab_strI.getD i 0)
def w_fl : List Cond := flatC (Jvm.Cond.and given_1 narrow_1)
theorem w_s1 : (List.range 11).all (fun i => decide (Cond.exactly (w_tm i) "java/lang/String" ∈ w_fl)) = true := by decide +kernel
theorem w_s2 : (List.range 11).all (fun i => decide (Cond.eq (.field (w_tm i) "java/lang/String" "coder" "B") (.int 0) ∈ w_fl)) = true := by decide +kernel
theorem w_s3 : (List.range 11).all (fun i => decide (Cond.arrayOf (.field (w_tm i) "java/lang/String" "value" "[B") .byte ∈ w_fl)) = true := by decide +kernel
theorem w_s4 : (List.range 11).all (fun i => decide (Cond.eq (.length (.field (w_tm i) "java/lang/String" "value" "[B")) (.int (Int32.ofNat ((ab_str.map List.length).getD i 0))) ∈ w_fl)) = true := by decide +kernel
theorem w_s5 : (List.range 11).all (fun i => (List.range ((ab_str.map List.length).getD i 0)).all (fun j => decide (Cond.eq (.elem (.field (w_tm i) "java/lang/String" "value" "[B") (.int (Int32.ofNat j))) (.int ((ab_str.getD i []).getD j 0)) ∈ w_fl))) = true := by decide +kernel
theorem w_s6 : (List.range 11).all (fun i => (List.range 11).all (fun j => decide (i = j) || decide (Cond.not (Cond.eq (w_tm i) (w_tm j)) ∈ w_fl) || decide (Cond.not (Cond.eq (w_tm j) (w_tm i)) ∈ w_fl))) = true := by decide +kernel
theorem w_s7 : (List.range 11).all (fun i => decide (Cond.stringRef RX6 (ab_strI.getD i 0) (ab_strT.getD i "") ∈ lw_tbl)) = true := by decide +kernel
theorem w_s8 : (List.range 11).all (fun i => decide ((ab_str.map List.length).getD i 0 < 2 ^ 31)) = true := by decide +kernel
theorem w_s9 : Cond.laysStatic "java/lang/String" "COMPACT_STRINGS" "Z" ∈ lw_tbl ∧ Cond.laysStatic "jdk/internal/util/Preconditions" "SIOOBE_FORMATTER" "Ljava/util/function/BiFunction;" ∈ lw_tbl ∧ Cond.initialized "java/lang/String" ∈ lw_tbl ∧ Cond.initialized "jdk/internal/util/Preconditions" ∈ lw_tbl := by decide +kernel
theorem w_s10 : Cond.eq (.static "java/lang/String" "COMPACT_STRINGS" "Z") (.int 1) ∈ w_fl ∧ Cond.isRef (.static "jdk/internal/util/Preconditions" "SIOOBE_FORMATTER" "Ljava/util/function/BiFunction;") ∈ w_fl := by decide +kernel
theorem w_s11 : Cond.arrayOver (.object RX1) ∈ lw_tbl ∧ Cond.arrayOver (.object RX2) ∈ lw_tbl ∧ Cond.arrayOver (.object RX3) ∈ lw_tbl ∧ Cond.arrayOver (.object RX7) ∈ lw_tbl := by decide +kernel
