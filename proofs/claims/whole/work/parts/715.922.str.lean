theorem dJ0_length_8abf5_0 : decode cJ0_length_8abf5 0 = .ok (.aload_n 0, 1) := by decide +kernel
theorem dJ0_length_8abf5_1 : decode cJ0_length_8abf5 1 = .ok (.getfield 9, 3) := by decide +kernel
theorem dJ0_length_8abf5_4 : decode cJ0_length_8abf5 4 = .ok (.arraylength, 1) := by decide +kernel
theorem dJ0_length_8abf5_5 : decode cJ0_length_8abf5 5 = .ok (.aload_n 0, 1) := by decide +kernel
theorem dJ0_length_8abf5_6 : decode cJ0_length_8abf5 6 = .ok (.invokevirtual 335, 3) := by decide +kernel
theorem dJ0_length_8abf5_9 : decode cJ0_length_8abf5 9 = .ok (.ishr, 1) := by decide +kernel
theorem dJ0_length_8abf5_10 : decode cJ0_length_8abf5 10 = .ok (.ireturn, 1) := by decide +kernel
theorem dJ0_charAt_5068e_0 : decode cJ0_charAt_5068e 0 = .ok (.aload_n 0, 1) := by decide +kernel
theorem dJ0_charAt_5068e_1 : decode cJ0_charAt_5068e 1 = .ok (.invokevirtual 492, 3) := by decide +kernel
theorem dJ0_charAt_5068e_4 : decode cJ0_charAt_5068e 4 = .ok (.ifCond .eq 12, 3) := by decide +kernel
theorem dJ0_charAt_5068e_7 : decode cJ0_charAt_5068e 7 = .ok (.aload_n 0, 1) := by decide +kernel
theorem dJ0_charAt_5068e_8 : decode cJ0_charAt_5068e 8 = .ok (.getfield 9, 3) := by decide +kernel
theorem dJ0_charAt_5068e_11 : decode cJ0_charAt_5068e 11 = .ok (.iload_n 1, 1) := by decide +kernel
theorem dJ0_charAt_5068e_12 : decode cJ0_charAt_5068e 12 = .ok (.invokestatic 495, 3) := by decide +kernel
theorem dJ0_charAt_5068e_15 : decode cJ0_charAt_5068e 15 = .ok (.ireturn, 1) := by decide +kernel
theorem dJ0_charAt_5068e_16 : decode cJ0_charAt_5068e 16 = .ok (.aload_n 0, 1) := by decide +kernel
theorem dJ0_charAt_5068e_17 : decode cJ0_charAt_5068e 17 = .ok (.getfield 9, 3) := by decide +kernel
theorem dJ0_charAt_5068e_20 : decode cJ0_charAt_5068e 20 = .ok (.iload_n 1, 1) := by decide +kernel
theorem dJ0_charAt_5068e_21 : decode cJ0_charAt_5068e 21 = .ok (.invokestatic 498, 3) := by decide +kernel
theorem dJ0_charAt_5068e_24 : decode cJ0_charAt_5068e 24 = .ok (.ireturn, 1) := by decide +kernel
theorem dJ0_coder_7d493_0 : decode cJ0_coder_7d493 0 = .ok (.getstatic 38, 3) := by decide +kernel
theorem dJ0_coder_7d493_3 : decode cJ0_coder_7d493 3 = .ok (.ifCond .eq 10, 3) := by decide +kernel
theorem dJ0_coder_7d493_6 : decode cJ0_coder_7d493 6 = .ok (.aload_n 0, 1) := by decide +kernel
theorem dJ0_coder_7d493_7 : decode cJ0_coder_7d493 7 = .ok (.getfield 15, 3) := by decide +kernel
theorem dJ0_coder_7d493_10 : decode cJ0_coder_7d493 10 = .ok (.goto 4, 3) := by decide +kernel
theorem dJ0_coder_7d493_13 : decode cJ0_coder_7d493 13 = .ok (.iconst 1, 1) := by decide +kernel
theorem dJ0_coder_7d493_14 : decode cJ0_coder_7d493 14 = .ok (.ireturn, 1) := by decide +kernel
theorem dJ0_isLatin1_aae02_0 : decode cJ0_isLatin1_aae02 0 = .ok (.getstatic 38, 3) := by decide +kernel
theorem dJ0_isLatin1_aae02_3 : decode cJ0_isLatin1_aae02 3 = .ok (.ifCond .eq 14, 3) := by decide +kernel
theorem dJ0_isLatin1_aae02_6 : decode cJ0_isLatin1_aae02 6 = .ok (.aload_n 0, 1) := by decide +kernel
theorem dJ0_isLatin1_aae02_7 : decode cJ0_isLatin1_aae02 7 = .ok (.getfield 15, 3) := by decide +kernel
theorem dJ0_isLatin1_aae02_10 : decode cJ0_isLatin1_aae02 10 = .ok (.ifCond .ne 7, 3) := by decide +kernel
theorem dJ0_isLatin1_aae02_13 : decode cJ0_isLatin1_aae02 13 = .ok (.iconst 1, 1) := by decide +kernel
theorem dJ0_isLatin1_aae02_14 : decode cJ0_isLatin1_aae02 14 = .ok (.goto 4, 3) := by decide +kernel
theorem dJ0_isLatin1_aae02_17 : decode cJ0_isLatin1_aae02 17 = .ok (.iconst 0, 1) := by decide +kernel
theorem dJ0_isLatin1_aae02_18 : decode cJ0_isLatin1_aae02 18 = .ok (.ireturn, 1) := by decide +kernel
theorem dJ0_checkIndex_df160_0 : decode cJ0_checkIndex_df160 0 = .ok (.iload_n 0, 1) := by decide +kernel
theorem dJ0_checkIndex_df160_1 : decode cJ0_checkIndex_df160 1 = .ok (.iload_n 1, 1) := by decide +kernel
theorem dJ0_checkIndex_df160_2 : decode cJ0_checkIndex_df160 2 = .ok (.getstatic 1053, 3) := by decide +kernel
theorem dJ0_checkIndex_df160_5 : decode cJ0_checkIndex_df160 5 = .ok (.invokestatic 1059, 3) := by decide +kernel
theorem dJ0_checkIndex_df160_8 : decode cJ0_checkIndex_df160 8 = .ok (.pop, 1) := by decide +kernel
theorem dJ0_checkIndex_df160_9 : decode cJ0_checkIndex_df160 9 = .ok (.return_, 1) := by decide +kernel
theorem dJ1_charAt_3b067_0 : decode cJ1_charAt_3b067 0 = .ok (.iload_n 1, 1) := by decide +kernel
theorem dJ1_charAt_3b067_1 : decode cJ1_charAt_3b067 1 = .ok (.aload_n 0, 1) := by decide +kernel
theorem dJ1_charAt_3b067_2 : decode cJ1_charAt_3b067 2 = .ok (.arraylength, 1) := by decide +kernel
theorem dJ1_charAt_3b067_3 : decode cJ1_charAt_3b067 3 = .ok (.invokestatic 9, 3) := by decide +kernel
theorem dJ1_charAt_3b067_6 : decode cJ1_charAt_3b067 6 = .ok (.aload_n 0, 1) := by decide +kernel
theorem dJ1_charAt_3b067_7 : decode cJ1_charAt_3b067 7 = .ok (.iload_n 1, 1) := by decide +kernel
theorem dJ1_charAt_3b067_8 : decode cJ1_charAt_3b067 8 = .ok (.baload, 1) := by decide +kernel
theorem dJ1_charAt_3b067_9 : decode cJ1_charAt_3b067 9 = .ok (.sipush 255, 3) := by decide +kernel
theorem dJ1_charAt_3b067_12 : decode cJ1_charAt_3b067 12 = .ok (.iand, 1) := by decide +kernel
theorem dJ1_charAt_3b067_13 : decode cJ1_charAt_3b067 13 = .ok (.i2c, 1) := by decide +kernel
theorem dJ1_charAt_3b067_14 : decode cJ1_charAt_3b067 14 = .ok (.ireturn, 1) := by decide +kernel
theorem dJ3_checkIndex_8e157_0 : decode cJ3_checkIndex_8e157 0 = .ok (.iload_n 0, 1) := by decide +kernel
theorem dJ3_checkIndex_8e157_1 : decode cJ3_checkIndex_8e157 1 = .ok (.ifCond .lt 8, 3) := by decide +kernel
theorem dJ3_checkIndex_8e157_4 : decode cJ3_checkIndex_8e157 4 = .ok (.iload_n 0, 1) := by decide +kernel
theorem dJ3_checkIndex_8e157_5 : decode cJ3_checkIndex_8e157 5 = .ok (.iload_n 1, 1) := by decide +kernel
theorem dJ3_checkIndex_8e157_6 : decode cJ3_checkIndex_8e157 6 = .ok (.if_icmp .lt 10, 3) := by decide +kernel
theorem dJ3_checkIndex_8e157_9 : decode cJ3_checkIndex_8e157 9 = .ok (.aload_n 2, 1) := by decide +kernel
theorem dJ3_checkIndex_8e157_10 : decode cJ3_checkIndex_8e157 10 = .ok (.iload_n 0, 1) := by decide +kernel
theorem dJ3_checkIndex_8e157_11 : decode cJ3_checkIndex_8e157 11 = .ok (.iload_n 1, 1) := by decide +kernel
theorem dJ3_checkIndex_8e157_12 : decode cJ3_checkIndex_8e157 12 = .ok (.invokestatic 95, 3) := by decide +kernel
theorem dJ3_checkIndex_8e157_15 : decode cJ3_checkIndex_8e157 15 = .ok (.athrow, 1) := by decide +kernel
theorem dJ3_checkIndex_8e157_16 : decode cJ3_checkIndex_8e157 16 = .ok (.iload_n 0, 1) := by decide +kernel
theorem dJ3_checkIndex_8e157_17 : decode cJ3_checkIndex_8e157 17 = .ok (.ireturn, 1) := by decide +kernel
/-! ===== String's length and charAt on the String constants ===== -/
def ab_wj (y : MethodName) (b : ByteArray) (n : Nat) (r : Option FieldType) : List Cond := Cond.code y b n r :: ab_tb
theorem ab_wj_tb {y : MethodName} {b : ByteArray} {n : Nat} {r : Option FieldType} : ∀ w ∈ ab_tb, w ∈ ab_wj y b n r := fun _ h => List.mem_cons_of_mem _ h
theorem ab_wj_good {big : List Cond} (hb : ∀ w ∈ ab_tb, w ∈ big) {y : MethodName} {b : ByteArray} {n : Nat} {r : Option FieldType} (hc : Cond.code y b n r ∈ ab_tb) : GoodIn big (ab_wj y b n r) := by
  intro w hw
  have key : ∀ w ∈ ab_tb, w ∈ big ∧ ((w.onTables && w.keeps) = true ∨ ∃ ty, w = .arrayClass ty) := fun w hw => ⟨hb w hw, good_of_word (List.mem_filter.mp hw).2⟩
  rcases List.mem_cons.mp hw with rfl | hw
  · exact key _ hc
  · exact key _ hw
theorem ab_j3 : Cond.code yJ3_checkIndex_8e157 cJ3_checkIndex_8e157 3 (some .int) ∈ ab_tb ∧ Cond.static yJ3_checkIndex_8e157 ∈ ab_tb ∧ Cond.initialized RJ3 ∈ ab_tb ∧ Cond.methodLink RJ0 1059 yJ3_checkIndex_8e157 ∈ ab_tb := by decide +kernel
theorem ab_j0c : Cond.code yJ0_checkIndex_df160 cJ0_checkIndex_df160 2 none ∈ ab_tb ∧ Cond.static yJ0_checkIndex_df160 ∈ ab_tb ∧ Cond.initialized RJ0 ∈ ab_tb ∧ Cond.methodLink RJ1 9 yJ0_checkIndex_df160 ∈ ab_tb ∧ Cond.fieldLink RJ0 1053 "jdk/internal/util/Preconditions" "SIOOBE_FORMATTER" "Ljava/util/function/BiFunction;" ∈ ab_tb := by decide +kernel
theorem ab_j1 : Cond.code yJ1_charAt_3b067 cJ1_charAt_3b067 2 (some .char) ∈ ab_tb ∧ Cond.static yJ1_charAt_3b067 ∈ ab_tb ∧ Cond.initialized RJ1 ∈ ab_tb ∧ Cond.methodLink RJ0 495 yJ1_charAt_3b067 ∈ ab_tb := by decide +kernel
theorem ab_j0l : Cond.code yJ0_isLatin1_aae02 cJ0_isLatin1_aae02 1 (some .boolean) ∈ ab_tb ∧ Cond.instanceMethod yJ0_isLatin1_aae02 ∈ ab_tb ∧ Cond.selects RJ0 yJ0_isLatin1_aae02 yJ0_isLatin1_aae02 ∈ ab_tb ∧ Cond.methodLink RJ0 492 yJ0_isLatin1_aae02 ∈ ab_tb ∧ Cond.fieldLink RJ0 38 "java/lang/String" "COMPACT_STRINGS" "Z" ∈ ab_tb ∧ Cond.fieldLink RJ0 15 "java/lang/String" "coder" "B" ∈ ab_tb ∧ Cond.fieldLink RJ0 9 "java/lang/String" "value" "[B" ∈ ab_tb := by decide +kernel
theorem ab_j0d : Cond.code yJ0_coder_7d493 cJ0_coder_7d493 1 (some .byte) ∈ ab_tb ∧ Cond.instanceMethod yJ0_coder_7d493 ∈ ab_tb ∧ Cond.selects RJ0 yJ0_coder_7d493 yJ0_coder_7d493 ∈ ab_tb ∧ Cond.methodLink RJ0 335 yJ0_coder_7d493 ∈ ab_tb := by decide +kernel
theorem ab_j0a : Cond.code yJ0_charAt_5068e cJ0_charAt_5068e 2 (some .char) ∈ ab_tb ∧ Cond.instanceMethod yJ0_charAt_5068e ∈ ab_tb ∧ Cond.selects RJ0 yJ0_charAt_5068e yJ0_charAt_5068e ∈ ab_tb := by decide +kernel
theorem ab_j0n : Cond.code yJ0_length_8abf5 cJ0_length_8abf5 1 (some .int) ∈ ab_tb ∧ Cond.instanceMethod yJ0_length_8abf5 ∈ ab_tb ∧ Cond.selects RJ0 yJ0_length_8abf5 yJ0_length_8abf5 ∈ ab_tb := by decide +kernel
/-- the answer, and the heap as it was -/
def ab_Sq (r : Option Value) : Array Value → State → Outcome → State → Prop := fun _ st oc t => oc = .returned r ∧ t.heap = st.heap
/-- a String constant at a, its bytes at v: N of them, f -/
def ab_So (a v N : Nat) (f : Nat → Value) (U : State) : Prop :=
  va_O "java/lang/String" a (fun _ => False) U U.heap ∧ va_OF "java/lang/String" "coder" "B" (.int 0) a (fun _ => False) U U.heap ∧ va_OF "java/lang/String" "value" "[B" (.ref v) a (fun _ => False) U U.heap ∧ va_T .byte v N f (fun _ => False) U U.heap ∧ va_Z "java/lang/String" "COMPACT_STRINGS" "Z" (.int 1) (fun _ => False) U U.heap ∧ va_Zq "jdk/internal/util/Preconditions" "SIOOBE_FORMATTER" "Ljava/util/function/BiFunction;" (fun _ => False) U U.heap
theorem ab_So.same {a v N : Nat} {f : Nat → Value} {u U : State} (h : ab_So a v N f u) (hvm : u.vm.Alike U.vm) (hh : U.heap = u.heap) : ab_So a v N f U := by
  obtain ⟨x1, x2, x3, x4, x5, x6⟩ := h
  refine ⟨?_, ?_, ?_, ?_, ?_, ?_⟩ <;> rw [hh]
  · exact va_O.moved hvm x1
  · exact va_OF.moved hvm x2
  · exact va_OF.moved hvm x3
  · exact va_T.moved hvm x4
  · exact va_Z.moved hvm x5
  · exact va_Zq.moved hvm x6
def ab_Pj (vs : List Value) (a v N : Nat) (f : Nat → Value) : Array Value → State → Prop := va_Pc vs (fun U => ab_So a v N f U)
theorem ab_Pj_blind {vs : List Value} {a v N : Nat} {f : Nat → Value} : FrameBlind (ab_Pj vs a v N f) := by
  intro x U g mk q
  exact ⟨q.1, q.2.same (Vm.Alike.refl U.vm) rfl⟩
theorem ab_noS {s : State} : va_S (fun _ => False) s.heap s.heap [] := va_S.rf
theorem ab_c_check3 (l : Launch) (i n : Int32) (x : Value) (a v N : Nat) (f : Nat → Value) (h0 : ¬ i < 0) (h1 : i < n) (hx1 : x.category = 1) : Met l yJ3_checkIndex_8e157 (ab_wj yJ3_checkIndex_8e157 cJ3_checkIndex_8e157 3 (some .int)) { frames := 0, cells := 0, slots := 0, locals := 0 } (ab_Pj [.int i, .int n, x] a v N f) (ab_Sq (some (.int i))) 0 0 (fun _ => False) := by
  refine Met.ofW (cc := cJ3_checkIndex_8e157) (maxL := 3) (ret := some .int) (by decide) rfl ?_
  intro p e s m args below meth c s₁ B hml hv
  obtain ⟨rfl, hSo⟩ := hv
  have hx := B.exec
  have hb := B.bytes
  have hr := B.returns
  have hlocks := B.notSynchronized
  have hl := lv_entry ([.int i, .int n, x]) (n := 3) (by clear hSo B; cases x <;> first | (exact Nat.le_of_ble_eq_true rfl) | (simp [Value.category] at hx1))
  rw [lg_entry_eq]
  generalize (lg_sl ([.int i, .int n, x]) ++ List.replicate (3 - (lg_sl ([.int i, .int n, x])).length) Slot.unset).toArray = ls at hl ⊢
  have hl0 : ls[0]? = some (.val (.int i)) := hl.2.2 (0, .int i) (by simp [lv_args])
  have hl1 : ls[1]? = some (.val (.int n)) := hl.2.2 (1, .int n) (by simp [lv_args, Value.category])
  refine lv_iload_n hx hb dJ3_checkIndex_8e157_0 rfl hl0 ?_
  refine lv_if_lt (tgt := 9) hx hb dJ3_checkIndex_8e157_1 (by decide) (fun q => absurd q h0) (fun _ => ?_)
  refine lv_iload_n hx hb dJ3_checkIndex_8e157_4 rfl hl0 ?_
  refine lv_iload_n hx hb dJ3_checkIndex_8e157_5 rfl hl1 ?_
  refine lv_icmp_lt (tgt := 16) hx hb dJ3_checkIndex_8e157_6 (by decide) (fun _ => ?_) (fun q => absurd h1 q)
  refine lv_iload_n hx hb dJ3_checkIndex_8e157_16 rfl hl0 ?_
  exact W.iret hx hb hr (fun t ht hW => ⟨rfl, ht⟩) (fun q hq => by cases hq) dJ3_checkIndex_8e157_17
theorem ab_c_check0 (l : Launch) (i n : Int32) (a v N : Nat) (f : Nat → Value) (h0 : ¬ i < 0) (h1 : i < n) : Met l yJ0_checkIndex_df160 (ab_wj yJ0_checkIndex_df160 cJ0_checkIndex_df160 2 none) { frames := 1, cells := 0, slots := 0, locals := 22 } (ab_Pj [.int i, .int n] a v N f) (ab_Sq none) 0 0 (fun _ => False) := by
  refine Met.ofW (cc := cJ0_checkIndex_df160) (maxL := 2) (ret := none) (by decide) rfl ?_
  intro p e s m args below meth c s₁ B hml hv
  obtain ⟨rfl, hSo⟩ := hv
  have hx := B.exec
  have hb := B.bytes
  have hr := B.returns
  have hts := atoms_spec (ws := ab_wj yJ0_checkIndex_df160 cJ0_checkIndex_df160 2 none) B.pre
  have hown : s.vm.findClass RJ0 = some m.cls := findClass_of_methodNamed B.named
  have hlocks := B.notSynchronized
  have hl := lv_entry ([.int i, .int n]) (n := 2) (Nat.le_of_ble_eq_true rfl)
  rw [lg_entry_eq]
  generalize (lg_sl ([.int i, .int n]) ++ List.replicate (2 - (lg_sl ([.int i, .int n])).length) Slot.unset).toArray = ls at hl ⊢
  have hl : lv_has ls 2 [(0, .int i), (1, .int n)] := hl
  refine lv_iload_n hx hb dJ0_checkIndex_df160_0 rfl (lv_at hl 0 rfl) ?_
  refine lv_iload_n hx hb dJ0_checkIndex_df160_1 rfl (lv_at hl 1 rfl) ?_
  have rest : ∀ x : Value, x.category = 1 → W p l e (headSpec (ab_wj yJ0_checkIndex_df160 cJ0_checkIndex_df160 2 none) { frames := 1, cells := 0, slots := 0, locals := 22 }).room s m ([.int i, .int n] : List Value).toArray below meth c s.heap [] 0 0 (MQ below (ab_Sq none) ([.int i, .int n] : List Value).toArray s 0 0 (fun _ => False)) (F0 m (2 + 3) ls [x, .int n, .int i]) := by
    intro x hx1
    refine ab_callW (va_runS (As := [.int i, .int n, x]) (rest := []) ⟨hx, hb, hml, hown, hts⟩ (ab_c_check3 l i n x a v N f h0 h1 hx1) ⟨callB_of 3 hts (ab_wj_good ab_wj_tb ab_j3.1) rfl rfl rfl (hts _ (ab_wj_tb _ ab_j3.2.2.1)) (hts _ (ab_wj_tb _ ab_j3.2.2.2)) ⟨by decide, by decide, by decide +kernel⟩ ⟨Nat.le_of_ble_eq_true rfl, Nat.le_of_ble_eq_true rfl⟩, hts _ (ab_wj_tb _ ab_j3.2.1)⟩ ⟨ab_Pj_blind, fun U hU hW => ⟨rfl, hSo.same hW.alike hU⟩⟩ rfl rfl hl.1 rfl (lv_room (Nat.le_of_ble_eq_true rfl)) dJ0_checkIndex_df160_5 ⟨Nat.zero_le _, Nat.zero_le _⟩) (fun v' st₀ t L hz hq hL => ?_)
    obtain ⟨hv', ht⟩ := hq
    cases hv'
    refine lv_pop hx hb dJ0_checkIndex_df160_8 rfl ?_
    rw [ht, hz]
    exact W.vret hx hb hr (fun t ht hW => ⟨rfl, ht⟩) (fun q hq => by
      rcases List.mem_append.mp hq with w | w
      · cases w
      · exact hL q w) dJ0_checkIndex_df160_9
  rcases hSo.2.2.2.2.2 with hz | ⟨t, hz⟩
  · exact va_gets hx hb hz ab_noS hown (hts _ (ab_wj_tb _ ab_j0c.2.2.2.2)) (fun _ h => h) dJ0_checkIndex_df160_2 (rest .null rfl)
  · exact va_gets hx hb hz ab_noS hown (hts _ (ab_wj_tb _ ab_j0c.2.2.2.2)) (fun _ h => h) dJ0_checkIndex_df160_2 (rest (.ref t) rfl)
/-- the character of a byte -/
def ab_ch (b : Int32) : Int32 := ((b &&& (Int16.ofInt 255).toInt32).toUInt32 % 65536).toInt32
theorem ab_c_char1 (l : Launch) (i : Int32) (a v N : Nat) (g : Nat → Int32) (hin : vp_in i N) (hN : N < 2 ^ 31) : Met l yJ1_charAt_3b067 (ab_wj yJ1_charAt_3b067 cJ1_charAt_3b067 2 (some .char)) { frames := 2, cells := 0, slots := 0, locals := 43 } (ab_Pj [.ref v, .int i] a v N (fun j => .int (g j))) (ab_Sq (some (.int (ab_ch (g i.toNatClampNeg))))) 0 0 (fun _ => False) := by
  refine Met.ofW (cc := cJ1_charAt_3b067) (maxL := 2) (ret := some .char) (by decide) rfl ?_
  intro p e s m args below meth c s₁ B hml hv
  obtain ⟨rfl, hSo⟩ := hv
  have hx := B.exec
  have hb := B.bytes
  have hr := B.returns
  have hts := atoms_spec (ws := ab_wj yJ1_charAt_3b067 cJ1_charAt_3b067 2 (some .char)) B.pre
  have hown : s.vm.findClass RJ1 = some m.cls := findClass_of_methodNamed B.named
  have hlocks := B.notSynchronized
  have h0 : ¬ i < 0 := fun q => hin (Or.inl q)
  have h1 : i < Int32.ofNat N := by
    obtain ⟨j, hj, rfl⟩ := vp_in_of hin hN
    exact nI_lt hj hN
  have hl := lv_entry ([.ref v, .int i]) (n := 2) (Nat.le_of_ble_eq_true rfl)
  rw [lg_entry_eq]
  generalize (lg_sl ([.ref v, .int i]) ++ List.replicate (2 - (lg_sl ([.ref v, .int i])).length) Slot.unset).toArray = ls at hl ⊢
  have hl : lv_has ls 2 [(0, .ref v), (1, .int i)] := hl
  refine lv_iload_n hx hb dJ1_charAt_3b067_0 rfl (lv_at hl 1 rfl) ?_
  refine lv_aload_n hx hb dJ1_charAt_3b067_1 rfl (lv_at hl 0 rfl) ?_
  refine va_tlen hx hb hSo.2.2.2.1 ab_noS rfl dJ1_charAt_3b067_2 ?_
  refine ab_callW (va_runS (As := [.int i, .int (Int32.ofNat N)]) (rest := []) ⟨hx, hb, hml, hown, hts⟩ (ab_c_check0 l i (Int32.ofNat N) a v N (fun j => .int (g j)) h0 h1) ⟨callB_of 2 hts (ab_wj_good ab_wj_tb ab_j0c.1) rfl rfl rfl (hts _ (ab_wj_tb _ ab_j0c.2.2.1)) (hts _ (ab_wj_tb _ ab_j0c.2.2.2.1)) ⟨by decide, by decide, by decide +kernel⟩ ⟨Nat.le_of_ble_eq_true rfl, Nat.le_of_ble_eq_true rfl⟩, hts _ (ab_wj_tb _ ab_j0c.2.1)⟩ ⟨ab_Pj_blind, fun U hU hW => ⟨rfl, hSo.same hW.alike hU⟩⟩ rfl rfl hl.1 rfl (lv_room (Nat.le_of_ble_eq_true rfl)) dJ1_charAt_3b067_3 ⟨Nat.zero_le _, Nat.zero_le _⟩) (fun v' st₀ t L hz hq hL => ?_)
  obtain ⟨hv', ht⟩ := hq
  cases hv'
  rw [ht, hz]
  refine lv_aload_n hx hb dJ1_charAt_3b067_6 rfl (lv_at hl 0 rfl) ?_
  refine lv_iload_n hx hb dJ1_charAt_3b067_7 rfl (lv_at hl 1 rfl) ?_
  have hS1 : va_S (fun _ => False) s.heap s.heap ([] ++ L) := ⟨Nat.le_refl _, fun _ _ _ => rfl, fun q hq => by
    rcases List.mem_append.mp hq with w | w
    · cases w
    · exact hL q w⟩
  refine va_tb hx hb hSo.2.2.2.1 hS1 hin rfl dJ1_charAt_3b067_8 ?_
  refine lv_sipush hx hb dJ1_charAt_3b067_9 rfl ?_
  refine lv_iand hx hb dJ1_charAt_3b067_12 ?_
  refine lv_i2c hx hb dJ1_charAt_3b067_13 rfl ?_
  exact W.zret hx hb hr (pk_nc _) (fun t ht hW => ⟨rfl, ht⟩) hS1.2.2 dJ1_charAt_3b067_14
theorem ab_c_latin (l : Launch) (a v N : Nat) (f : Nat → Value) : Met l yJ0_isLatin1_aae02 (ab_wj yJ0_isLatin1_aae02 cJ0_isLatin1_aae02 1 (some .boolean)) { frames := 0, cells := 0, slots := 0, locals := 0 } (ab_Pj [.ref a] a v N f) (ab_Sq (some (.int 1))) 0 0 (fun _ => False) := by
  refine Met.ofW (cc := cJ0_isLatin1_aae02) (maxL := 1) (ret := some .boolean) (by decide) rfl ?_
  intro p e s m args below meth c s₁ B hml hv
  obtain ⟨rfl, hSo⟩ := hv
  have hx := B.exec
  have hb := B.bytes
  have hr := B.returns
  have hts := atoms_spec (ws := ab_wj yJ0_isLatin1_aae02 cJ0_isLatin1_aae02 1 (some .boolean)) B.pre
  have hown : s.vm.findClass RJ0 = some m.cls := findClass_of_methodNamed B.named
  have hlocks := B.notSynchronized
  have hl := lv_entry ([.ref a]) (n := 1) (Nat.le_of_ble_eq_true rfl)
  rw [lg_entry_eq]
  generalize (lg_sl ([.ref a]) ++ List.replicate (1 - (lg_sl ([.ref a])).length) Slot.unset).toArray = ls at hl ⊢
  have hl : lv_has ls 1 [(0, .ref a)] := hl
  refine va_gets hx hb hSo.2.2.2.2.1 ab_noS hown (hts _ (ab_wj_tb _ ab_j0l.2.2.2.2.1)) (fun _ h => h) dJ0_isLatin1_aae02_0 ?_
  refine lv_if_eq (tgt := 17) hx hb dJ0_isLatin1_aae02_3 (by decide) (fun q => absurd q (by decide)) (fun _ => ?_)
  refine lv_aload_n hx hb dJ0_isLatin1_aae02_6 rfl (lv_at hl 0 rfl) ?_
  refine vk_getf hx hb hSo.2.1 ab_noS hown (hts _ (ab_wj_tb _ ab_j0l.2.2.2.2.2.1)) (fun _ h => h) dJ0_isLatin1_aae02_7 ?_
  refine lv_if_ne (tgt := 17) hx hb dJ0_isLatin1_aae02_10 (by decide) (fun q => absurd rfl q) (fun _ => ?_)
  refine lv_iconst (v := 1) hx hb dJ0_isLatin1_aae02_13 (by decide) ?_
  refine lv_goto (tgt := 18) hx hb dJ0_isLatin1_aae02_14 (by decide) ?_
  exact W.zret hx hb hr rfl (fun t ht hW => ⟨rfl, ht⟩) (fun q hq => by cases hq) dJ0_isLatin1_aae02_18
theorem ab_c_coder (l : Launch) (a v N : Nat) (f : Nat → Value) : Met l yJ0_coder_7d493 (ab_wj yJ0_coder_7d493 cJ0_coder_7d493 1 (some .byte)) { frames := 0, cells := 0, slots := 0, locals := 0 } (ab_Pj [.ref a] a v N f) (ab_Sq (some (.int 0))) 0 0 (fun _ => False) := by
  refine Met.ofW (cc := cJ0_coder_7d493) (maxL := 1) (ret := some .byte) (by decide) rfl ?_
  intro p e s m args below meth c s₁ B hml hv
  obtain ⟨rfl, hSo⟩ := hv
  have hx := B.exec
  have hb := B.bytes
  have hr := B.returns
  have hts := atoms_spec (ws := ab_wj yJ0_coder_7d493 cJ0_coder_7d493 1 (some .byte)) B.pre
  have hown : s.vm.findClass RJ0 = some m.cls := findClass_of_methodNamed B.named
  have hlocks := B.notSynchronized
  have hl := lv_entry ([.ref a]) (n := 1) (Nat.le_of_ble_eq_true rfl)
  rw [lg_entry_eq]
  generalize (lg_sl ([.ref a]) ++ List.replicate (1 - (lg_sl ([.ref a])).length) Slot.unset).toArray = ls at hl ⊢
  have hl : lv_has ls 1 [(0, .ref a)] := hl
  refine va_gets hx hb hSo.2.2.2.2.1 ab_noS hown (hts _ (ab_wj_tb _ ab_j0l.2.2.2.2.1)) (fun _ h => h) dJ0_coder_7d493_0 ?_
  refine lv_if_eq (tgt := 13) hx hb dJ0_coder_7d493_3 (by decide) (fun q => absurd q (by decide)) (fun _ => ?_)
  refine lv_aload_n hx hb dJ0_coder_7d493_6 rfl (lv_at hl 0 rfl) ?_
  refine vk_getf hx hb hSo.2.1 ab_noS hown (hts _ (ab_wj_tb _ ab_j0l.2.2.2.2.2.1)) (fun _ h => h) dJ0_coder_7d493_7 ?_
  refine lv_goto (tgt := 14) hx hb dJ0_coder_7d493_10 (by decide) ?_
  exact W.zret hx hb hr rfl (fun t ht hW => ⟨rfl, ht⟩) (fun q hq => by cases hq) dJ0_coder_7d493_14
theorem ab_strCell {a v N : Nat} {f : Nat → Value} {U : State} (h : ab_So a v N f U) : ∃ cell : Cell, U.heap[a]? = some cell ∧ cell.vm.isStatics = false ∧ U.vm.findClass "java/lang/String" = some cell.cls := by
  obtain ⟨cell, h1, h2, h3, -⟩ := h.1
  exact ⟨cell, h1, h2, h3⟩
theorem ab_c_length (l : Launch) (a v N : Nat) (f : Nat → Value) : Met l yJ0_length_8abf5 (ab_wj yJ0_length_8abf5 cJ0_length_8abf5 1 (some .int)) { frames := 1, cells := 0, slots := 0, locals := 20 } (ab_Pj [.ref a] a v N f) (ab_Sq (some (.int (Int32.ofNat N >>> ((0 : Int32) &&& 31))))) 0 0 (fun _ => False) := by
  refine Met.ofW (cc := cJ0_length_8abf5) (maxL := 1) (ret := some .int) (by decide) rfl ?_
  intro p e s m args below meth c s₁ B hml hv
  obtain ⟨rfl, hSo⟩ := hv
  have hx := B.exec
  have hb := B.bytes
  have hr := B.returns
  have hts := atoms_spec (ws := ab_wj yJ0_length_8abf5 cJ0_length_8abf5 1 (some .int)) B.pre
  have hown : s.vm.findClass RJ0 = some m.cls := findClass_of_methodNamed B.named
  have hlocks := B.notSynchronized
  have hl := lv_entry ([.ref a]) (n := 1) (Nat.le_of_ble_eq_true rfl)
  rw [lg_entry_eq]
  generalize (lg_sl ([.ref a]) ++ List.replicate (1 - (lg_sl ([.ref a])).length) Slot.unset).toArray = ls at hl ⊢
  have hl : lv_has ls 1 [(0, .ref a)] := hl
  refine lv_aload_n hx hb dJ0_length_8abf5_0 rfl (lv_at hl 0 rfl) ?_
  refine vk_getf hx hb hSo.2.2.1 ab_noS hown (hts _ (ab_wj_tb _ ab_j0l.2.2.2.2.2.2)) (fun _ h => h) dJ0_length_8abf5_1 ?_
  refine va_tlen hx hb hSo.2.2.2.1 ab_noS rfl dJ0_length_8abf5_4 ?_
  refine lv_aload_n hx hb dJ0_length_8abf5_5 rfl (lv_at hl 0 rfl) ?_
  refine ab_callW (va_runV (C := RJ0) (As := []) (rest := [.int (Int32.ofNat N)]) ⟨hx, hb, hml, hown, hts⟩ (ab_c_coder l a v N f) ⟨callB_of 0 hts (ab_wj_good ab_wj_tb ab_j0d.1) rfl rfl rfl (hts _ (ab_wj_tb _ ab_j0c.2.2.1)) (hts _ (ab_wj_tb _ ab_j0d.2.2.2)) ⟨by decide, by decide, by decide +kernel⟩ ⟨Nat.le_of_ble_eq_true rfl, Nat.le_of_ble_eq_true rfl⟩, hts _ (ab_wj_tb _ ab_j0d.2.1), hts _ (ab_wj_tb _ ab_j0d.2.2.1)⟩ ⟨ab_Pj_blind, ab_strCell hSo, fun U hU hW => ⟨rfl, hSo.same hW.alike hU⟩⟩ rfl rfl hl.1 rfl (lv_room (Nat.le_of_ble_eq_true rfl)) dJ0_length_8abf5_6 ⟨Nat.zero_le _, Nat.zero_le _⟩) (fun v' st₀ t L hz hq hL => ?_)
  obtain ⟨hv', ht⟩ := hq
  cases hv'
  rw [ht, hz]
  refine lv_ishr hx hb dJ0_length_8abf5_9 ?_
  exact W.iret hx hb hr (fun t ht hW => ⟨rfl, ht⟩) (fun q hq => by
    rcases List.mem_append.mp hq with w | w
    · cases w
    · exact hL q w) dJ0_length_8abf5_10
theorem ab_c_char (l : Launch) (i : Int32) (a v N : Nat) (g : Nat → Int32) (hin : vp_in i N) (hN : N < 2 ^ 31) : Met l yJ0_charAt_5068e (ab_wj yJ0_charAt_5068e cJ0_charAt_5068e 2 (some .char)) { frames := 3, cells := 0, slots := 0, locals := 64 } (ab_Pj [.ref a, .int i] a v N (fun j => .int (g j))) (ab_Sq (some (.int (ab_ch (g i.toNatClampNeg))))) 0 0 (fun _ => False) := by
  refine Met.ofW (cc := cJ0_charAt_5068e) (maxL := 2) (ret := some .char) (by decide) rfl ?_
  intro p e s m args below meth c s₁ B hml hv
  obtain ⟨rfl, hSo⟩ := hv
  have hx := B.exec
  have hb := B.bytes
  have hr := B.returns
  have hts := atoms_spec (ws := ab_wj yJ0_charAt_5068e cJ0_charAt_5068e 2 (some .char)) B.pre
  have hown : s.vm.findClass RJ0 = some m.cls := findClass_of_methodNamed B.named
  have hlocks := B.notSynchronized
  have hl := lv_entry ([.ref a, .int i]) (n := 2) (Nat.le_of_ble_eq_true rfl)
  rw [lg_entry_eq]
  generalize (lg_sl ([.ref a, .int i]) ++ List.replicate (2 - (lg_sl ([.ref a, .int i])).length) Slot.unset).toArray = ls at hl ⊢
  have hl : lv_has ls 2 [(0, .ref a), (1, .int i)] := hl
  refine lv_aload_n hx hb dJ0_charAt_5068e_0 rfl (lv_at hl 0 rfl) ?_
  refine ab_callW (va_runV (C := RJ0) (As := []) (rest := []) ⟨hx, hb, hml, hown, hts⟩ (ab_c_latin l a v N (fun j => .int (g j))) ⟨callB_of 0 hts (ab_wj_good ab_wj_tb ab_j0l.1) rfl rfl rfl (hts _ (ab_wj_tb _ ab_j0c.2.2.1)) (hts _ (ab_wj_tb _ ab_j0l.2.2.2.1)) ⟨by decide, by decide, by decide +kernel⟩ ⟨Nat.le_of_ble_eq_true rfl, Nat.le_of_ble_eq_true rfl⟩, hts _ (ab_wj_tb _ ab_j0l.2.1), hts _ (ab_wj_tb _ ab_j0l.2.2.1)⟩ ⟨ab_Pj_blind, ab_strCell hSo, fun U hU hW => ⟨rfl, hSo.same hW.alike hU⟩⟩ rfl rfl hl.1 rfl (lv_room (Nat.le_of_ble_eq_true rfl)) dJ0_charAt_5068e_1 ⟨Nat.zero_le _, Nat.zero_le _⟩) (fun v' st₀ t L hz hq hL => ?_)
  obtain ⟨hv', ht⟩ := hq
  cases hv'
  rw [ht, hz]
  have hS1 : va_S (fun _ => False) s.heap s.heap ([] ++ L) := ⟨Nat.le_refl _, fun _ _ _ => rfl, fun q hq => by
    rcases List.mem_append.mp hq with w | w
    · cases w
    · exact hL q w⟩
  refine lv_if_eq (tgt := 16) hx hb dJ0_charAt_5068e_4 (by decide) (fun q => absurd q (by decide)) (fun _ => ?_)
  refine lv_aload_n hx hb dJ0_charAt_5068e_7 rfl (lv_at hl 0 rfl) ?_
  refine vk_getf hx hb hSo.2.2.1 hS1 hown (hts _ (ab_wj_tb _ ab_j0l.2.2.2.2.2.2)) (fun _ h => h) dJ0_charAt_5068e_8 ?_
  refine lv_iload_n hx hb dJ0_charAt_5068e_11 rfl (lv_at hl 1 rfl) ?_
  refine ab_callW (va_runS (As := [.ref v, .int i]) (rest := []) ⟨hx, hb, hml, hown, hts⟩ (ab_c_char1 l i a v N g hin hN) ⟨callB_of 2 hts (ab_wj_good ab_wj_tb ab_j1.1) rfl rfl rfl (hts _ (ab_wj_tb _ ab_j1.2.2.1)) (hts _ (ab_wj_tb _ ab_j1.2.2.2)) ⟨by decide, by decide, by decide +kernel⟩ ⟨Nat.le_of_ble_eq_true rfl, Nat.le_of_ble_eq_true rfl⟩, hts _ (ab_wj_tb _ ab_j1.2.1)⟩ ⟨ab_Pj_blind, fun U hU hW => ⟨rfl, hSo.same hW.alike hU⟩⟩ rfl rfl hl.1 rfl (lv_room (Nat.le_of_ble_eq_true rfl)) dJ0_charAt_5068e_12 ⟨Nat.zero_le _, Nat.zero_le _⟩) (fun v2 st2 t2 L2 hz2 hq2 hL2 => ?_)
  obtain ⟨hv2, ht2⟩ := hq2
  cases hv2
  rw [ht2, hz2]
  refine W.zret hx hb hr ?_ (fun t ht hW => ⟨rfl, ht⟩) (fun q hq => by
    rcases List.mem_append.mp hq with w | w
    · exact hS1.2.2 q w
    · exact hL2 q w) dJ0_charAt_5068e_15
  exact pk_nc _
theorem ab_str_chars : ∀ k, k < 11 → ∀ j, j < ab_sl k → ab_ch (ab_sc k j) = ab_sc k j := by decide +kernel
theorem ab_strRows : ab_StrRows := by
  intro p l e R s m args below meth c H locs Q D cA A ad base n0 s0 i h M ls pc t k idx cells slots hC hB hsz hk hw8 hfr hlo hce hsl
  obtain ⟨hx, hb, hml, hown, hts, hK, hA, hnm, had⟩ := hC
  obtain ⟨x1, x2, x3, ⟨adV, x4⟩, x5, x6, x7⟩ := hB.2.2.2.2.2.2.2
  have hS := hB.2.2.1
  have kq : ∀ a : Nat, a < s.heap.size → ¬ A a → H[a]? = s.heap[a]? := hS.2.1
  have hf : ∀ q, (fun _ : Nat => False) q → A q := fun _ q => q.elim
  have hSo : ∀ U : State, U.heap = H → s.WarmedH U.vm → ab_So (ad (1000000 + k)) (adV k) ((ab_str.map List.length).getD k 0) (fun j => .int ((ab_str.getD k []).getD j 0)) U := by
    intro U hU hW
    have y4 := vk_S.moved hW.alike (x4.kept kq) |>.narrow hf
    obtain ⟨z1, z2, z3, z4⟩ := y4.1 k hk
    refine ⟨?_, ?_, ?_, ?_, ?_, ?_⟩ <;> rw [hU]
    · exact z1
    · exact z2
    · exact z3
    · exact z4
    · exact (va_Z.moved hW.alike (x6.kept kq)).narrow hf
    · exact (va_Zq.moved hW.alike (x7.kept kq)).narrow hf
  have hlen : (ab_str.map List.length).getD k 0 = ab_sl k := by
    rw [List.getD_eq_getElem?_getD, List.getElem?_map]
    show _ = (ab_str.getD k []).length
    rw [List.getD_eq_getElem?_getD]
    cases ab_str[k]? <;> rfl
  have hlt : ab_sl k < 2 ^ 31 := by
    have : ∀ k, k < 11 → ab_sl k < 2 ^ 31 := by decide +kernel
    exact this k hk
  obtain ⟨cell, c1, c2, c3⟩ := vk_recv x4 hk hS
  rw [hlen] at hSo
  constructor
  · intro hlink hd kk
    refine ab_callW (va_runV (C := RJ0) (As := []) (rest := t) ⟨hx, hb, hml, hown, hts⟩ (ab_c_length l (ad (1000000 + k)) (adV k) (ab_sl k) (fun j => .int ((ab_str.getD k []).getD j 0))) ⟨callB_of 0 hts (ab_wj_good ab_wi_tb ab_j0n.1) rfl rfl rfl (hts _ (ab_wi_tb _ ab_j0c.2.2.1)) (hts _ (ab_wi_tb _ hlink)) ⟨by decide, by decide, by decide +kernel⟩ ⟨by show 1 + 1 ≤ _; omega, by show 8 + (1 + 11) + 20 ≤ _; omega⟩, hts _ (ab_wi_tb _ ab_j0n.2.1), hts _ (ab_wi_tb _ ab_j0n.2.2)⟩ ⟨ab_Pj_blind, ⟨cell, c1, c2, c3⟩, fun U hU hW => ⟨rfl, hSo U hU hW⟩⟩ rfl rfl hsz rfl (lv_room hw8) hd ⟨hce, hsl⟩) (fun v' st₀ u L hz hq hL => ?_)
    obtain ⟨hv', ht⟩ := hq
    cases hv'
    rw [ht, hz]
    have hn : Int32.ofNat (ab_sl k) >>> ((0 : Int32) &&& 31) = Int32.ofNat (ab_sl k) := by
      have : ∀ k, k < 11 → Int32.ofNat (ab_sl k) >>> ((0 : Int32) &&& 31) = Int32.ofNat (ab_sl k) := by decide +kernel
      exact this k hk
    rw [hn]
    have hLe : L = [] := by
      cases L with
      | nil => rfl
      | cons q r => exact (hL q List.mem_cons_self).elim
    rw [hLe, List.append_nil]
    exact kk
  · intro q hlink hd hin kk
    refine ab_callW (va_runV (C := RJ0) (As := [.int q]) (rest := t) ⟨hx, hb, hml, hown, hts⟩ (ab_c_char l q (ad (1000000 + k)) (adV k) (ab_sl k) (fun j => (ab_str.getD k []).getD j 0) hin hlt) ⟨callB_of 1 hts (ab_wj_good ab_wi_tb ab_j0a.1) rfl rfl rfl (hts _ (ab_wi_tb _ ab_j0c.2.2.1)) (hts _ (ab_wi_tb _ hlink)) ⟨by decide, by decide, by decide +kernel⟩ ⟨by show 3 + 1 ≤ _; omega, by show 8 + (2 + 11) + 64 ≤ _; omega⟩, hts _ (ab_wi_tb _ ab_j0a.2.1), hts _ (ab_wi_tb _ ab_j0a.2.2)⟩ ⟨ab_Pj_blind, ⟨cell, c1, c2, c3⟩, fun U hU hW => ⟨rfl, hSo U hU hW⟩⟩ rfl rfl hsz rfl (lv_room hw8) hd ⟨hce, hsl⟩) (fun v' st₀ u L hz hq hL => ?_)
    obtain ⟨hv', ht⟩ := hq
    cases hv'
    rw [ht, hz]
    have hlt2 : q.toNatClampNeg < ab_sl k := Nat.not_le.mp fun z => hin (Or.inr z)
    have hcc := ab_str_chars k hk _ hlt2
    have hLe : L = [] := by
      cases L with
      | nil => rfl
      | cons q r => exact (hL q List.mem_cons_self).elim
    rw [hLe, List.append_nil]
    show W p l e R s m args below meth c H locs cells slots Q (F0 m (pc + 3) ls (.int (ab_ch (ab_sc k q.toNatClampNeg)) :: t))
    rw [hcc]
    exact kk
