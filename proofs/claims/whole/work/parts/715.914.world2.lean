/-! ===== the whole picture at a point of a method, and what a step makes of it ===== -/
/-- what lies outside the world: the nest mates' words, arrays' classes, the script, the String constants -/
def ab_X (A : Nat → Prop) (ad : Nat → Nat) (h : ab_H) (M : ab_M) (U : State) : Prop :=
  (∀ w ∈ ab_nst, va_Nw w U) ∧ (∀ k, 24 ≤ k → k ≤ 27 → va_AO (ab_cn (ab_oc k)) U) ∧
  (∀ a, ab_k h a = 30 → va_X (ad a) (ab_n h a) (M.1 a) U U.heap ∧ ad a < U.heap.size ∧ ¬ A (ad a)) ∧
  (∃ adV, vk_S 11 (ab_str.map List.length) ab_str (fun k => ad (1000000 + k)) adV A U U.heap) ∧
  (∀ k, k < 11 → vk_R RX6 (ab_strI.getD k 0) (ab_strT.getD k "") (ad (1000000 + k)) U) ∧
  va_Z "java/lang/String" "COMPACT_STRINGS" "Z" (.int 1) A U U.heap ∧ va_Zq "jdk/internal/util/Preconditions" "SIOOBE_FORMATTER" "Ljava/util/function/BiFunction;" A U U.heap
theorem ab_X.rel {A : Nat → Prop} {ad : Nat → Nat} {h h' : ab_H} {M M' : ab_M} {U : State} (hX : ab_X A ad h M U) (hR : ab_Rel h M h' M') (hK : ab_K h) : ab_X A ad h' M' U := by
  refine ⟨hX.1, hX.2.1, fun a ha => ?_, hX.2.2.2⟩
  obtain ⟨e1, e2, e3⟩ := hR.2.2.2 hK a ha
  rw [e2, e3]
  exact hX.2.2.1 a e1
theorem ab_nst_on {w : Cond} (h : w ∈ ab_nst) : w.onTables = true := by
  have h1 := (List.mem_filter.mp h).2
  cases w <;> first | rfl | (simp [ab_isN] at h1)
theorem ab_X.same {A : Nat → Prop} {ad : Nat → Nat} {h : ab_H} {M : ab_M} {u U : State} (hX : ab_X A ad h M u) (hv : u.vm = U.vm) (hh : U.heap = u.heap) : ab_X A ad h M U := by
  obtain ⟨x1, x2, x3, ⟨adV, x4⟩, x5, x6, x7⟩ := hX
  have al : u.vm.Alike U.vm := by rw [← hv]; exact Vm.Alike.refl _
  refine ⟨fun w hw => (x1 w hw).same (ab_nst_on hw) hv, fun k k1 k2 => va_AO.moved al (x2 k k1 k2), fun a ha => ?_, ⟨adV, ?_⟩, fun k hk => (x5 k hk).same hv.symm, ?_, ?_⟩
  · obtain ⟨y1, y2, y3⟩ := x3 a ha
    exact ⟨by rw [hh]; exact va_X.moved al y1, by rw [hh]; exact y2, y3⟩
  · rw [hh]; exact vk_S.moved al x4
  · rw [hh]; exact va_Z.moved al x6
  · rw [hh]; exact va_Zq.moved al x7
/-- at a call: another state, the tables warmed, a heap in which what isn't A's is as it was -/
theorem ab_X.call {A B : Nat → Prop} {ad : Nat → Nat} {h : ab_H} {M : ab_M} {s U : State} {H : Heap} {locs : List Loc} (hX : ab_X A ad h M s) (hS : va_S A s.heap H locs) (hW : s.WarmedH U.vm) (hU : U.heap = H) (hB : ∀ q, q < H.size → B q → A q) (hB2 : ∀ q, B q → A q) : ab_X B ad h M U := by
  obtain ⟨x1, x2, x3, ⟨adV, x4⟩, x5, x6, x7⟩ := hX
  have al := hW.alike
  have kq : ∀ a : Nat, a < s.heap.size → ¬ A a → H[a]? = s.heap[a]? := hS.2.1
  refine ⟨fun w hw => ?_, fun k k1 k2 => va_AO.moved al (x2 k k1 k2), fun a ha => ?_, ⟨adV, ?_⟩, fun k hk => (x5 k hk).warm hW, ?_, ?_⟩
  · have h1 := (List.mem_filter.mp hw).2
    have h2 := x1 w hw
    cases w <;> first | exact va_Nw.warmF hW h2 | exact va_Nw.warmM hW h2 | (simp [ab_isN] at h1)
  · obtain ⟨y1, y2, y3⟩ := x3 a ha
    refine ⟨?_, by rw [hU]; exact Nat.lt_of_lt_of_le y2 hS.1, fun q => y3 (hB2 _ q)⟩
    rw [hU]
    exact va_X.moved al (y1.kept (kq _ y2 y3))
  · rw [hU]; exact (vk_S.moved al (x4.kept kq)).narrow hB2
  · rw [hU]; exact (va_Z.moved al (x6.kept kq)).narrow hB2
  · rw [hU]; exact (va_Zq.moved al (x7.kept kq)).narrow hB2
/-- the picture -/
def ab_B (D : va_G) (cA : Nat → ClassId) (A : Nat → Prop) (ad : Nat → Nat) (base n0 s0 : Nat) (s : State) (h : ab_H) (M : ab_M) (H : Heap) (locs : List Loc) : Prop :=
  va_P D vwCl (ab_ws cA ad h M) H ∧ va_D A (ab_ws cA ad h M) ∧ va_S A s.heap H locs ∧ H.size = base + h.1 ∧ ab_K h ∧ n0 ≤ h.1 ∧ s0 ≤ h.2.1 ∧ ab_X A ad h M s
/-- what a method's walk has at hand from its entry on -/
def ab_C (i : ab_I) (D : va_G) (cA : Nat → ClassId) (A : Nat → Prop) (ad : Nat → Nat) (base : Nat) (p : Program) (s : State) (m : MethodId) (args : Array Value) (meth : Method) (c : Code) : Prop :=
  p.tables.exec = Jvm.exec ∧ c.code = ab_Ib i ∧ c.maxLocals = ab_Il i ∧ s.vm.findClass (ab_cn (ab_Ic i)) = some m.cls ∧ (∀ w ∈ ab_wi i, w.before args s = true) ∧ va_K D vwCl (ab_tys cA) s ∧ (∀ q, s.heap.size ≤ q → A q) ∧ meth.name = (ab_Iy i).name ∧ (∀ k, 1 ≤ k → k < 1000000 → ad k = base + k)
theorem ab_wi_tb {i : ab_I} : ∀ w ∈ ab_tb, w ∈ ab_wi i := fun _ h => List.mem_cons_of_mem _ h
section ABQ
variable {D : va_G} {cA : Nat → ClassId} {A : Nat → Prop} {ad : Nat → Nat} {base n0 s0 : Nat} {s : State} {h : ab_H} {M : ab_M} {H : Heap} {locs : List Loc}
theorem ab_tv_ref {a : Nat} (ha : a ≠ 0) : ab_tv ad (.ref a) = .ref (ad a) := by
  show va_rf (ab_rq ad a) = _
  rw [ab_rq, if_neg ha]
  rfl
theorem ab_B.in {a : Nat} (hB : ab_B D cA A ad base n0 s0 s h M H locs) (h0 : ab_k h a ≠ 0) (h30 : ab_k h a ≠ 30) : 1 ≤ a ∧ a < h.1 ∧ (ab_ws cA ad h M)[a - 1]? = some (ad a, ab_te cA ad h M a) := by
  rcases hB.2.2.2.2.1.2.2 a h0 with ⟨q, -⟩ | ⟨q1, q2, -⟩
  · exact absurd q h30
  · exact ⟨q1, q2, ab_ws_at q1 q2⟩
theorem ab_B.obj {a ci : Nat} (hB : ab_B D cA A ad base n0 s0 s h M H locs) (hk : ab_k h a = ci + 1) (hc : ci < 12) : 1 ≤ a ∧ a < h.1 ∧ (ab_ws cA ad h M)[a - 1]? = some (ad a, .inr (ci, ab_fs ad M a ci)) := by
  obtain ⟨h1, h2, h3⟩ := hB.in (a := a) (by omega) (by omega)
  refine ⟨h1, h2, ?_⟩
  rw [h3, ab_te, if_pos (by omega), hk]
  rfl
theorem ab_B.arrI {a k : Nat} (hB : ab_B D cA A ad base n0 s0 s h M H locs) (hk : ab_k h a = k) (h20 : 20 ≤ k) (h22 : k ≤ 22) : 1 ≤ a ∧ a < h.1 ∧ (ab_ws cA ad h M)[a - 1]? = some (ad a, .inl (cA k, ab_n h a, .inl (M.1 a))) := by
  obtain ⟨h1, h2, h3⟩ := hB.in (a := a) (by omega) (by omega)
  refine ⟨h1, h2, ?_⟩
  rw [h3, ab_te, if_neg (by omega), if_neg (by omega), if_neg (by omega), hk]
theorem ab_B.arrL {a : Nat} (hB : ab_B D cA A ad base n0 s0 s h M H locs) (hk : ab_k h a = 23) : 1 ≤ a ∧ a < h.1 ∧ (ab_ws cA ad h M)[a - 1]? = some (ad a, .inl (cA 23, ab_n h a, .inr (.inl (M.2.1 a)))) := by
  obtain ⟨h1, h2, h3⟩ := hB.in (a := a) (by omega) (by omega)
  refine ⟨h1, h2, ?_⟩
  rw [h3, ab_te, if_neg (by omega), if_pos hk]
theorem ab_B.arrQ {a : Nat} (hB : ab_B D cA A ad base n0 s0 s h M H locs) (h24 : 24 ≤ ab_k h a) (h27 : ab_k h a ≤ 27) : 1 ≤ a ∧ a < h.1 ∧ (ab_ws cA ad h M)[a - 1]? = some (ad a, .inl (cA (ab_k h a), ab_n h a, .inr (.inr (.inr (.inr (fun i => ab_rq ad (M.2.2 a i))))))) := by
  obtain ⟨h1, h2, h3⟩ := hB.in (a := a) (by omega) (by omega)
  refine ⟨h1, h2, ?_⟩
  rw [h3, ab_te, if_neg (by omega), if_neg (by omega), if_pos h24]
/-- a store into the cell a -/
theorem ab_B.put {a : Nat} {M' : ab_M} {H1 : Heap} {locs1 : List Loc} (hB : ab_B D cA A ad base n0 s0 s h M H locs) (h1 : 1 ≤ a) (h2 : a < h.1) (hR : ab_Rel h M h M') (hne : ∀ b, b ≠ a → ab_te cA ad h M' b = ab_te cA ad h M b) {e : va_E} (he : ab_te cA ad h M' a = e) (hz : H1.size = H.size) (hP : va_P D vwCl ((ab_ws cA ad h M).set (a - 1) (ad a, e)) H1) (hD : va_D A ((ab_ws cA ad h M).set (a - 1) (ad a, e))) (hS : va_S A s.heap H1 locs1) : ab_B D cA A ad base n0 s0 s h M' H1 locs1 := by
  rw [ab_ws_set h1 h2 he hne] at hP hD
  exact ⟨hP, hD, hS, hz.trans hB.2.2.2.1, hB.2.2.2.2.1, hB.2.2.2.2.2.1, hB.2.2.2.2.2.2.1, hB.2.2.2.2.2.2.2.rel hR hB.2.2.2.2.1⟩
/-- a new cell -/
theorem ab_B.new {h' : ab_H} {M' : ab_M} {H1 : Heap} (hB : ab_B D cA A ad base n0 s0 s h M H locs) (hn : h'.1 = h.1 + 1) (hlt : h.1 < 1000000) (had : ∀ k, 1 ≤ k → k < 1000000 → ad k = base + k) (hR : ab_Rel h M h' M') (hne : ∀ b, b ≠ h.1 → ab_te cA ad h' M' b = ab_te cA ad h M b) {e : va_E} (he : ab_te cA ad h' M' h.1 = e) (hz : H1.size = H.size + 1) (hP : va_P D vwCl (ab_ws cA ad h M ++ [(H.size, e)]) H1) (hD : va_D A (ab_ws cA ad h M ++ [(H.size, e)])) (hS : va_S A s.heap H1 locs) : ab_B D cA A ad base n0 s0 s h' M' H1 locs := by
  have h1 := hB.2.2.2.2.1.1
  have ea : H.size = ad h.1 := by rw [had h.1 h1 hlt, hB.2.2.2.1]
  rw [ea, ab_ws_new h1 hn he hne] at hP hD
  exact ⟨hP, hD, hS, by rw [hz, hB.2.2.2.1, hn]; omega, hR.2.2.1 hB.2.2.2.2.1, Nat.le_trans hB.2.2.2.2.2.1 hR.1, Nat.le_trans hB.2.2.2.2.2.2.1 hR.2.1, hB.2.2.2.2.2.2.2.rel hR hB.2.2.2.2.1⟩
theorem ab_fs_len {a ci : Nat} : (ab_fs ad M a ci).length = (ab_ft ci).length := by simp [ab_fs]
theorem ab_fs_at {a ci k t : Nat} (ht : (ab_ft ci)[k]? = some t) : (ab_fs ad M a ci)[k]? = some (ab_fv ad M a t k) := by
  simp [ab_fs, List.getElem?_mapIdx, ht]
theorem ab_fs_set {a ci k t : Nat} {M' : ab_M} {v : Value} (ht : (ab_ft ci)[k]? = some t) (hv : ab_fv ad M' a t k = v) (ho : ∀ j t', j ≠ k → ab_fv ad M' a t' j = ab_fv ad M a t' j) : (ab_fs ad M a ci).set k v = ab_fs ad M' a ci := by
  apply List.ext_getElem?
  intro j
  rw [List.getElem?_set]
  by_cases hj : k = j
  · subst hj
    rw [if_pos rfl, if_pos (by rw [ab_fs_len]; exact (List.getElem?_eq_some_iff.mp ht).1), ab_fs_at ht, hv]
  · rw [if_neg hj]
    cases hx : (ab_ft ci)[j]? with
    | none => rw [List.getElem?_eq_none (by rw [ab_fs_len]; exact List.getElem?_eq_none_iff.mp hx), List.getElem?_eq_none (by rw [ab_fs_len]; exact List.getElem?_eq_none_iff.mp hx)]
    | some t' => rw [ab_fs_at hx, ab_fs_at hx, ho j t' (fun q => hj q.symm)]
/-- a cell's translation depends on its own memory alone -/
theorem ab_te_congr {h' : ab_H} {M' : ab_M} {b : Nat} (hk : ab_k h' b = ab_k h b) (hn : ab_n h' b = ab_n h b) (h1 : M'.1 b = M.1 b) (h2 : M'.2.1 b = M.2.1 b) (h3 : M'.2.2 b = M.2.2 b) : ab_te cA ad h' M' b = ab_te cA ad h M b := by
  have e : ∀ ci, ab_fs ad M' b ci = ab_fs ad M b ci := fun ci => by
    unfold ab_fs ab_fv
    rw [h1, h3]
  unfold ab_te
  rw [hk, hn, h1, h2, h3]
  simp only [e]
end ABQ
