/-! ===== calls ===== -/
theorem ab_goodIn {i j : ab_I} (hc : Cond.code (ab_Iy j) (ab_Ib j) (ab_Il j) (ab_Ir j) ∈ ab_tb) : GoodIn (ab_wi i) (ab_wi j) := by
  intro w hw
  have key : ∀ w ∈ ab_tb, w ∈ ab_wi i ∧ ((w.onTables && w.keeps) = true ∨ ∃ ty, w = .arrayClass ty) := fun w hw => ⟨ab_wi_tb w hw, good_of_word (List.mem_filter.mp hw).2⟩
  rcases List.mem_cons.mp hw with rfl | hw
  · exact key _ hc
  · exact key _ hw
/-- what the tables say of a method that is called -/
def ab_MF (j : ab_I) (how : Nat) : Prop :=
  Cond.code (ab_Iy j) (ab_Ib j) (ab_Il j) (ab_Ir j) ∈ ab_tb ∧ Cond.initialized (ab_Iy j).cls ∈ ab_tb ∧ (ab_Iy j).cls ≠ "java/lang/invoke/MethodHandle" ∧ (ab_Iy j).cls ≠ "java/lang/invoke/VarHandle" ∧
  (how = 0 → Cond.instanceMethod (ab_Iy j) ∈ ab_tb ∧ Cond.selects (ab_Iy j).cls (ab_Iy j) (ab_Iy j) ∈ ab_tb ∧ vwCl[ab_Ic j]?.map (fun q => q.1) = some (ab_Iy j).cls ∧ (parseMethodDescriptor (ab_Iy j).desc).map (fun d => d.parameters.length + 1) = some (ab_In j)) ∧
  (how = 1 → Cond.static (ab_Iy j) ∈ ab_tb ∧ (parseMethodDescriptor (ab_Iy j).desc).map (fun d => d.parameters.length) = some (ab_In j)) ∧
  (how = 2 → Cond.instanceMethod (ab_Iy j) ∈ ab_tb ∧ (ab_Iy j).name = "<init>" ∧ ab_Ir j = none ∧ (parseMethodDescriptor (ab_Iy j).desc).map (fun d => d.parameters.length + 1) = some (ab_In j))
theorem ab_mf_of {k how : Nat} {j : ab_I} {q : Nat × Nat × Nat × Nat} (hj : ab_P[k]? = some j) (h3 : how < 3) (h : ab_mcok ab_P k how q = true) : ab_MF j how := by
  unfold ab_mcok at h
  rw [hj] at h
  simp only [Bool.and_eq_true, decide_eq_true_eq] at h
  obtain ⟨⟨⟨⟨a1, a2⟩, a3⟩, a4⟩, a5⟩ := h
  refine ⟨ab_tb_of a1, ab_tb_of a2, a3, a4, ?_, ?_, ?_⟩
  · rintro rfl
    simp only [Bool.and_eq_true, decide_eq_true_eq] at a5
    exact ⟨ab_tb_of a5.1.1.1, ab_tb_of a5.1.1.2, a5.1.2, a5.2⟩
  · rintro rfl
    simp only [Bool.and_eq_true, decide_eq_true_eq] at a5
    exact ⟨ab_tb_of a5.1, a5.2⟩
  · rintro rfl
    simp only [Bool.and_eq_true, decide_eq_true_eq] at a5
    exact ⟨ab_tb_of a5.1.1.1, a5.1.1.2, a5.1.2, a5.2⟩
/-- a link of a method out of the tables -/
theorem ab_ml_get {cls idx mi kd how : Nat} {j : ab_I} (hj : ab_P[mi]? = some j) (h3 : how < 3) (h : ab_ml.any (fun f => Nat.beq f.1 cls && Nat.beq f.2.1 idx && Nat.beq f.2.2.1 mi && Nat.beq f.2.2.2.1 kd && Nat.beq (f.2.2.2.1 / 2) how) = true) : ab_MF j how ∧ (Cond.methodLink (ab_cn cls) idx (ab_Iy j) ∈ ab_tb ∨ Cond.methodLinkNest (ab_cn cls) idx (ab_Iy j) "SameMan" ∈ ab_nst) := by
  obtain ⟨f, hf, hq⟩ := List.any_eq_true.mp h
  simp only [Bool.and_eq_true] at hq
  obtain ⟨⟨⟨⟨q1, q2⟩, q3⟩, q4⟩, q5⟩ := hq
  obtain rfl := Nat.eq_of_beq_eq_true q1
  obtain rfl := Nat.eq_of_beq_eq_true q2
  obtain rfl := Nat.eq_of_beq_eq_true q3
  have q5 := Nat.eq_of_beq_eq_true q5
  have ok := ab_ml_ok f hf
  unfold ab_mlok at ok
  rw [hj] at ok
  simp only [Bool.and_eq_true, decide_eq_true_eq] at ok
  obtain ⟨o1, o2⟩ := ok
  rw [q5] at o1
  obtain ⟨q, hq⟩ := ab_mc_ok _ _ o1 (by omega)
  refine ⟨ab_mf_of hj h3 hq, ?_⟩
  split at o2
  · exact Or.inl (ab_tb_of o2)
  · exact Or.inr (ab_nst_of o2)
section ABW
variable {p : Program} {l : Launch} {e : Env} {R : Room} {s : State} {m : MethodId} {args : Array Value} {below : List Frame} {meth : Method} {c : Code} {H : Heap} {locs : List Loc} {Q : State → Prop}
variable {D : va_G} {cA : Nat → ClassId} {A : Nat → Prop} {ad : Nat → Nat} {base n0 s0 : Nat} {i j : ab_I} {h h1 h' : ab_H} {M M1 M' : ab_M} {ls : Array Slot} {pc f : Nat} {L : ab_Ls} {t vs : List Value} {v r : Option Value}
/-- the callee's start, as its contract wants it -/
theorem ab_pre (hC : ab_C i D cA A ad base p s m args meth c) (hB : ab_B D cA A ad base n0 s0 s h M H locs) : ∀ U : State, U.heap = H → s.WarmedH U.vm → ab_Pre D cA ad base h M vs (vs.map (ab_tv ad)).toArray U := by
  intro U hU hW
  obtain ⟨hx, hb, hml, hown, hts, hK, hA, hnm, had⟩ := hC
  have hsz := hB.2.2.2.1
  have hF : ∀ q, va_A (ab_ws cA ad h M) (base + h.1) q → A q := by
    intro q hq
    rcases hq with ⟨k, e, hk⟩ | hq
    · exact hB.2.1.2 k (q, e) hk
    · exact hA q (Nat.le_trans hB.2.2.1.1 (by rw [hsz]; exact hq))
  exact ⟨rfl, by rw [hU]; exact hsz, by rw [hU]; exact hB.1, va_K.moved hW.alike hK, hB.2.1.weaken (fun _ _ _ _ => trivial), hB.2.2.2.2.2.2.2.call hB.2.2.1 hW hU (fun q _ hq => hF q hq) hF⟩
/-- behind a call -/
theorem ab_behind (ih : ab_Sound f) (hi : i ∈ ab_P) (hC : ab_C i D cA A ad base p s m args meth c) (hL : ab_Lr ad ls (ab_Il i) L) (hB : ab_B D cA A ad base n0 s0 s h M H locs) (hroom : h'.1 - n0 ≤ R.cells ∧ h'.2.1 - s0 ≤ R.slots) (hfr : ab_If i ≤ R.frames) (hwd : ab_Iw i ≤ R.locals)
    (hR1 : ab_Rel h M h1 M1) (hev : ab_ev ab_P f i (pc + 3) L (v.toList ++ t) h1 M1 r h' M')
    (K : ∀ (pc' : Nat) (ls' : Array Slot) (H' : Heap) (locs' : List Loc) (I : Instr), decode (ab_Ib i) pc' = .ok (I, 1) → ab_rok (ab_Ir i) I r → ab_B D cA A ad base n0 s0 s h' M' H' locs' → W p l e R s m args below meth c H' locs' (h'.1 - n0) (h'.2.1 - s0) Q (F0 m pc' ls' (r.toList.map (ab_tv ad))))
    {a : Array Value} {st0 : List Value} (hrun : va_Run p l e R s m args below meth c H locs (h.1 - n0) (h.2.1 - s0) (h1.1 - h.1) (h1.2.1 - h.2.1) (F0 m pc ls st0) (t.map (ab_tv ad)) (ab_Post D cA ad base h M v h1 M1 a) (va_A (ab_ws cA ad h M) (base + h.1))) :
    W p l e R s m args below meth c H locs (h.1 - n0) (h.2.1 - s0) Q (F0 m pc ls st0) := by
  obtain ⟨hx, hb, hml, hown, hts, hK, hA, hnm, had⟩ := id hC
  have hsz := hB.2.2.2.1
  have hF : ∀ q, va_A (ab_ws cA ad h M) (base + h.1) q → A q := by
    intro q hq
    rcases hq with ⟨k, e, hk⟩ | hq
    · exact hB.2.1.2 k (q, e) hk
    · exact hA q (Nat.le_trans hB.2.2.1.1 (by rw [hsz]; exact hq))
  refine ab_callW hrun (fun v' st₀ u Lc h0 hpost hLc => ?_)
  obtain ⟨ev, p1, p2, p3, p4⟩ := hpost
  have ev' : v' = v.map (ab_tv ad) := by cases ev; rfl
  subst ev'
  obtain ⟨z1, z2⟩ := p4
  rw [h0] at z1 z2
  have hS := hB.2.2.1
  have hB' : ab_B D cA A ad base n0 s0 s h1 M1 u.heap (locs ++ Lc) := by
    refine ⟨p2, p3.weaken (fun _ q _ hq => hF q.1 hq), ⟨Nat.le_trans hS.1 z1, fun q q1 q2 => ?_, fun q hq => ?_⟩, p1, hR1.2.2.1 hB.2.2.2.2.1, Nat.le_trans hB.2.2.2.2.2.1 hR1.1, Nat.le_trans hB.2.2.2.2.2.2.1 hR1.2.1, hB.2.2.2.2.2.2.2.rel hR1 hB.2.2.2.2.1⟩
    · rw [z2 q (Nat.lt_of_lt_of_le q1 hS.1) (fun w => q2 (hF q w))]
      exact hS.2.1 q q1 q2
    · rcases List.mem_append.mp hq with w | w
      · exact hS.2.2 q w
      · exact hF _ (hLc q w)
  have hn0 := hB.2.2.2.2.2.1
  have hs0 := hB.2.2.2.2.2.2.1
  have r1 := hR1.1
  have r2 := hR1.2.1
  have main := ih i hi (pc + 3) L (v.toList ++ t) h1 M1 r h' M' hev hC hL hB' hroom hfr hwd K
  have e1 : h.1 - n0 + (h1.1 - h.1) = h1.1 - n0 := by omega
  have e2 : h.2.1 - s0 + (h1.2.1 - h.2.1) = h1.2.1 - s0 := by omega
  rw [e1, e2]
  have e3 : (v.map (ab_tv ad)).toList ++ t.map (ab_tv ad) = (v.toList ++ t).map (ab_tv ad) := by cases v <;> simp
  rw [e3]
  exact main
end ABW
