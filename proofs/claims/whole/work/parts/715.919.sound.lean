/-! ===== a run of the pure machine is a method's contract ===== -/
theorem ab_args_1 {v : Value} {t : List Value} (h : v.category = 1) : ab_args (v :: t) = some v :: ab_args t := by
  cases v <;> first | rfl | (exact absurd h (by decide)) | (simp [Value.category] at h)
theorem ab_args_2 {v : Value} {t : List Value} (h : v.category = 2) : ab_args (v :: t) = some v :: none :: ab_args t := by
  cases v <;> first | rfl | (exact absurd h (by decide)) | (simp [Value.category] at h)
theorem ab_args_len {ad : Nat → Nat} : ∀ vs : List Value, (lg_sl (vs.map (ab_tv ad))).length = (ab_args vs).length := by
  intro vs
  induction vs with
  | nil => rfl
  | cons v t ih =>
    have hs : ∀ x : Value, lg_sl (x :: t.map (ab_tv ad)) = (if x.category = 2 then [.val x, .second] else [.val x]) ++ lg_sl (t.map (ab_tv ad)) := fun x => by simp [lg_sl]
    rw [List.map_cons, hs, List.length_append, ih]
    have hc := ab_cat (ad := ad) v
    rcases lv_cat v with h | h
    · rw [ab_args_1 h, if_neg (by rw [hc, h]; decide)]
      simp
      omega
    · rw [ab_args_2 h, if_pos (by rw [hc, h])]
      simp
      omega
theorem ab_args_in {ad : Nat → Nat} : ∀ (vs : List Value) (b : Nat) (q : Nat × Value), q ∈ ab_prs ad (ab_args vs) b → q ∈ lv_args b (vs.map (ab_tv ad)) := by
  intro vs
  induction vs with
  | nil => intro b q h; simp [ab_args, ab_prs] at h
  | cons v t ih =>
    intro b q h
    have hc := ab_cat (ad := ad) v
    rw [List.map_cons]
    unfold lv_args
    rcases lv_cat v with h1 | h1
    · rw [ab_args_1 h1] at h
      rw [if_neg (by rw [hc, h1]; decide)]
      simp only [ab_prs, List.mem_cons] at h ⊢
      rcases h with h | h
      · exact Or.inl h
      · exact Or.inr (ih _ _ h)
    · rw [ab_args_2 h1] at h
      rw [if_pos (by rw [hc, h1])]
      simp only [ab_prs, List.mem_cons] at h ⊢
      rcases h with h | h
      · exact Or.inl h
      · exact Or.inr (ih _ _ h)
theorem ab_prs_app {ad : Nat → Nat} : ∀ (L : ab_Ls) (k b : Nat), ab_prs ad (L ++ List.replicate k none) b = ab_prs ad L b := by
  intro L
  induction L with
  | nil =>
    intro k
    induction k with
    | zero => intro b; rfl
    | succ k ih => intro b; rw [List.replicate_succ, List.nil_append]; simp only [ab_prs]; have := ih (b + 1); rw [List.nil_append] at this; exact this
  | cons o t ih =>
    intro k b
    cases o with
    | none => simp only [List.cons_append, ab_prs]; exact ih k (b + 1)
    | some v => simp only [List.cons_append, ab_prs]; rw [ih k (b + 1)]
theorem ab_entry {ad : Nat → Nat} (i : ab_I) (vs : List Value) (h : (ab_args vs).length ≤ ab_Il i) (m : MethodId) : ∃ ls, entryFrame m (vs.map (ab_tv ad)).toArray (ab_Il i) = F0 m 0 ls [] ∧ ab_Lr ad ls (ab_Il i) (ab_ent i vs) := by
  have hl := lv_entry (vs.map (ab_tv ad)) (n := ab_Il i) (by rw [ab_args_len]; exact h)
  refine ⟨_, lg_entry_eq m _ _, ?_, hl.1, hl.2.1, fun q hq => ?_⟩
  · unfold ab_ent
    rw [List.length_append, List.length_replicate]
    omega
  · unfold ab_ent at hq
    rw [ab_prs_app] at hq
    exact hl.2.2 q (ab_args_in _ _ _ hq)
def ab_Pre (D : va_G) (cA : Nat → ClassId) (ad : Nat → Nat) (base : Nat) (h : ab_H) (M : ab_M) (vs : List Value) : Array Value → State → Prop :=
  va_Pc (vs.map (ab_tv ad)) (fun U => U.heap.size = base + h.1 ∧ va_P D vwCl (ab_ws cA ad h M) U.heap ∧ va_K D vwCl (ab_tys cA) U ∧ va_D (fun _ => True) (ab_ws cA ad h M) ∧ ab_X (va_A (ab_ws cA ad h M) (base + h.1)) ad h M U)
def ab_Post (D : va_G) (cA : Nat → ClassId) (ad : Nat → Nat) (base : Nat) (h : ab_H) (M : ab_M) (v : Option Value) (h1 : ab_H) (M1 : ab_M) : Array Value → State → Outcome → State → Prop :=
  fun _ st oc t => oc = .returned (v.map (ab_tv ad)) ∧ t.heap.size = base + h1.1 ∧ va_P D vwCl (ab_ws cA ad h1 M1) t.heap ∧ va_D (va_A (ab_ws cA ad h M) (base + h.1)) (ab_ws cA ad h1 M1) ∧ va_F (va_A (ab_ws cA ad h M) (base + h.1)) st t
/-- the return instruction and the answer fit -/
def ab_rok (ret : Option FieldType) (I : Instr) (r : Option Value) : Prop :=
  (I = .ireturn ∧ ∃ x, r = some (.int x) ∧ ab_rt ret (.int x)) ∨ (I = .lreturn ∧ ∃ x, r = some (.long x) ∧ ab_rt ret (.long x)) ∨ (I = .areturn ∧ ∃ x, r = some (.ref x) ∧ ab_rt ret (.ref x)) ∨ (I = .return_ ∧ r = none ∧ ret = none)
theorem ab_blind {D : va_G} {cA : Nat → ClassId} {ad : Nat → Nat} {base : Nat} {h : ab_H} {M : ab_M} {vs : List Value} : FrameBlind (ab_Pre D cA ad base h M vs) := by
  intro a U g mk q
  obtain ⟨q0, q1, qP, qK, qD, qX⟩ := q
  exact ⟨q0, q1, qP, va_K.moved (u := U) (U := U.calling g mk a) (Vm.Alike.refl U.vm) qK, qD, qX.same rfl rfl⟩
theorem ab_callW {p : Program} {l : Launch} {e : Env} {R : Room} {s : State} {m : MethodId} {args : Array Value} {below : List Frame} {meth : Method} {c : Code} {H : Heap} {locs : List Loc} {cells slots mc ms pc : Nat} {ls : Array Slot} {st0 rest : List Value} {Q : State → Prop} {Qa : State → Outcome → State → Prop} {free : Addr → Prop} (hr : va_Run p l e R s m args below meth c H locs cells slots mc ms (F0 m pc ls st0) rest Qa free)
    (kk : ∀ (v : Option Value) (st₀ t : State) (L : List Loc), st₀.heap = H → Qa st₀ (.returned v) t → (∀ q ∈ L, free q.base) → W p l e R s m args below meth c t.heap (locs ++ L) (cells + mc) (slots + ms) Q (F0 m (pc + 3) ls (v.toList ++ rest))) : W p l e R s m args below meth c H locs cells slots Q (F0 m pc ls st0) := by
  intro T hT X
  obtain ⟨v, st₀, t, T', L, h0, X', hL, e1, e2, hq, st⟩ := hr T hT X
  obtain ⟨t2, a1, b1⟩ := kk v st₀ t L h0 hq hL T' e1 X'
  exact ⟨t2, st t2 a1, b1⟩
/-- the statement of a run inside a method -/
def ab_Sound (f : Nat) : Prop := ∀ (i : ab_I), i ∈ ab_P → ∀ (pc : Nat) (L : ab_Ls) (st : List Value) (h : ab_H) (M : ab_M) (r : Option Value) (h' : ab_H) (M' : ab_M), ab_ev ab_P f i pc L st h M r h' M' →
  ∀ {p : Program} {l : Launch} {e : Env} {R : Room} {s : State} {m : MethodId} {args : Array Value} {below : List Frame} {meth : Method} {c : Code} {H : Heap} {locs : List Loc} {Q : State → Prop} {D : va_G} {cA : Nat → ClassId} {A : Nat → Prop} {ad : Nat → Nat} {base n0 s0 : Nat} {ls : Array Slot},
  ab_C i D cA A ad base p s m args meth c → ab_Lr ad ls (ab_Il i) L → ab_B D cA A ad base n0 s0 s h M H locs → (h'.1 - n0 ≤ R.cells ∧ h'.2.1 - s0 ≤ R.slots) → ab_If i ≤ R.frames → ab_Iw i ≤ R.locals →
  (∀ (pc' : Nat) (ls' : Array Slot) (H' : Heap) (locs' : List Loc) (I : Instr), decode (ab_Ib i) pc' = .ok (I, 1) → ab_rok (ab_Ir i) I r → ab_B D cA A ad base n0 s0 s h' M' H' locs' → W p l e R s m args below meth c H' locs' (h'.1 - n0) (h'.2.1 - s0) Q (F0 m pc' ls' (r.toList.map (ab_tv ad)))) →
  W p l e R s m args below meth c H locs (h.1 - n0) (h.2.1 - s0) Q (F0 m pc ls (st.map (ab_tv ad)))
theorem ab_exok_of {i : ab_I} (hi : i ∈ ab_P) : ∀ e ∈ ab_It i, ab_exok e.2.1 e.2.2.2 := by
  intro e he
  have hk := ab_P_ok i hi
  unfold ab_chkI at hk
  simp only [Bool.and_eq_true] at hk
  have h1 := List.all_eq_true.mp hk.1.2 e he
  unfold ab_chk at h1
  simp only [Bool.and_eq_true] at h1
  have h2 := h1.2
  obtain ⟨pc, I, ln, ex⟩ := e
  dsimp only at h2 ⊢
  cases I <;> first | trivial | skip
  · dsimp only at h2
    simp only [Bool.and_eq_true, decide_eq_true_eq] at h2
    exact ⟨by omega, h2.1.2⟩
  · dsimp only at h2
    show 20 ≤ ex ∧ ex ≤ 27
    split at h2 <;> first | (constructor <;> decide) | cases h2
theorem ab_rel_of {f : Nat} {i : ab_I} (hi : i ∈ ab_P) {pc : Nat} {L : ab_Ls} {st : List Value} {h h' : ab_H} {M M' : ab_M} {r : Option Value} (hv : ab_ev ab_P f i pc L st h M r h' M') : ab_Rel h M h' M' := ab_ev_rel (fun _ h => ab_exok_of h) f i hi pc L st h M r h' M' hv
/-- the contract of a method out of its runs -/
theorem ab_met {f : Nat} (hS : ab_Sound f) {j : ab_I} (hj : j ∈ ab_P) {vs : List Value} (hlen : (ab_args vs).length ≤ ab_Il j) {h h1 : ab_H} {M M1 : ab_M} {v : Option Value} (hv : ab_ev ab_P f j 0 (ab_ent j vs) [] h M v h1 M1) (hKh : ab_K h) (l : Launch) (D : va_G) (cA : Nat → ClassId) (ad : Nat → Nat) (base : Nat) (had : ∀ k, 1 ≤ k → k < 1000000 → ad k = base + k) :
    Met l (ab_Iy j) (ab_wi j) { frames := ab_If j, cells := h1.1 - h.1, slots := h1.2.1 - h.2.1, locals := ab_Iw j } (ab_Pre D cA ad base h M vs) (ab_Post D cA ad base h M v h1 M1) (h1.1 - h.1) (h1.2.1 - h.2.1) (va_A (ab_ws cA ad h M) (base + h.1)) := by
  have hk := ab_P_ok j hj
  unfold ab_chkI at hk
  simp only [Bool.and_eq_true, decide_eq_true_eq] at hk
  obtain ⟨⟨⟨k1, k2⟩, k3⟩, k4⟩ := hk
  refine Met.ofW (cc := ab_Ib j) (maxL := ab_Il j) (ret := ab_Ir j) k2 rfl ?_
  intro p e s m args below meth c s₁ B hml hpre
  obtain ⟨rfl, hsz, hP, hK, hD0, hX⟩ := hpre
  have hr := B.returns
  have hlocks := B.notSynchronized
  have hown : s.vm.findClass (ab_cn (ab_Ic j)) = some m.cls := by rw [← k1]; exact findClass_of_methodNamed B.named
  obtain ⟨ls, e1, hL⟩ := ab_entry (ad := ad) j vs hlen m
  rw [e1]
  have hC : ab_C j D cA (va_A (ab_ws cA ad h M) (base + h.1)) ad base p s m (vs.map (ab_tv ad)).toArray meth c := ⟨B.exec, B.bytes, hml, hown, atoms_spec (ws := ab_wi j) B.pre, hK, fun q hq => Or.inr (by rw [← hsz]; exact hq), (name_of_methodNamed B.named B.method).1, had⟩
  have hB : ab_B D cA (va_A (ab_ws cA ad h M) (base + h.1)) ad base h.1 h.2.1 s h M s.heap [] := ⟨hP, hD0.self, va_S.rf, hsz, hKh, Nat.le_refl _, Nat.le_refl _, hX⟩
  have main := hS j hj 0 (ab_ent j vs) [] h M v h1 M1 hv (p := p) (l := l) (e := e) (R := (headSpec (ab_wi j) { frames := ab_If j, cells := h1.1 - h.1, slots := h1.2.1 - h.2.1, locals := ab_Iw j }).room) (below := below) (Q := MQ below (ab_Post D cA ad base h M v h1 M1) (vs.map (ab_tv ad)).toArray s (h1.1 - h.1) (h1.2.1 - h.2.1) (va_A (ab_ws cA ad h M) (base + h.1))) hC hL hB ⟨Nat.le_refl _, Nat.le_refl _⟩ (Nat.le_refl _) (Nat.le_refl _) ?_
  · rw [Nat.sub_self, Nat.sub_self] at main
    exact main
  · intro pc' ls' H' locs' I hdI hro hB'
    have post : ∀ t : State, t.heap = H' → ab_Post D cA ad base h M v h1 M1 (vs.map (ab_tv ad)).toArray s (.returned (v.map (ab_tv ad))) t := fun t ht => ⟨rfl, by rw [ht]; exact hB'.2.2.2.1, by rw [ht]; exact hB'.1, hB'.2.1, hB'.2.2.1.F ht⟩
    rcases hro with ⟨rfl, x, rfl, hrt⟩ | ⟨rfl, x, rfl, hrt⟩ | ⟨rfl, x, rfl, hrt⟩ | ⟨rfl, rfl, hrt⟩
    · cases hri : ab_Ir j with
      | none => rw [hri] at hrt; exact hrt.elim
      | some ty =>
        rw [hri] at hrt hr
        refine W.zret B.exec B.bytes hr ?_ (fun t ht hW => post t ht) hB'.2.2.1.2.2 hdI hlocks
        cases ty <;> simp only [ab_rt] at hrt <;> first | rfl | exact hrt.elim | (rcases hrt with rfl | rfl <;> rfl)
    · cases hri : ab_Ir j with
      | none => rw [hri] at hrt; exact hrt.elim
      | some ty =>
        rw [hri] at hrt hr
        cases ty <;> simp only [ab_rt] at hrt
        exact W.lret B.exec B.bytes hr (fun t ht hW => post t ht) hB'.2.2.1.2.2 hdI hlocks
    · cases hri : ab_Ir j with
      | none => rw [hri] at hrt; exact hrt.elim
      | some ty =>
        rw [hri] at hrt hr
        cases ty <;> simp only [ab_rt] at hrt
        rename_i nm
        have post2 := post
        rw [show (some (Value.ref x)).map (ab_tv ad) = some (.ref (ad x)) by rw [Option.map_some, ab_tv_ref hrt]] at post2
        rw [show (some (Value.ref x)).toList.map (ab_tv ad) = [.ref (ad x)] by rw [Option.toList_some, List.map_cons, ab_tv_ref hrt]; rfl]
        exact W.aret B.exec B.bytes hr (Or.inl ⟨nm, rfl⟩) (Or.inr ⟨_, rfl⟩) (fun t ht hW => post2 t ht) hB'.2.2.1.2.2 hdI hlocks
    · rw [hrt] at hr
      exact W.vret B.exec B.bytes hr (fun t ht hW => post t ht) hB'.2.2.1.2.2 hdI hlocks
