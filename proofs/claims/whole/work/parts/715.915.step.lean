/-! ===== a step of the pure machine is a step of the machine ===== -/
theorem ab_Lr.set1 {ad : Nat → Nat} {ls ls' : Array Slot} {nL i : Nat} {L L' : ab_Ls} {v : Value} (hL : ab_Lr ad ls nL L) (hs : ab_set L i v = some L') (h' : lv_has ls' nL ((i, ab_tv ad v) :: (ab_prs ad L 0).filter (fun q => !(q.1 == i) && !(q.1 + 1 == i && q.2.category == 2)))) : ab_Lr ad ls' nL L' := by
  obtain ⟨s1, s2, s3, s4, s5⟩ := ab_set_spec hs
  refine ⟨s1.trans hL.1, h'.1, h'.2.1, fun q hq => ?_⟩
  obtain ⟨j, x, hj, rfl⟩ := ab_prs_mem.mp hq
  refine h'.2.2 _ ?_
  rw [Nat.zero_add]
  by_cases e : j = i
  · subst e
    rw [s3] at hj
    cases hj
    exact List.mem_cons_self
  · rw [s4 j e] at hj
    refine List.mem_cons_of_mem _ (List.mem_filter.mpr ⟨ab_prs_mem.mpr ⟨j, x, hj, by rw [Nat.zero_add]⟩, ?_⟩)
    have hc : ¬ (j + 1 = i ∧ x.category = 2) := fun q => s5 j x q.1 hj q.2
    simp only [ab_cat, Bool.and_eq_true, Bool.not_eq_true', beq_eq_false_iff_ne, ne_eq, Bool.and_eq_false_iff]
    refine ⟨e, ?_⟩
    rcases Nat.decEq (j + 1) i with q | q
    · exact Or.inl q
    · exact Or.inr (fun z => hc ⟨q, z⟩)
theorem ab_Lr.set2 {ad : Nat → Nat} {ls ls' : Array Slot} {nL i : Nat} {L L' : ab_Ls} {v : Int64} (hL : ab_Lr ad ls nL L) (hs : ab_setl L i v = some L') (h' : lv_has ls' nL ((i, Value.long v) :: (ab_prs ad L 0).filter (fun q => !(q.1 == i) && (!(q.1 == i + 1) && !(q.1 + 1 == i && q.2.category == 2))))) : ab_Lr ad ls' nL L' := by
  obtain ⟨s1, s2, s3, s6, s4, s5⟩ := ab_setl_spec hs
  refine ⟨s1.trans hL.1, h'.1, h'.2.1, fun q hq => ?_⟩
  obtain ⟨j, x, hj, rfl⟩ := ab_prs_mem.mp hq
  refine h'.2.2 _ ?_
  rw [Nat.zero_add]
  by_cases e : j = i
  · subst e
    rw [s3] at hj
    cases hj
    exact List.mem_cons_self
  · have e1 : j ≠ i + 1 := fun q => by rw [q, s6] at hj; cases hj
    rw [s4 j e] at hj
    refine List.mem_cons_of_mem _ (List.mem_filter.mpr ⟨ab_prs_mem.mpr ⟨j, x, hj, by rw [Nat.zero_add]⟩, ?_⟩)
    have hc : ¬ (j + 1 = i ∧ x.category = 2) := fun q => s5 j x q.1 hj q.2
    simp only [ab_cat, Bool.and_eq_true, Bool.not_eq_true', beq_eq_false_iff_ne, ne_eq, Bool.and_eq_false_iff]
    refine ⟨e, e1, ?_⟩
    rcases Nat.decEq (j + 1) i with q | q
    · exact Or.inl q
    · exact Or.inr (fun z => hc ⟨q, z⟩)
/-- a field's link out of the tables -/
theorem ab_fl_get {cls idx ex : Nat} (h : ab_fl.any (fun f => Nat.beq f.1 cls && Nat.beq f.2.1 idx && Nat.beq f.2.2.1 ex) = true) : ∃ (C : String) (T : u_T) (N : Nat), vwCl[ex / 100]? = some (C, T, N) ∧ ex % 100 < N ∧ (Cond.fieldLink (ab_cn cls) idx C (T (ex % 100)).2.1 (T (ex % 100)).2.2.1 ∈ ab_tb ∨ Cond.fieldLinkNest (ab_cn cls) idx C (T (ex % 100)).2.1 (T (ex % 100)).2.2.1 "SameMan" ∈ ab_nst) := by
  obtain ⟨f, hf, hq⟩ := List.any_eq_true.mp h
  simp only [Bool.and_eq_true] at hq
  obtain ⟨⟨q1, q2⟩, q3⟩ := hq
  obtain rfl := Nat.eq_of_beq_eq_true q1
  obtain rfl := Nat.eq_of_beq_eq_true q2
  obtain rfl := Nat.eq_of_beq_eq_true q3
  have ok := ab_fl_ok f hf
  unfold ab_flok ab_flw at ok
  cases hv : vwCl[f.2.2.1 / 100]? with
  | none => rw [hv] at ok; cases ok
  | some r =>
    obtain ⟨C, T, N⟩ := r
    rw [hv] at ok
    dsimp only at ok
    refine ⟨C, T, N, rfl, ?_⟩
    by_cases hN : f.2.2.1 % 100 < N
    · refine ⟨hN, ?_⟩
      rw [show decide (f.2.2.1 % 100 < N) = true from decide_eq_true hN] at ok
      dsimp only at ok
      cases hb : f.2.2.2.1 with
      | false => rw [hb] at ok; exact Or.inl (ab_tb_of ok)
      | true => rw [hb] at ok; exact Or.inr (ab_nst_of ok)
    · rw [show decide (f.2.2.1 % 100 < N) = false from decide_eq_false hN] at ok
      cases ok
theorem ab_fl_plain {cls idx ex : Nat} (h : ab_fl.any (fun f => Nat.beq f.1 cls && Nat.beq f.2.1 idx && Nat.beq f.2.2.1 ex && !f.2.2.2.1) = true) : ∃ (C : String) (T : u_T) (N : Nat), vwCl[ex / 100]? = some (C, T, N) ∧ ex % 100 < N ∧ Cond.fieldLink (ab_cn cls) idx C (T (ex % 100)).2.1 (T (ex % 100)).2.2.1 ∈ ab_tb := by
  obtain ⟨f, hf, hq⟩ := List.any_eq_true.mp h
  simp only [Bool.and_eq_true] at hq
  obtain ⟨⟨⟨q1, q2⟩, q3⟩, q4⟩ := hq
  obtain rfl := Nat.eq_of_beq_eq_true q1
  obtain rfl := Nat.eq_of_beq_eq_true q2
  obtain rfl := Nat.eq_of_beq_eq_true q3
  have ok := ab_fl_ok f hf
  unfold ab_flok ab_flw at ok
  have hb : f.2.2.2.1 = false := by cases hb : f.2.2.2.1 <;> simp_all
  cases hv : vwCl[f.2.2.1 / 100]? with
  | none => rw [hv] at ok; cases ok
  | some r =>
    obtain ⟨C, T, N⟩ := r
    rw [hv] at ok
    dsimp only at ok
    refine ⟨C, T, N, rfl, ?_⟩
    by_cases hN : f.2.2.1 % 100 < N
    · refine ⟨hN, ?_⟩
      rw [show decide (f.2.2.1 % 100 < N) = true from decide_eq_true hN] at ok
      dsimp only at ok
      rw [hb] at ok
      exact ab_tb_of ok
    · rw [show decide (f.2.2.1 % 100 < N) = false from decide_eq_false hN] at ok
      cases ok
theorem ab_fty_of {ex : Nat} {C : String} {T : u_T} {N : Nat} {ty0 : Nat → FieldType} (hCK : ab_CK (ex / 100) C T N ty0) (hN : ex % 100 < N) : (ab_fty ex = some 0 ∧ ty0 (ex % 100) = .int) ∨ (ab_fty ex = some 1 ∧ ty0 (ex % 100) = .boolean) ∨ (ab_fty ex = some 2 ∧ ((∃ n, ty0 (ex % 100) = .object n) ∨ ∃ t, ty0 (ex % 100) = .array t)) := hCK.2.2.2.2.2.2.1 (ex % 100) hN
theorem ab_u_row {f : Nat → Nat → Int32} {a k : Nat} {v : Int32} : ab_u f a k v a = upd (f a) k v := by
  funext j
  simp [ab_u, upd]
theorem ab_u_rowL {f : Nat → Nat → Int64} {a k : Nat} {v : Int64} : ab_u f a k v a = vp_updL (f a) k v := by
  funext j
  simp [ab_u, vp_updL]
section ABT
variable {p : Program} {l : Launch} {e : Env} {R : Room} {s : State} {m : MethodId} {args : Array Value} {below : List Frame} {meth : Method} {c : Code} {H : Heap} {locs : List Loc} {Q : State → Prop}
variable {D : va_G} {cA : Nat → ClassId} {A : Nat → Prop} {ad : Nat → Nat} {base n0 s0 : Nat} {i : ab_I} {h h1 : ab_H} {M M1 : ab_M} {ls : Array Slot} {pc pc' ex : Nat} {L L' : ab_Ls} {st st' : List Value} {φ : Prop}
theorem ab_getfW (hC : ab_C i D cA A ad base p s m args meth c) {idx : Nat} (hk : ab_fl.any (fun f => Nat.beq f.1 (ab_Ic i) && Nat.beq f.2.1 idx && Nat.beq f.2.2.1 ex) = true) (hd : decode (ab_Ib i) pc = .ok (.getfield idx, 3)) (hs : ab_gf (pc + 3) ex L h M st = some ((pc', L', st', h1, M1), φ)) (hφ : φ) (hL : ab_Lr ad ls (ab_Il i) L) (hB : ab_B D cA A ad base n0 s0 s h M H locs)
    (K : ∀ ls' H' locs', ab_Lr ad ls' (ab_Il i) L' → ab_B D cA A ad base n0 s0 s h1 M1 H' locs' → W p l e R s m args below meth c H' locs' (h1.1 - n0) (h1.2.1 - s0) Q (F0 m pc' ls' (st'.map (ab_tv ad)))) : W p l e R s m args below meth c H locs (h.1 - n0) (h.2.1 - s0) Q (F0 m pc ls (st.map (ab_tv ad))) := by
  obtain ⟨hx, hb, hml, hown, hts, hK, hA, hnm, had⟩ := hC
  obtain ⟨C, T, N, hv, hN, hlink⟩ := ab_fl_get hk
  obtain ⟨ty0, hCK⟩ := ab_ck hv
  have hlt : ex / 100 < 12 := (List.getElem?_eq_some_iff.mp hv).1
  have main : ∀ (a t : Nat) (r : List Value) (v : Value), ab_fty ex = some t → ab_k h a = ex / 100 + 1 → ab_fv ad M a t (ex % 100) = v → W p l e R s m args below meth c H locs (h.1 - n0) (h.2.1 - s0) Q (F0 m (pc + 3) ls (v :: r)) → W p l e R s m args below meth c H locs (h.1 - n0) (h.2.1 - s0) Q (F0 m pc ls (.ref (ad a) :: r)) := by
    intro a t r v ht ha hval kk
    obtain ⟨g1, g2, g3⟩ := hB.obj ha hlt
    have hvv : (ab_fs ad M a (ex / 100))[ex % 100]? = some v := by rw [ab_fs_at ht, hval]
    have hTk := hCK.2.2.2.2.1 (ex % 100) hN
    have hsame : ∀ x, s.fieldFound? (T (ex % 100)).1 (T (ex % 100)).2.1 (T (ex % 100)).2.2.1 = some x → s.fieldFound? C (T (ex % 100)).2.1 (T (ex % 100)).2.2.1 = some x := fun x hx => by rw [← hTk]; exact hx
    have hin : ∀ w ∈ u_ws C T N, w ∈ ab_wi i := fun w hw => ab_wi_tb w (hCK.2.2.1 w hw)
    rcases hlink with hw | hw
    · exact va_get (D := D) (T := T) hx hb hts hin hown hK hB.1 (a - 1) g3 hv (ex % 100) hN (hts _ (ab_wi_tb _ hw)) hsame hvv hd kk
    · exact va_getN (D := D) (T := T) hx hb hts hin hown hK hB.1 (a - 1) g3 hv (ex % 100) hN (va_Nw.use rfl (hB.2.2.2.2.2.2.2.1 _ hw)) hsame hvv hd kk
  unfold ab_gf at hs
  split at hs
  · rename_i a r
    rcases ab_fty_of hCK hN with ⟨f1, -⟩ | ⟨f1, -⟩ | ⟨f1, -⟩
    · rw [f1] at hs
      cases hs
      have ha0 : a ≠ 0 := Nat.ne_of_gt (hB.obj hφ hlt).1
      rw [List.map_cons, ab_tv_ref ha0]
      exact main a 0 _ _ f1 hφ rfl (K _ _ _ hL hB)
    · rw [f1] at hs
      cases hs
      have ha0 : a ≠ 0 := Nat.ne_of_gt (hB.obj hφ hlt).1
      rw [List.map_cons, ab_tv_ref ha0]
      exact main a 1 _ _ f1 hφ rfl (K _ _ _ hL hB)
    · rw [f1] at hs
      cases hs
      have ha0 : a ≠ 0 := Nat.ne_of_gt (hB.obj hφ hlt).1
      rw [List.map_cons, ab_tv_ref ha0]
      exact main a 2 _ _ f1 hφ rfl (K _ _ _ hL hB)
  · cases hs
theorem ab_putfW (hC : ab_C i D cA A ad base p s m args meth c) {idx : Nat} (hk : ab_fl.any (fun f => Nat.beq f.1 (ab_Ic i) && Nat.beq f.2.1 idx && Nat.beq f.2.2.1 ex) = true) (hk2 : (!ab_fin ex || decide ((ab_Iy i).name = "<init>") && decide (ex / 100 = ab_Ic i) && ab_fl.any (fun f => Nat.beq f.1 (ab_Ic i) && Nat.beq f.2.1 idx && Nat.beq f.2.2.1 ex && !f.2.2.2.1)) = true) (hd : decode (ab_Ib i) pc = .ok (.putfield idx, 3)) (hs : ab_pf (pc + 3) ex L h M st = some ((pc', L', st', h1, M1), φ)) (hφ : φ) (hL : ab_Lr ad ls (ab_Il i) L) (hB : ab_B D cA A ad base n0 s0 s h M H locs)
    (K : ∀ ls' H' locs', ab_Lr ad ls' (ab_Il i) L' → ab_B D cA A ad base n0 s0 s h1 M1 H' locs' → W p l e R s m args below meth c H' locs' (h1.1 - n0) (h1.2.1 - s0) Q (F0 m pc' ls' (st'.map (ab_tv ad)))) : W p l e R s m args below meth c H locs (h.1 - n0) (h.2.1 - s0) Q (F0 m pc ls (st.map (ab_tv ad))) := by
  have hRel := ab_pf_rel hs hφ
  obtain ⟨hx, hb, hml, hown, hts, hK, hA, hnm, had⟩ := hC
  obtain ⟨C, T, N, hv, hN, hlink⟩ := ab_fl_get hk
  obtain ⟨ty0, hCK⟩ := ab_ck hv
  have hlt : ex / 100 < 12 := (List.getElem?_eq_some_iff.mp hv).1
  have hln : ab_lnk s args meth (ab_cn (ab_Ic i)) idx C (T (ex % 100)).2.1 (T (ex % 100)).2.2.1 (T (ex % 100)).2.2.2 := by
    have hf : ab_fin ex = (T (ex % 100)).2.2.2 := by unfold ab_fin; rw [hv]
    cases hfv : (T (ex % 100)).2.2.2 with
    | false =>
      refine Or.inl ⟨rfl, ?_⟩
      rcases hlink with hw | hw
      · exact Or.inl (hts _ (ab_wi_tb _ hw))
      · exact Or.inr (va_Nw.use rfl (hB.2.2.2.2.2.2.2.1 _ hw))
    | true =>
      rw [hf, hfv] at hk2
      simp only [Bool.not_true, Bool.false_or, Bool.and_eq_true, decide_eq_true_eq] at hk2
      obtain ⟨⟨k1, k2⟩, k3⟩ := hk2
      obtain ⟨C', T', N', hv', -, hw⟩ := ab_fl_plain k3
      rw [hv] at hv'
      cases hv'
      refine Or.inr ⟨rfl, hnm.trans k1, ?_, hts _ (ab_wi_tb _ hw)⟩
      rw [← hCK.2.2.2.2.2.1, k2]
  have main : ∀ (a t : Nat) (r : List Value) (v : Value) (M' : ab_M), ab_fty ex = some t → ab_k h a = ex / 100 + 1 → narrow (ty0 (ex % 100)) v = v → fits (ty0 (ex % 100)) v = true → ab_Rel h M h M' → (∀ b, b ≠ a → ab_te cA ad h M' b = ab_te cA ad h M b) → ab_fv ad M' a t (ex % 100) = v → (∀ j t', j ≠ ex % 100 → ab_fv ad M' a t' j = ab_fv ad M a t' j) → (∀ H' locs', ab_B D cA A ad base n0 s0 s h M' H' locs' → W p l e R s m args below meth c H' locs' (h.1 - n0) (h.2.1 - s0) Q (F0 m (pc + 3) ls r)) → W p l e R s m args below meth c H locs (h.1 - n0) (h.2.1 - s0) Q (F0 m pc ls (v :: .ref (ad a) :: r)) := by
    intro a t r v M' ht ha hn hfit hR hne hval hoth kk
    obtain ⟨g1, g2, g3⟩ := hB.obj ha hlt
    refine ab_pfW hx hb hts ab_wi_tb hCK hown hK hB.1 hB.2.1 hB.2.2.1 (a - 1) g3 hv (ex % 100) hN hln hn hfit (by rw [ab_fs_len, ← hCK.2.2.2.1]; exact hN) hd (fun H1 locs1 z p1 d1 s1 => kk H1 locs1 ?_)
    refine hB.put g1 g2 hR hne ?_ z p1 d1 s1
    rw [ab_te, if_pos (by omega), ha, ab_fs_set ht hval hoth]
    rfl
  unfold ab_pf at hs
  split at hs
  · rename_i q a r
    rcases ab_fty_of hCK hN with ⟨f1, -⟩ | ⟨f1, -⟩ | ⟨f1, f2⟩
    · rw [f1] at hs; cases hs
    · rw [f1] at hs; cases hs
    · rw [f1] at hs
      cases hs
      have ha0 : a ≠ 0 := Nat.ne_of_gt (hB.obj hφ.1 hlt).1
      rw [List.map_cons, List.map_cons, ab_tv_ref ha0, ab_tv_ref hφ.2]
      refine main a 2 _ _ _ f1 hφ.1 ?_ ?_ hRel (fun b hb => ab_te_congr rfl rfl rfl rfl (ab_u_ne hb)) ?_ ?_ (fun H' locs' hB' => K ls H' locs' hL hB')
      · rcases f2 with ⟨n, f2⟩ | ⟨t, f2⟩ <;> rw [f2] <;> rfl
      · rcases f2 with ⟨n, f2⟩ | ⟨t, f2⟩ <;> rw [f2] <;> rfl
      · show (if 2 = 2 then ab_tv ad (.ref (ab_u M.2.2 a (ex % 100) q a (ex % 100))) else _) = _
        rw [if_pos rfl, ab_u_at, ab_tv_ref hφ.2]
      · intro j t' hj
        unfold ab_fv
        dsimp only
        rw [ab_u_j hj]
  · rename_i x a r
    rcases ab_fty_of hCK hN with ⟨f1, f2⟩ | ⟨f1, f2⟩ | ⟨f1, -⟩
    · rw [f1] at hs
      cases hs
      have ha0 : a ≠ 0 := Nat.ne_of_gt (hB.obj hφ hlt).1
      rw [List.map_cons, List.map_cons, ab_tv_ref ha0]
      refine main a 0 _ (.int x) _ f1 hφ (by rw [f2]; rfl) (by rw [f2]; rfl) hRel (fun b hb => ab_te_congr rfl rfl (ab_u_ne hb) rfl rfl) ?_ ?_ (fun H' locs' hB' => K ls H' locs' hL hB')
      · show (if 0 = 2 then _ else Value.int (ab_u M.1 a (ex % 100) x a (ex % 100))) = _
        rw [if_neg (by decide), ab_u_at]
      · intro j t' hj
        unfold ab_fv
        dsimp only
        rw [ab_u_j hj]
    · rw [f1] at hs
      cases hs
      have ha0 : a ≠ 0 := Nat.ne_of_gt (hB.obj hφ.1 hlt).1
      rw [List.map_cons, List.map_cons, ab_tv_ref ha0]
      refine main a 1 _ (.int x) _ f1 hφ.1 (by rw [f2]; rcases hφ.2 with rfl | rfl <;> rfl) (by rw [f2]; rcases hφ.2 with rfl | rfl <;> rfl) hRel (fun b hb => ab_te_congr rfl rfl (ab_u_ne hb) rfl rfl) ?_ ?_ (fun H' locs' hB' => K ls H' locs' hL hB')
      · show (if 1 = 2 then _ else Value.int (ab_u M.1 a (ex % 100) x a (ex % 100))) = _
        rw [if_neg (by decide), ab_u_at]
      · intro j t' hj
        unfold ab_fv
        dsimp only
        rw [ab_u_j hj]
    · rw [f1] at hs; cases hs
  · cases hs
end ABT
