/-! ===== new cells, and the calls that are steps ===== -/
theorem ab_w_arrI : Cond.arrayClass .int ∈ ab_tb := by decide +kernel
theorem ab_w_arrB : Cond.arrayClass .byte ∈ ab_tb := by decide +kernel
theorem ab_w_arrZ : Cond.arrayClass .boolean ∈ ab_tb := by decide +kernel
theorem ab_w_arrJ : Cond.arrayClass .long ∈ ab_tb := by decide +kernel
theorem ab_w_oi : Cond.instanceMethod objectInit ∈ ab_tb := by decide +kernel
theorem ab_w_oc : Cond.code objectInit ⟨#[0xb1]⟩ 1 none ∈ ab_tb := by decide +kernel
theorem ab_w_mi : Cond.initialized "java/lang/Math" ∈ ab_tb := by decide +kernel
theorem ab_w_max : Cond.static Lib.Math.max.name ∈ ab_tb ∧ Cond.code Lib.Math.max.name Lib.Math.max.code 2 (some .int) ∈ ab_tb := by decide +kernel
theorem ab_w_min : Cond.static Lib.Math.min.name ∈ ab_tb ∧ Cond.code Lib.Math.min.name Lib.Math.min.code 2 (some .int) ∈ ab_tb := by decide +kernel
theorem ab_w_minl : Cond.static Lib.MathLoose.min_long.x ∈ ab_tb ∧ Cond.code Lib.MathLoose.min_long.x Lib.MathLoose.min_long.code 4 (some .long) ∈ ab_tb := by decide +kernel
theorem ab_wd_map {ad : Nat → Nat} (t : List Value) : ((t.map (ab_tv ad)).map fun v => v.category).sum = (t.map fun v => v.category).sum := by
  rw [List.map_map]
  congr 1
  apply List.map_congr_left
  intro v _
  exact ab_cat v
section ABN
variable {p : Program} {l : Launch} {e : Env} {R : Room} {s : State} {m : MethodId} {args : Array Value} {below : List Frame} {meth : Method} {c : Code} {H : Heap} {locs : List Loc} {Q : State → Prop}
variable {D : va_G} {cA : Nat → ClassId} {A : Nat → Prop} {ad : Nat → Nat} {base n0 s0 : Nat} {i : ab_I} {h h1 : ab_H} {M M1 : ab_M} {ls : Array Slot} {pc pc' ex : Nat} {L L' : ab_Ls} {st st' : List Value} {φ : Prop}
theorem ab_newoW (hC : ab_C i D cA A ad base p s m args meth c) {idx : Nat} (hk : Cond.classLink (ab_cn (ab_Ic i)) idx (ab_cn ex) ∈ ab_tb) (hd : decode (ab_Ib i) pc = .ok (.new idx, 3)) (hs : ab_newo (pc + 3) ex L st h M = some ((pc', L', st', h1, M1), φ)) (hφ : φ) (hL : ab_Lr ad ls (ab_Il i) L) (hB : ab_B D cA A ad base n0 s0 s h M H locs) (hroom : h1.1 - n0 ≤ R.cells ∧ h1.2.1 - s0 ≤ R.slots)
    (K : ∀ ls' H' locs', ab_Lr ad ls' (ab_Il i) L' → ab_B D cA A ad base n0 s0 s h1 M1 H' locs' → W p l e R s m args below meth c H' locs' (h1.1 - n0) (h1.2.1 - s0) Q (F0 m pc' ls' (st'.map (ab_tv ad)))) : W p l e R s m args below meth c H locs (h.1 - n0) (h.2.1 - s0) Q (F0 m pc ls (st.map (ab_tv ad))) := by
  have hRel : ab_Rel h M h1 M1 := ab_step_rel (I := .new idx) (ex := ex) (pc := pc) trivial hs hφ
  obtain ⟨hx, hb, hml, hown, hts, hK, hA, hnm, had⟩ := hC
  unfold ab_newo at hs
  cases hs
  obtain ⟨h12, hlt⟩ := hφ
  obtain ⟨⟨C, T, N⟩, hv⟩ : ∃ r, vwCl[ex]? = some r := ⟨vwCl[ex]'h12, List.getElem?_eq_getElem h12⟩
  obtain ⟨ty0, hCK⟩ := ab_ck hv
  have hn0 := hB.2.2.2.2.2.1
  have hs0 := hB.2.2.2.2.2.2.1
  have hNl := hCK.2.2.2.1
  dsimp only at hroom hRel K
  have e1 : h.1 + 1 - n0 = h.1 - n0 + 1 := by omega
  have e2 : h.2.1 + (ab_ft ex).length - s0 = h.2.1 - s0 + N := by rw [hNl]; omega
  rw [e1, e2] at hroom K
  rw [hCK.2.2.2.2.2.1] at hk
  have ea : H.size = ad h.1 := by rw [had h.1 hB.2.2.2.2.1.1 hlt, hB.2.2.2.1]
  refine ab_newW hx hb hts ab_wi_tb hCK hown (hts _ (ab_wi_tb _ hk)) hK hB.1 hB.2.1 hB.2.2.1 hA hv (fs := ab_fs ad (va_up M.1 h.1 (fun _ => 0), M.2.1, va_up M.2.2 h.1 (fun _ => 0)) h.1 ex) ?_ hroom.1 hroom.2 hd (fun H1 z p1 d1 s1 => ?_)
  · intro j hj
    have hj2 : j < (ab_ft ex).length := by rw [← hNl]; exact hj
    rcases hCK.2.2.2.2.2.2.1 j hj with ⟨f1, f2⟩ | ⟨f1, f2⟩ | ⟨f1, f2⟩
    · unfold vp_V
      rw [List.getD_eq_getElem?_getD, ab_fs_at f1, f2]
      simp [ab_fv, va_up]
      rfl
    · unfold vp_V
      rw [List.getD_eq_getElem?_getD, ab_fs_at f1, f2]
      simp [ab_fv, va_up]
      rfl
    · unfold vp_V
      rw [List.getD_eq_getElem?_getD, ab_fs_at f1]
      rcases f2 with ⟨n, f2⟩ | ⟨t, f2⟩ <;> rw [f2] <;> simp [ab_fv, va_up, ab_tv, ab_rq] <;> rfl
  · have hB1 := hB.new (h' := (h.1 + 1, h.2.1 + (ab_ft ex).length, va_up h.2.2.1 h.1 (ex + 1), h.2.2.2)) rfl hlt had hRel (fun b hb => ab_te_congr (by simp [ab_k, va_up, hb]) rfl (by simp [va_up, hb]) rfl (by simp [va_up, hb])) (by rw [ab_te]; simp only [ab_k, va_up, if_pos]; rw [if_pos (by omega)]; rfl) z p1 d1 s1
    have kk := K ls H1 locs hL hB1
    rw [List.map_cons, ab_tv_ref (Nat.ne_of_gt hB.2.2.2.2.1.1), ← ea] at kk
    exact kk
theorem ab_newaW2 (hC : ab_C i D cA A ad base p s m args meth c) {atype : ArrayType} (hk : (match atype, ex with
    | .int, 20 => true
    | .byte, 21 => true
    | .boolean, 22 => true
    | .long, 23 => true
    | _, _ => false) = true) (hd : decode (ab_Ib i) pc = .ok (.newarray atype, 2)) (hs : ab_newa (pc + 2) ex L h M st = some ((pc', L', st', h1, M1), φ)) (hφ : φ) (hL : ab_Lr ad ls (ab_Il i) L) (hB : ab_B D cA A ad base n0 s0 s h M H locs) (hroom : h1.1 - n0 ≤ R.cells ∧ h1.2.1 - s0 ≤ R.slots)
    (K : ∀ ls' H' locs', ab_Lr ad ls' (ab_Il i) L' → ab_B D cA A ad base n0 s0 s h1 M1 H' locs' → W p l e R s m args below meth c H' locs' (h1.1 - n0) (h1.2.1 - s0) Q (F0 m pc' ls' (st'.map (ab_tv ad)))) : W p l e R s m args below meth c H locs (h.1 - n0) (h.2.1 - s0) Q (F0 m pc ls (st.map (ab_tv ad))) := by
  have hex : 20 ≤ ex ∧ ex ≤ 23 := by
    split at hk <;> first | (constructor <;> decide) | cases hk
  have hRel : ab_Rel h M h1 M1 := ab_step_rel (I := .newarray atype) (ex := ex) (pc := pc) ⟨hex.1, by omega⟩ hs hφ
  obtain ⟨hx, hb, hml, hown, hts, hK, hA, hnm, had⟩ := hC
  unfold ab_newa at hs
  split at hs
  · rename_i mm r
    cases hs
    obtain ⟨hneg, hbig, hlt⟩ := hφ
    have hn0 := hB.2.2.2.2.2.1
    have hs0 := hB.2.2.2.2.2.2.1
    dsimp only at hroom hRel K
    have e1 : h.1 + 1 - n0 = h.1 - n0 + 1 := by omega
    have e2 : ∀ N, h.2.1 + N - s0 = h.2.1 - s0 + N := fun N => by omega
    rw [e1, e2] at hroom K
    have ea : H.size = ad h.1 := by rw [had h.1 hB.2.2.2.2.1.1 hlt, hB.2.2.2.1]
    rw [List.map_cons]
    split at hk
    · refine ab_newaW (atype := .int) hx hb (hts _ (ab_wi_tb _ ab_w_arrI)) rfl (t0 := 0) hK rfl hB.1 hB.2.1 hB.2.2.1 hA (N' := mm.toNatClampNeg) (a0 := (mm.toNatClampNeg, .inl (fun _ => 0))) rfl hneg rfl (by show _ * 4 ≤ _; omega) hroom.1 hroom.2 hd (fun H1 z p1 d1 s1 => ?_)
      have hB1 := hB.new (h' := (h.1 + 1, h.2.1 + mm.toNatClampNeg, va_up h.2.2.1 h.1 20, va_up h.2.2.2 h.1 mm.toNatClampNeg)) rfl hlt had hRel (fun b hb => ab_te_congr (by simp [ab_k, va_up, hb]) (by simp [ab_n, va_up, hb]) (by simp [va_up, hb]) (by simp [va_up, hb]) (by simp [va_up, hb])) (by rw [ab_te]; simp [ab_k, ab_n, va_up]) z p1 d1 s1
      have kk := K ls H1 locs hL hB1
      rw [List.map_cons, ab_tv_ref (Nat.ne_of_gt hB.2.2.2.2.1.1), ← ea] at kk
      exact kk
    · refine ab_newaW (atype := .byte) hx hb (hts _ (ab_wi_tb _ ab_w_arrB)) rfl (t0 := 1) hK rfl hB.1 hB.2.1 hB.2.2.1 hA (N' := mm.toNatClampNeg) (a0 := (mm.toNatClampNeg, .inl (fun _ => 0))) rfl hneg rfl (by show _ * 1 ≤ _; omega) hroom.1 hroom.2 hd (fun H1 z p1 d1 s1 => ?_)
      have hB1 := hB.new (h' := (h.1 + 1, h.2.1 + mm.toNatClampNeg, va_up h.2.2.1 h.1 21, va_up h.2.2.2 h.1 mm.toNatClampNeg)) rfl hlt had hRel (fun b hb => ab_te_congr (by simp [ab_k, va_up, hb]) (by simp [ab_n, va_up, hb]) (by simp [va_up, hb]) (by simp [va_up, hb]) (by simp [va_up, hb])) (by rw [ab_te]; simp [ab_k, ab_n, va_up]) z p1 d1 s1
      have kk := K ls H1 locs hL hB1
      rw [List.map_cons, ab_tv_ref (Nat.ne_of_gt hB.2.2.2.2.1.1), ← ea] at kk
      exact kk
    · refine ab_newaW (atype := .boolean) hx hb (hts _ (ab_wi_tb _ ab_w_arrZ)) rfl (t0 := 2) hK rfl hB.1 hB.2.1 hB.2.2.1 hA (N' := mm.toNatClampNeg) (a0 := (mm.toNatClampNeg, .inl (fun _ => 0))) rfl hneg rfl (by show _ * 1 ≤ _; omega) hroom.1 hroom.2 hd (fun H1 z p1 d1 s1 => ?_)
      have hB1 := hB.new (h' := (h.1 + 1, h.2.1 + mm.toNatClampNeg, va_up h.2.2.1 h.1 22, va_up h.2.2.2 h.1 mm.toNatClampNeg)) rfl hlt had hRel (fun b hb => ab_te_congr (by simp [ab_k, va_up, hb]) (by simp [ab_n, va_up, hb]) (by simp [va_up, hb]) (by simp [va_up, hb]) (by simp [va_up, hb])) (by rw [ab_te]; simp [ab_k, ab_n, va_up]) z p1 d1 s1
      have kk := K ls H1 locs hL hB1
      rw [List.map_cons, ab_tv_ref (Nat.ne_of_gt hB.2.2.2.2.1.1), ← ea] at kk
      exact kk
    · refine ab_newaW (atype := .long) hx hb (hts _ (ab_wi_tb _ ab_w_arrJ)) rfl (t0 := 3) hK rfl hB.1 hB.2.1 hB.2.2.1 hA (N' := mm.toNatClampNeg) (a0 := (mm.toNatClampNeg, .inr (.inl (fun _ => 0)))) rfl hneg rfl (by show _ * 8 ≤ _; omega) hroom.1 hroom.2 hd (fun H1 z p1 d1 s1 => ?_)
      have hB1 := hB.new (h' := (h.1 + 1, h.2.1 + mm.toNatClampNeg, va_up h.2.2.1 h.1 23, va_up h.2.2.2 h.1 mm.toNatClampNeg)) rfl hlt had hRel (fun b hb => ab_te_congr (by simp [ab_k, va_up, hb]) (by simp [ab_n, va_up, hb]) (by simp [va_up, hb]) (by simp [va_up, hb]) (by simp [va_up, hb])) (by rw [ab_te]; simp [ab_k, ab_n, va_up]) z p1 d1 s1
      have kk := K ls H1 locs hL hB1
      rw [List.map_cons, ab_tv_ref (Nat.ne_of_gt hB.2.2.2.2.1.1), ← ea] at kk
      exact kk
    · cases hk
  · cases hs
theorem ab_newqW2 (hC : ab_C i D cA A ad base p s m args meth c) {idx : Nat} (h24 : 24 ≤ ex) (h27 : ex ≤ 27) (hk : Cond.classLink (ab_cn (ab_Ic i)) idx (ab_cn (ab_oc ex)) ∈ ab_tb) (hd : decode (ab_Ib i) pc = .ok (.anewarray idx, 3)) (hs : ab_newa (pc + 3) ex L h M st = some ((pc', L', st', h1, M1), φ)) (hφ : φ) (hL : ab_Lr ad ls (ab_Il i) L) (hB : ab_B D cA A ad base n0 s0 s h M H locs) (hroom : h1.1 - n0 ≤ R.cells ∧ h1.2.1 - s0 ≤ R.slots)
    (K : ∀ ls' H' locs', ab_Lr ad ls' (ab_Il i) L' → ab_B D cA A ad base n0 s0 s h1 M1 H' locs' → W p l e R s m args below meth c H' locs' (h1.1 - n0) (h1.2.1 - s0) Q (F0 m pc' ls' (st'.map (ab_tv ad)))) : W p l e R s m args below meth c H locs (h.1 - n0) (h.2.1 - s0) Q (F0 m pc ls (st.map (ab_tv ad))) := by
  have hRel : ab_Rel h M h1 M1 := ab_step_rel (I := .anewarray idx) (ex := ex) (pc := pc) ⟨by omega, h27⟩ hs hφ
  obtain ⟨hx, hb, hml, hown, hts, hK, hA, hnm, had⟩ := hC
  unfold ab_newa at hs
  split at hs
  · rename_i mm r
    cases hs
    obtain ⟨hneg, hbig, hlt⟩ := hφ
    have hn0 := hB.2.2.2.2.2.1
    have hs0 := hB.2.2.2.2.2.2.1
    dsimp only at hroom hRel K
    have e1 : h.1 + 1 - n0 = h.1 - n0 + 1 := by omega
    have e2 : ∀ N, h.2.1 + N - s0 = h.2.1 - s0 + N := fun N => by omega
    rw [e1, e2] at hroom K
    have ea : H.size = ad h.1 := by rw [had h.1 hB.2.2.2.2.1.1 hlt, hB.2.2.2.1]
    obtain ⟨r, t1, t2, t3⟩ := ab_tys_q (cA := cA) h24 h27
    rw [t3] at t1
    rw [List.map_cons]
    refine ab_newqW hx hb hown (hts _ (ab_wi_tb _ hk)) (hB.2.2.2.2.2.2.2.2.1 ex h24 h27) hK t1 hB.1 hB.2.1 hB.2.2.1 hA hneg rfl (by omega) hroom.1 hroom.2 hd (fun H1 z p1 d1 s1 => ?_)
    have hB1 := hB.new (h' := (h.1 + 1, h.2.1 + mm.toNatClampNeg, va_up h.2.2.1 h.1 ex, va_up h.2.2.2 h.1 mm.toNatClampNeg)) rfl hlt had hRel (fun b hb => ab_te_congr (by simp [ab_k, va_up, hb]) (by simp [ab_n, va_up, hb]) (by simp [va_up, hb]) (by simp [va_up, hb]) (by simp [va_up, hb])) (by
      rw [ab_te]
      have ek : ab_k (h.1 + 1, h.2.1 + mm.toNatClampNeg, va_up h.2.2.1 h.1 ex, va_up h.2.2.2 h.1 mm.toNatClampNeg) h.1 = ex := by simp [ab_k, va_up]
      rw [ek, if_neg (by omega), if_neg (by omega), if_pos h24]
      simp [ab_n, va_up, ab_rq]) z p1 d1 s1
    have kk := K ls H1 locs hL hB1
    rw [List.map_cons, ab_tv_ref (Nat.ne_of_gt hB.2.2.2.2.1.1), ← ea] at kk
    exact kk
  · cases hs
end ABN
