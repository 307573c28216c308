/-! ===== every step ===== -/
theorem ab_wd8 {ad : Nat → Nat} {t : List Value} (h : ab_wd t) : ((t.map (ab_tv ad)).map fun v => v.category).sum ≤ 8 := by
  rw [ab_wd_map]
  exact h
section ABS
variable {p : Program} {l : Launch} {e : Env} {R : Room} {s : State} {m : MethodId} {args : Array Value} {below : List Frame} {meth : Method} {c : Code} {H : Heap} {locs : List Loc} {Q : State → Prop}
variable {D : va_G} {cA : Nat → ClassId} {A : Nat → Prop} {ad : Nat → Nat} {base n0 s0 : Nat} {i : ab_I} {h h1 : ab_H} {M M1 : ab_M} {ls : Array Slot} {pc pc' ex : Nat} {L L' : ab_Ls} {st st' : List Value} {φ : Prop}
/-- String's length and charAt on a String constant, as rows: proved in a part of their own -/
def ab_StrRows : Prop := ∀ {p : Program} {l : Launch} {e : Env} {R : Room} {s : State} {m : MethodId} {args : Array Value} {below : List Frame} {meth : Method} {c : Code} {H : Heap} {locs : List Loc} {Q : State → Prop} {D : va_G} {cA : Nat → ClassId} {A : Nat → Prop} {ad : Nat → Nat} {base n0 s0 : Nat} {i : ab_I} {h : ab_H} {M : ab_M} {ls : Array Slot} {pc : Nat} {t : List Value} {k idx cells slots : Nat},
  ab_C i D cA A ad base p s m args meth c → ab_B D cA A ad base n0 s0 s h M H locs → ls.size = ab_Il i → k < 11 → (t.map fun v => v.category).sum ≤ 8 → 4 ≤ R.frames → 90 ≤ R.locals → cells ≤ R.cells → slots ≤ R.slots →
  (Cond.methodLink (ab_cn (ab_Ic i)) idx yJ0_length_8abf5 ∈ ab_tb → decode (ab_Ib i) pc = .ok (.invokevirtual idx, 3) → W p l e R s m args below meth c H locs cells slots Q (F0 m (pc + 3) ls (.int (Int32.ofNat (ab_sl k)) :: t)) → W p l e R s m args below meth c H locs cells slots Q (F0 m pc ls (.ref (ad (1000000 + k)) :: t))) ∧
  (∀ q : Int32, Cond.methodLink (ab_cn (ab_Ic i)) idx yJ0_charAt_5068e ∈ ab_tb → decode (ab_Ib i) pc = .ok (.invokevirtual idx, 3) → vp_in q (ab_sl k) → W p l e R s m args below meth c H locs cells slots Q (F0 m (pc + 3) ls (.int (ab_sc k q.toNatClampNeg) :: t)) → W p l e R s m args below meth c H locs cells slots Q (F0 m pc ls (.int q :: .ref (ad (1000000 + k)) :: t)))
set_option maxHeartbeats 4000000 in
theorem ab_stepW (hStr : ab_StrRows) (hC : ab_C i D cA A ad base p s m args meth c) {I : Instr} {ln : Nat} (hd : decode (ab_Ib i) pc = .ok (I, ab_ln I)) (hk : ab_chk ab_P ab_fl ab_ml i (pc, I, ln, ex) = true) (hcl : ((∃ z, I = .invokevirtual z) ∨ (∃ z, I = .invokespecial z) ∨ ∃ z, I = .invokestatic z) → ¬ ex < 9000) (hs : ab_step I ex pc L st h M = some ((pc', L', st', h1, M1), φ)) (hφ : φ) (hL : ab_Lr ad ls (ab_Il i) L) (hB : ab_B D cA A ad base n0 s0 s h M H locs) (hroom : h1.1 - n0 ≤ R.cells ∧ h1.2.1 - s0 ≤ R.slots) (hfr : ab_If i ≤ R.frames) (hwd : ab_Iw i ≤ R.locals)
    (K : ∀ ls' H' locs', ab_Lr ad ls' (ab_Il i) L' → ab_B D cA A ad base n0 s0 s h1 M1 H' locs' → W p l e R s m args below meth c H' locs' (h1.1 - n0) (h1.2.1 - s0) Q (F0 m pc' ls' (st'.map (ab_tv ad)))) : W p l e R s m args below meth c H locs (h.1 - n0) (h.2.1 - s0) Q (F0 m pc ls (st.map (ab_tv ad))) := by
  obtain ⟨hx, hb, hml, hown, hts, hK, hA, hnm, had⟩ := id hC
  unfold ab_chk at hk
  simp only [Bool.and_eq_true] at hk
  replace hk := hk.2
  have put1 : ∀ {i0 : Nat} {v : Value} {L2 : ab_Ls}, ab_set L i0 v = some L2 → i0 < ab_Il i := fun q => by rw [← hL.1]; exact (ab_set_spec q).2.1
  have put2 : ∀ {i0 : Nat} {v : Int64} {L2 : ab_Ls}, ab_setl L i0 v = some L2 → i0 + 1 < ab_Il i := fun q => by rw [← hL.1]; exact (ab_setl_spec q).2.1
  cases I with
  | aload_n k =>
    simp only [ab_step, ab_ald] at hs
    split at hs
    · rename_i x hg
      cases hs
      have h2 := hL.at hg
      rw [ab_tv_ref hφ] at h2
      have kk := K ls H locs hL hB
      rw [List.map_cons, ab_tv_ref hφ] at kk
      exact lv_aload_n hx hb hd rfl h2 kk
    · cases hs
  | aload k =>
    simp only [ab_step, ab_ald] at hs
    split at hs
    · rename_i x hg
      cases hs
      have h2 := hL.at hg
      rw [ab_tv_ref hφ] at h2
      have kk := K ls H locs hL hB
      rw [List.map_cons, ab_tv_ref hφ] at kk
      exact lv_aload hx hb hd h2 kk
    · cases hs
  | iload_n k =>
    simp only [ab_step, ab_ild] at hs
    split at hs
    · rename_i x hg
      cases hs
      exact lv_iload_n hx hb hd rfl (hL.at hg) (K ls H locs hL hB)
    · cases hs
  | iload k =>
    simp only [ab_step, ab_ild] at hs
    split at hs
    · rename_i x hg
      cases hs
      exact lv_iload hx hb hd (hL.at hg) (K ls H locs hL hB)
    · cases hs
  | lload_n k =>
    simp only [ab_step, ab_lld] at hs
    split at hs
    · rename_i x hg
      cases hs
      exact lv_lload_n hx hb hd rfl (hL.at hg) (K ls H locs hL hB)
    · cases hs
  | lload k =>
    simp only [ab_step, ab_lld] at hs
    split at hs
    · rename_i x hg
      cases hs
      exact lv_lload hx hb hd (hL.at hg) (K ls H locs hL hB)
    · cases hs
  | istore_n k =>
    simp only [ab_step, ab_ist] at hs
    split at hs
    · obtain ⟨L2, g1, g2, g3⟩ := ab_gl_spec hs
      cases g2
      exact lv_istore_n hx hb hd rfl hL.2 (put1 g1) rfl (fun ls' hl' => K ls' H locs (hL.set1 g1 hl') hB)
    · cases hs
  | istore k =>
    simp only [ab_step, ab_ist] at hs
    split at hs
    · obtain ⟨L2, g1, g2, g3⟩ := ab_gl_spec hs
      cases g2
      exact lv_istore hx hb hd hL.2 (put1 g1) rfl (fun ls' hl' => K ls' H locs (hL.set1 g1 hl') hB)
    · cases hs
  | astore_n k =>
    simp only [ab_step, ab_ast] at hs
    split at hs
    · obtain ⟨L2, g1, g2, g3⟩ := ab_gl_spec hs
      cases g2
      subst g3
      rw [List.map_cons, ab_tv_ref hφ]
      exact lv_astore_n hx hb hd rfl hL.2 (put1 g1) rfl (fun ls' hl' => K ls' H locs (hL.set1 g1 (by rw [ab_tv_ref hφ]; exact hl')) hB)
    · cases hs
  | astore k =>
    simp only [ab_step, ab_ast] at hs
    split at hs
    · obtain ⟨L2, g1, g2, g3⟩ := ab_gl_spec hs
      cases g2
      subst g3
      rw [List.map_cons, ab_tv_ref hφ]
      exact lv_astore hx hb hd hL.2 (put1 g1) rfl (fun ls' hl' => K ls' H locs (hL.set1 g1 (by rw [ab_tv_ref hφ]; exact hl')) hB)
    · cases hs
  | lstore_n k =>
    simp only [ab_step, ab_lst] at hs
    split at hs
    · obtain ⟨L2, g1, g2, g3⟩ := ab_gl_spec hs
      cases g2
      exact lv_lstore_n hx hb hd rfl hL.2 (put2 g1) rfl (fun ls' hl' => K ls' H locs (hL.set2 g1 hl') hB)
    · cases hs
  | lstore k =>
    simp only [ab_step, ab_lst] at hs
    split at hs
    · obtain ⟨L2, g1, g2, g3⟩ := ab_gl_spec hs
      cases g2
      exact lv_lstore hx hb hd hL.2 (put2 g1) rfl (fun ls' hl' => K ls' H locs (hL.set2 g1 hl') hB)
    · cases hs
  | iinc k d =>
    simp only [ab_step, ab_inc] at hs
    split at hs
    · rename_i x hg
      obtain ⟨L2, g1, g2, g3⟩ := ab_gl_spec hs
      cases g2
      obtain ⟨z, hz⟩ := List.getElem?_of_mem (ab_prs_mem (ad := ad) (b := 0).mpr ⟨_, _, hg, rfl⟩)
      rw [Nat.zero_add] at hz
      exact lv_iinc hx hb hd hL.2 hz rfl (put1 g1) rfl (fun ls' hl' => K ls' H locs (hL.set1 g1 hl') hB)
    · cases hs
  | iconst v => cases hs; exact lv_iconst hx hb hd rfl (K ls H locs hL hB)
  | bipush v => cases hs; exact lv_bipush hx hb hd rfl (K ls H locs hL hB)
  | sipush v => cases hs; exact lv_sipush hx hb hd rfl (K ls H locs hL hB)
  | lconst v => cases hs; exact lv_lconst hx hb hd rfl (K ls H locs hL hB)
  | goto off => cases hs; exact lv_goto hx hb hd (of_decide_eq_true hk) (K ls H locs hL hB)
  | iadd => simp only [ab_step, ab_ii] at hs; split at hs <;> cases hs; exact lv_iadd hx hb hd (K ls H locs hL hB)
  | isub => simp only [ab_step, ab_ii] at hs; split at hs <;> cases hs; exact lv_isub hx hb hd (K ls H locs hL hB)
  | imul => simp only [ab_step, ab_ii] at hs; split at hs <;> cases hs; exact lv_imul hx hb hd (K ls H locs hL hB)
  | iand => simp only [ab_step, ab_ii] at hs; split at hs <;> cases hs; exact lv_iand hx hb hd (K ls H locs hL hB)
  | ior => simp only [ab_step, ab_ii] at hs; split at hs <;> cases hs; exact lv_ior hx hb hd (K ls H locs hL hB)
  | ishl => simp only [ab_step, ab_ii] at hs; split at hs <;> cases hs; exact lv_ishl hx hb hd (K ls H locs hL hB)
  | ishr => simp only [ab_step, ab_ii] at hs; split at hs <;> cases hs; exact lv_ishr hx hb hd (K ls H locs hL hB)
  | iushr => simp only [ab_step, ab_ii] at hs; split at hs <;> cases hs; exact lv_iushr hx hb hd rfl (K ls H locs hL hB)
  | ladd => simp only [ab_step, ab_jj] at hs; split at hs <;> cases hs; exact lv_ladd hx hb hd (K ls H locs hL hB)
  | lmul => simp only [ab_step, ab_jj] at hs; split at hs <;> cases hs; exact lv_lmul hx hb hd (K ls H locs hL hB)
  | land => simp only [ab_step, ab_jj] at hs; split at hs <;> cases hs; exact lv_land hx hb hd (K ls H locs hL hB)
  | lor => simp only [ab_step, ab_jj] at hs; split at hs <;> cases hs; exact lv_lor hx hb hd (K ls H locs hL hB)
  | lshl => simp only [ab_step, ab_ij] at hs; split at hs <;> cases hs; exact lv_lshl hx hb hd rfl (K ls H locs hL hB)
  | lshr => simp only [ab_step, ab_ij] at hs; split at hs <;> cases hs; exact lv_lshr hx hb hd rfl (K ls H locs hL hB)
  | lushr => simp only [ab_step, ab_ij] at hs; split at hs <;> cases hs; exact lv_lushr hx hb hd rfl (K ls H locs hL hB)
  | i2l => simp only [ab_step, ab_iv] at hs; split at hs <;> cases hs; exact lv_i2l hx hb hd rfl (K ls H locs hL hB)
  | i2b => simp only [ab_step, ab_iv] at hs; split at hs <;> cases hs; exact lv_i2b hx hb hd rfl (K ls H locs hL hB)
  | i2s => simp only [ab_step, ab_iv] at hs; split at hs <;> cases hs; exact lv_i2s hx hb hd rfl (K ls H locs hL hB)
  | i2c => simp only [ab_step, ab_iv] at hs; split at hs <;> cases hs; exact lv_i2c hx hb hd rfl (K ls H locs hL hB)
  | ineg => simp only [ab_step, ab_iv] at hs; split at hs <;> cases hs; exact lv_ineg hx hb hd (K ls H locs hL hB)
  | irem => simp only [ab_step, ab_div] at hs; split at hs <;> cases hs; exact lv_irem hx hb hd hφ (K ls H locs hL hB)
  | idiv => simp only [ab_step, ab_div] at hs; split at hs <;> cases hs; exact lv_idiv hx hb hd hφ (K ls H locs hL hB)
  | lcmp => simp only [ab_step] at hs; split at hs <;> cases hs; exact W.lcmp hx hb hd (K ls H locs hL hB)
  | l2i => simp only [ab_step] at hs; split at hs <;> cases hs; exact lv_l2i hx hb hd rfl (K ls H locs hL hB)
  | pop => simp only [ab_step, ab_pop] at hs; split at hs <;> cases hs; exact lv_pop hx hb hd rfl (K ls H locs hL hB)
  | dup =>
    simp only [ab_step, ab_dup] at hs
    split at hs
    · cases hs; exact lv_dup hx hb hd rfl (K ls H locs hL hB)
    · cases hs; exact lv_dup hx hb hd (ab_cat _) (K ls H locs hL hB)
    · cases hs
  | dup2 =>
    simp only [ab_step, ab_dup2] at hs
    split at hs
    · cases hs; exact lv_dup2_11 hx hb hd rfl (ab_cat _) (K ls H locs hL hB)
    · cases hs
  | ldc2_w idx => cases hs; exact lv_ldc2 hx hb hown (hts _ (ab_wi_tb _ (of_decide_eq_true hk))) hd (K ls H locs hL hB)
  | ldc_w idx => cases hs; exact lv_ldcw hx hb hown (hts _ (ab_wi_tb _ (of_decide_eq_true hk))) hd (K ls H locs hL hB)
  | ldc idx =>
    simp only [ab_step] at hs
    simp only [Bool.or_eq_true, Bool.and_eq_true, decide_eq_true_eq] at hk
    rcases hk with ⟨k1, k2⟩ | ⟨⟨⟨k1, k2⟩, k3⟩, k4⟩
    · rw [k1] at hs
      cases hs
      exact lv_ldc hx hb hown (hts _ (ab_wi_tb _ k2)) hd (K ls H locs hL hB)
    · have kb : Nat.blt ex 4294967296 = false := by
        rw [Bool.eq_false_iff]
        intro q
        have := Nat.le_of_ble_eq_true q
        omega
      rw [kb] at hs
      cases hs
      have k5 : ex < 4295967307 := Nat.le_of_ble_eq_true k2
      have hR := hB.2.2.2.2.2.2.2.2.2.2.2.1 (ex - 4295967296) (by omega)
      rw [Nat.eq_of_beq_eq_true k4, show 1000000 + (ex - 4295967296) = ex - 4294967296 by omega] at hR
      have ho : s.vm.findClass RX6 = some m.cls := by
        have h6 := Nat.eq_of_beq_eq_true k3
        rw [h6] at hown
        exact hown
      have kk := K ls H locs hL hB
      rw [List.map_cons, ab_tv_ref (by omega)] at kk
      exact va_ldcS hx hb ho hR hd kk
  | getfield idx => exact ab_getfW hC hk hd hs hφ hL hB K
  | putfield idx =>
    simp only [Bool.and_eq_true] at hk
    exact ab_putfW hC hk.1 hk.2 hd hs hφ hL hB K
  | iaload => exact ab_ialdW hC hd hs hφ hL hB K
  | baload => exact ab_baldW hC hd hs hφ hL hB K
  | laload => exact ab_laldW hC hd hs hφ hL hB K
  | aaload => exact ab_aaldW hC hd hs hφ hL hB K
  | arraylength => exact ab_alenW hC hd hs hφ hL hB K
  | iastore => exact ab_iastWW hC hd hs hφ hL hB K
  | bastore => exact ab_bastWW hC hd hs hφ hL hB K
  | lastore => exact ab_lastWW hC hd hs hφ hL hB K
  | aastore => exact ab_aastWW hC hd hs hφ hL hB K
  | new idx =>
    simp only [Bool.and_eq_true, decide_eq_true_eq] at hk
    exact ab_newoW hC hk.2 hd hs hφ hL hB hroom K
  | newarray t => exact ab_newaW2 hC hk hd hs hφ hL hB hroom K
  | anewarray idx =>
    simp only [Bool.and_eq_true, decide_eq_true_eq] at hk
    exact ab_newqW2 hC hk.1.1 hk.1.2 hk.2 hd hs hφ hL hB hroom K
  | invokespecial idx =>
    have h9 := hcl (Or.inr (Or.inl ⟨_, rfl⟩))
    have nb : Nat.blt ex 9000 = false := by
      rw [Bool.eq_false_iff]
      intro q
      exact h9 (Nat.le_of_ble_eq_true q)
    simp only [ab_step, ab_prs1] at hs
    split at hs
    · cases hs
      rw [List.map_cons, ab_tv_ref hφ.1]
      simp only [nb, Bool.false_and, Bool.or_false, Bool.and_eq_true, decide_eq_true_eq] at hk
      obtain ⟨⟨⟨-, k2⟩, k3⟩, k4⟩ := hk
      have k3 := Nat.le_of_ble_eq_true k3
      have k4 := Nat.le_of_ble_eq_true k4
      have hw8 := ab_wd8 (ad := ad) hφ.2
      exact W.objInit hx hb hown (hts _ (ab_wi_tb _ k2)) (hts _ (ab_wi_tb _ ab_w_oi)) (hts _ (ab_wi_tb _ ab_w_oc)) rfl (by rw [hml]; exact hL.2.1) rfl hd (by omega) (Nat.le_trans (Nat.add_le_add_right (lv_room hw8) 12) (by omega)) (K ls H locs hL hB)
    · cases hs
  | invokevirtual idx =>
    have h9 := hcl (Or.inl ⟨_, rfl⟩)
    have nb : Nat.blt ex 9000 = false := by
      rw [Bool.eq_false_iff]
      intro q
      exact h9 (Nat.le_of_ble_eq_true q)
    simp only [ab_step, ab_prv] at hs
    split at hs
    · rename_i a t
      split at hs
      · rename_i hbq
        cases hs
        obtain rfl := Nat.eq_of_beq_eq_true hbq
        obtain ⟨⟨a1, a2⟩, hw⟩ := hφ
        have a1 : @LE.le Nat _ 1000000 a := a1
        have a2 : @LT.lt Nat _ a 1000011 := a2
        have a0 : a ≠ 0 := Nat.ne_of_gt (Nat.lt_of_lt_of_le (by decide) a1)
        simp only [nb, Bool.false_and, Bool.false_or, Bool.or_eq_true, Bool.and_eq_true, decide_eq_true_eq] at hk
        have hk : Cond.methodLink (ab_cn (ab_Ic i)) idx yJ0_length_8abf5 ∈ ab_tb ∧ 4 ≤ ab_If i ∧ 90 ≤ ab_Iw i := by
          rcases hk with ⟨⟨⟨-, k2⟩, k3⟩, k4⟩ | ⟨⟨⟨k1, -⟩, -⟩, -⟩
          · exact ⟨k2, Nat.le_of_ble_eq_true k3, Nat.le_of_ble_eq_true k4⟩
          · exact absurd (Nat.eq_of_beq_eq_true k1) (by decide)
        have hw8 : ((t.map (ab_tv ad)).map fun v => v.category).sum ≤ 8 := by rw [ab_wd_map]; exact hw
        rw [List.map_cons, ab_tv_ref a0]
        have hrow := (hStr (l := l) (e := e) (R := R) (below := below) (Q := Q) (pc := pc) (idx := idx) (k := a - 1000000) (t := t.map (ab_tv ad)) hC hB hL.2.1 (by omega) hw8 (by omega) (by omega) hroom.1 hroom.2).1 hk.1 hd (K ls H locs hL hB)
        rw [show (1000000 + (a - 1000000) : Nat) = a from Nat.add_sub_of_le a1] at hrow
        exact hrow
      · cases hs
    · rename_i q a t
      split at hs
      · rename_i hbq
        cases hs
        obtain rfl := Nat.eq_of_beq_eq_true hbq
        obtain ⟨⟨a1, a2⟩, hin, hw⟩ := hφ
        have a1 : @LE.le Nat _ 1000000 a := a1
        have a2 : @LT.lt Nat _ a 1000011 := a2
        have a0 : a ≠ 0 := Nat.ne_of_gt (Nat.lt_of_lt_of_le (by decide) a1)
        simp only [nb, Bool.false_and, Bool.false_or, Bool.or_eq_true, Bool.and_eq_true, decide_eq_true_eq] at hk
        have hk : Cond.methodLink (ab_cn (ab_Ic i)) idx yJ0_charAt_5068e ∈ ab_tb ∧ 4 ≤ ab_If i ∧ 90 ≤ ab_Iw i := by
          rcases hk with ⟨⟨⟨k1, -⟩, -⟩, -⟩ | ⟨⟨⟨-, k2⟩, k3⟩, k4⟩
          · exact absurd (Nat.eq_of_beq_eq_true k1) (by decide)
          · exact ⟨k2, Nat.le_of_ble_eq_true k3, Nat.le_of_ble_eq_true k4⟩
        have hw8 : ((t.map (ab_tv ad)).map fun v => v.category).sum ≤ 8 := by rw [ab_wd_map]; exact hw
        rw [List.map_cons, List.map_cons, ab_tv_ref a0]
        have hrow := (hStr (l := l) (e := e) (R := R) (below := below) (Q := Q) (pc := pc) (idx := idx) (k := a - 1000000) (t := t.map (ab_tv ad)) hC hB hL.2.1 (by omega) hw8 (by omega) (by omega) hroom.1 hroom.2).2 q hk.1 hd hin (K ls H locs hL hB)
        rw [show (1000000 + (a - 1000000) : Nat) = a from Nat.add_sub_of_le a1] at hrow
        exact hrow
      · cases hs
    · cases hs
  | invokestatic idx =>
    have h9 := hcl (Or.inr (Or.inr ⟨_, rfl⟩))
    have nb : Nat.blt ex 9000 = false := by
      rw [Bool.eq_false_iff]
      intro q
      exact h9 (Nat.le_of_ble_eq_true q)
    have hsz : c.maxLocals = ls.size := by rw [hml]; exact hL.2.1.symm
    simp only [nb, Bool.false_and, Bool.false_or, Bool.or_eq_true, Bool.and_eq_true, decide_eq_true_eq] at hk
    simp only [ab_step, ab_pst] at hs
    split at hs
    · rename_i y x t
      split at hs
      · rename_i hbq
        cases hs
        obtain rfl := Nat.eq_of_beq_eq_true hbq
        have hw8 : ((t.map (ab_tv ad)).map fun v => v.category).sum ≤ 8 := by rw [ab_wd_map]; exact hφ
        rcases hk with (⟨⟨⟨-, k2⟩, k3⟩, k4⟩ | ⟨⟨⟨k1, -⟩, -⟩, -⟩) | ⟨⟨⟨k1, -⟩, -⟩, -⟩
        · have k3 := Nat.le_of_ble_eq_true k3
          have k4 := Nat.le_of_ble_eq_true k4
          exact va_mmax hx hb hsz hown (hts _ (ab_wi_tb _ k2)) (hts _ (ab_wi_tb _ ab_w_max.1)) (hts _ (ab_wi_tb _ ab_w_mi)) (hts _ (ab_wi_tb _ ab_w_max.2)) (by omega) (by omega) hroom.1 hroom.2 hd (K ls H locs hL hB)
        · exact absurd (Nat.eq_of_beq_eq_true k1) (by decide)
        · exact absurd (Nat.eq_of_beq_eq_true k1) (by decide)
      · split at hs
        · rename_i hbq
          cases hs
          obtain rfl := Nat.eq_of_beq_eq_true hbq
          have hw8 : ((t.map (ab_tv ad)).map fun v => v.category).sum ≤ 8 := by rw [ab_wd_map]; exact hφ
          rcases hk with (⟨⟨⟨k1, -⟩, -⟩, -⟩ | ⟨⟨⟨-, k2⟩, k3⟩, k4⟩) | ⟨⟨⟨k1, -⟩, -⟩, -⟩
          · exact absurd (Nat.eq_of_beq_eq_true k1) (by decide)
          · have k3 := Nat.le_of_ble_eq_true k3
            have k4 := Nat.le_of_ble_eq_true k4
            exact va_mmin hx hb hsz hown (hts _ (ab_wi_tb _ k2)) (hts _ (ab_wi_tb _ ab_w_min.1)) (hts _ (ab_wi_tb _ ab_w_mi)) (hts _ (ab_wi_tb _ ab_w_min.2)) (by omega) (by omega) hroom.1 hroom.2 hd (K ls H locs hL hB)
          · exact absurd (Nat.eq_of_beq_eq_true k1) (by decide)
        · cases hs
    · rename_i y x t
      split at hs
      · rename_i hbq
        cases hs
        obtain rfl := Nat.eq_of_beq_eq_true hbq
        have hw8 : ((t.map (ab_tv ad)).map fun v => v.category).sum ≤ 8 := by rw [ab_wd_map]; exact hφ
        rcases hk with (⟨⟨⟨k1, -⟩, -⟩, -⟩ | ⟨⟨⟨k1, -⟩, -⟩, -⟩) | ⟨⟨⟨-, k2⟩, k3⟩, k4⟩
        · exact absurd (Nat.eq_of_beq_eq_true k1) (by decide)
        · exact absurd (Nat.eq_of_beq_eq_true k1) (by decide)
        · have k3 := Nat.le_of_ble_eq_true k3
          have k4 := Nat.le_of_ble_eq_true k4
          exact va_mmin_long hx hb hsz hown (hts _ (ab_wi_tb _ k2)) (hts _ (ab_wi_tb _ ab_w_minl.1)) (hts _ (ab_wi_tb _ ab_w_mi)) (hts _ (ab_wi_tb _ ab_w_minl.2)) (by omega) (by omega) hroom.1 hroom.2 hd (K ls H locs hL hB)
      · cases hs
    · cases hs
  | _ => cases hs
end ABS
