/-! ===== every run ===== -/
theorem ab_isSw_step {I : Instr} {ex pc : Nat} {L : ab_Ls} {st : List Value} {h : ab_H} {M : ab_M} {q : ab_S × Prop} (hs : ab_step I ex pc L st h M = some q) : ab_isSw I = false := by
  cases I <;> first | rfl | (simp [ab_step] at hs)
theorem ab_par {j : ab_I} {d : String} {n : Nat} (h : (parseMethodDescriptor d).map (fun d => d.parameters.length + 1) = some n) {k : Nat} (hk : k + 1 = n) : (parseMethodDescriptor d).map (fun d => d.parameters.length) = some k := by
  cases hp : parseMethodDescriptor d with
  | none => rw [hp] at h; cases h
  | some q =>
    rw [hp] at h
    simp only [Option.map_some, Option.some.injEq] at h ⊢
    omega
set_option maxHeartbeats 4000000 in
theorem ab_sound (hStr : ab_StrRows) : ∀ f, ab_Sound f := by
  intro f
  induction f with
  | zero => intro i hi pc L st h M r h' M' hv; exact absurd hv (by simp [ab_ev])
  | succ f ih =>
    intro i hi pc L st h M r h' M' hv p l e R s m args below meth c H locs Q D cA A ad base n0 s0 ls hC hL hB hroom hfr hwd K
    obtain ⟨hx, hb, hml, hown, hts, hK, hA, hnm, had⟩ := id hC
    unfold ab_ev at hv
    cases hk : ab_lk (ab_It i) pc with
    | none => rw [hk] at hv; exact hv.elim
    | some q =>
      obtain ⟨I, ln, ex⟩ := q
      rw [hk] at hv
      dsimp only at hv
      have hchk : ab_chk ab_P ab_fl ab_ml i (pc, I, ln, ex) = true := by
        obtain ⟨e0, he0, e1⟩ := ab_lk_mem hk
        have hq := ab_P_ok i hi
        unfold ab_chkI at hq
        simp only [Bool.and_eq_true] at hq
        have h1 := List.all_eq_true.mp hq.1.2 e0 he0
        rw [e1] at h1
        exact h1
      have hd0 : decode (ab_Ib i) pc = .ok (I, ln) := by
        have h1 := hchk
        unfold ab_chk at h1
        simp only [Bool.and_eq_true, decide_eq_true_eq] at h1
        exact h1.1.1
      have hd1 : ab_isSw I = false → decode (ab_Ib i) pc = .ok (I, ab_ln I) := by
        intro hsw
        have h1 := hchk
        unfold ab_chk at h1
        simp only [Bool.and_eq_true, decide_eq_true_eq, Bool.or_eq_true] at h1
        rcases h1.1.2 with q | q
        · rw [hsw] at q; cases q
        · rw [← Nat.eq_of_beq_eq_true q]; exact hd0
      have hc2 : _ := hchk
      unfold ab_chk at hc2
      simp only [Bool.and_eq_true] at hc2
      replace hc2 := hc2.2
      have stepc : (((∃ z, I = .invokevirtual z) ∨ (∃ z, I = .invokespecial z) ∨ ∃ z, I = .invokestatic z) → ¬ ex < 9000) → (match ab_step I ex pc L st h M with
          | some ((pc', L', st', h1, M1), φ) => φ ∧ ab_ev ab_P f i pc' L' st' h1 M1 r h' M'
          | none => False) → W p l e R s m args below meth c H locs (h.1 - n0) (h.2.1 - s0) Q (F0 m pc ls (st.map (ab_tv ad))) := by
        intro hcl hm
        split at hm
        · rename_i hs
          have hrel2 := ab_rel_of hi hm.2
          have r1 := hrel2.1
          have r2 := hrel2.2.1
          exact ab_stepW hStr hC (hd1 (ab_isSw_step hs)) hchk hcl hs hm.1 hL hB ⟨by omega, by omega⟩ hfr hwd (fun ls' H' locs' hL' hB' => ih i hi _ _ _ _ _ _ _ _ hm.2 hC hL' hB' hroom hfr hwd K)
        · exact hm.elim
      cases I with
      | ifCond cnd off =>
        have hd := hd1 rfl
        have ht : (pc : Int) + off = (ex : Int) := of_decide_eq_true hc2
        dsimp only at hv
        split at hv
        · have g1 := fun hc => ih i hi _ _ _ _ _ _ _ _ (hv.1 hc) (p := p) (l := l) (e := e) (R := R) (below := below) (Q := Q) hC hL hB hroom hfr hwd K
          have g2 := fun hc => ih i hi _ _ _ _ _ _ _ _ (hv.2 hc) (p := p) (l := l) (e := e) (R := R) (below := below) (Q := Q) hC hL hB hroom hfr hwd K
          cases cnd with
          | eq => exact lv_if_eq hx hb hd ht g1 g2
          | ne => exact lv_if_ne hx hb hd ht g1 (fun q => g2 (fun z => z q))
          | lt => exact lv_if_lt hx hb hd ht g1 g2
          | ge => exact lv_if_ge hx hb hd ht g1 g2
          | gt => exact lv_if_gt hx hb hd ht g1 g2
          | le => exact lv_if_le hx hb hd ht g1 g2
        · exact hv.elim
      | if_icmp cnd off =>
        have hd := hd1 rfl
        have ht : (pc : Int) + off = (ex : Int) := of_decide_eq_true hc2
        dsimp only at hv
        split at hv
        · have g1 := fun hc => ih i hi _ _ _ _ _ _ _ _ (hv.1 hc) (p := p) (l := l) (e := e) (R := R) (below := below) (Q := Q) hC hL hB hroom hfr hwd K
          have g2 := fun hc => ih i hi _ _ _ _ _ _ _ _ (hv.2 hc) (p := p) (l := l) (e := e) (R := R) (below := below) (Q := Q) hC hL hB hroom hfr hwd K
          cases cnd with
          | eq => exact lv_icmp_eq hx hb hd ht g1 g2
          | ne => exact lv_icmp_ne hx hb hd ht g1 (fun q => g2 (fun z => z q))
          | lt => exact lv_icmp_lt hx hb hd ht g1 g2
          | ge => exact lv_icmp_ge hx hb hd ht g1 g2
          | gt => exact lv_icmp_gt hx hb hd ht g1 g2
          | le => exact lv_icmp_le hx hb hd ht g1 g2
        · exact hv.elim
      | tableswitch d lo hi2 offs =>
        dsimp only at hv
        split at hv
        · rename_i x t
          by_cases hc : x.toInt < lo ∨ hi2 < x.toInt
          · obtain ⟨g, hg, hv⟩ := hv.1 hc
            exact lv_tableOut hx hb hd0 hc hg (ih i hi _ _ _ _ _ _ _ _ hv hC hL hB hroom hfr hwd K)
          · obtain ⟨o, g, ho, hg, hv⟩ := hv.2 hc
            exact lv_tableIn hx hb hd0 (fun q => hc (Or.inl q)) (fun q => hc (Or.inr q)) ho hg (ih i hi _ _ _ _ _ _ _ _ hv hC hL hB hroom hfr hwd K)
        · exact hv.elim
      | lookupswitch d ps =>
        dsimp only at hv
        split at hv
        · obtain ⟨g, hp, hg, hv⟩ := hv
          exact lv_lookup hx hb hd0 hp rfl hg (ih i hi _ _ _ _ _ _ _ _ hv hC hL hB hroom hfr hwd K)
        · exact hv.elim
      | ireturn =>
        dsimp only at hv
        split at hv
        · obtain ⟨rfl, rfl, rfl, hrt⟩ := hv
          exact K pc ls H locs .ireturn (hd1 rfl) (Or.inl ⟨rfl, _, rfl, hrt⟩) hB
        · exact hv.elim
      | lreturn =>
        dsimp only at hv
        split at hv
        · obtain ⟨rfl, rfl, rfl, hrt⟩ := hv
          exact K pc ls H locs .lreturn (hd1 rfl) (Or.inr (Or.inl ⟨rfl, _, rfl, hrt⟩)) hB
        · exact hv.elim
      | areturn =>
        dsimp only at hv
        split at hv
        · obtain ⟨rfl, rfl, rfl, hrt⟩ := hv
          exact K pc ls H locs .areturn (hd1 rfl) (Or.inr (Or.inr (Or.inl ⟨rfl, _, rfl, hrt⟩))) hB
        · exact hv.elim
      | return_ =>
        dsimp only at hv
        split at hv
        · obtain ⟨rfl, rfl, rfl, hrt⟩ := hv
          exact K pc ls H locs .return_ (hd1 rfl) (Or.inr (Or.inr (Or.inr ⟨rfl, rfl, hrt⟩))) hB
        · exact hv.elim
      | invokevirtual z =>
        rcases hv with ⟨hlt, j, t, As, a, v, h1, M1, hj, rfl, hln, hfit, hka, hw8, hev1, hev2⟩ | ⟨hge, hm⟩
        · have hd := hd1 rfl
          have hjP : j ∈ ab_P := List.mem_of_getElem? hj
          have hR1 := ab_rel_of hjP hev1
          have hR2 := ab_rel_of hi hev2
          have r1 := hR1.1
          have r2 := hR1.2.1
          have r3 := hR2.1
          have r4 := hR2.2.1
          have hn0 := hB.2.2.2.2.2.1
          have hs0 := hB.2.2.2.2.2.2.1
          have hmet := ab_met ih hjP hfit hev1 hB.2.2.2.2.1 l D cA ad base had
          simp only [Bool.or_eq_true, Bool.and_eq_true, hj] at hc2
          have hc3 : ab_ml.any (fun f => Nat.beq f.1 (ab_Ic i) && Nat.beq f.2.1 z && Nat.beq f.2.2.1 (ex % 1000) && Nat.beq f.2.2.2.1 (ex / 1000) && Nat.beq (f.2.2.2.1 / 2) 0) = true ∧ ab_If j + 1 ≤ ab_If i ∧ 8 + (ab_Il j + 11) + ab_Iw j ≤ ab_Iw i := by
            rcases hc2 with (q | q) | q
            · exact ⟨q.1.2, Nat.le_of_ble_eq_true q.2.1, Nat.le_of_ble_eq_true q.2.2⟩
            · have := Nat.eq_of_beq_eq_true q.1.1.1; omega
            · have := Nat.eq_of_beq_eq_true q.1.1.1; omega
          obtain ⟨c1, c2, c3⟩ := hc3
          obtain ⟨mf, hlk⟩ := ab_ml_get hj (by decide) c1
          obtain ⟨f1, f2, f3, f4, f5, -, -⟩ := mf
          obtain ⟨v1, v2, v3, v4⟩ := f5 rfl
          have hpar := ab_par (j := j) v4 hln
          have h12 : ab_Ic j < 12 := by
            rcases Nat.lt_or_ge (ab_Ic j) 12 with q | q
            · exact q
            · rw [List.getElem?_eq_none q] at v3; cases v3
          obtain ⟨b1, b2, b3⟩ := hB.obj hka h12
          obtain ⟨q0, hq0⟩ : ∃ q, vwCl[ab_Ic j]? = some q := ⟨vwCl[ab_Ic j]'h12, List.getElem?_eq_getElem h12⟩
          have hq1 : q0.1 = (ab_Iy j).cls := by rw [hq0] at v3; exact Option.some.inj v3
          have ha0 : a ≠ 0 := Nat.ne_of_gt b1
          have hrecv := va_recv hK hB.1 hq0 b3
          rw [hq1] at hrecv
          have est : (As.reverse ++ Value.ref a :: t).map (ab_tv ad) = (As.map (ab_tv ad)).reverse ++ .ref (ad a) :: t.map (ab_tv ad) := by
            rw [List.map_append, List.map_cons, List.map_reverse, ab_tv_ref ha0]
          have eav : (Value.ref (ad a) :: As.map (ab_tv ad)) = (Value.ref a :: As).map (ab_tv ad) := by rw [List.map_cons, ab_tv_ref ha0]
          have hpre : PreV s H (ab_Iy j).cls (ad a) (ab_Pre D cA ad base h M (.ref a :: As)) (As.map (ab_tv ad)) := ⟨ab_blind, hrecv, fun U hU hW => by rw [eav]; exact ab_pre hC hB U hU hW⟩
          have hw8' : ((t.map (ab_tv ad)).map fun v => v.category).sum ≤ 8 := by rw [ab_wd_map]; exact hw8
          rw [est]
          rcases hlk with hlk | hlk
          · refine ab_behind ih hi hC hL hB hroom hfr hwd hR1 hev2 K (va_runV (As := As.map (ab_tv ad)) (rest := t.map (ab_tv ad)) ⟨hx, hb, hml, hown, hts⟩ hmet ⟨callB_of As.length hts (ab_goodIn f1) rfl rfl rfl (hts _ (ab_wi_tb _ f2)) (hts _ (ab_wi_tb _ hlk)) ⟨f3, f4, hpar⟩ ⟨Nat.le_trans c2 hfr, Nat.le_trans c3 hwd⟩, hts _ (ab_wi_tb _ v1), hts _ (ab_wi_tb _ v2)⟩ hpre rfl (by rw [List.length_map]) hL.2.1 rfl (lv_room hw8') hd ⟨by omega, by omega⟩)
          · refine ab_behind ih hi hC hL hB hroom hfr hwd hR1 hev2 K (va_runVN (As := As.map (ab_tv ad)) (rest := t.map (ab_tv ad)) ⟨hx, hb, hml, hown, hts⟩ hmet ⟨va_cnB As.length hts (ab_goodIn f1) rfl rfl rfl (hB.2.2.2.2.2.2.2.1 _ hlk) (hts _ (ab_wi_tb _ f2)) ⟨f3, f4, hpar⟩ ⟨Nat.le_trans c2 hfr, Nat.le_trans c3 hwd⟩, hts _ (ab_wi_tb _ v1), hts _ (ab_wi_tb _ v2)⟩ hpre rfl (by rw [List.length_map]) hL.2.1 rfl (lv_room hw8') hd ⟨by omega, by omega⟩)
        · exact stepc (fun _ => hge) hm
      | invokespecial z =>
        rcases hv with ⟨hlt, j, t, As, a, v, h1, M1, hj, rfl, hln, hfit, ha0, hw8, hev1, hev2⟩ | ⟨hge, hm⟩
        · have hd := hd1 rfl
          have hjP : j ∈ ab_P := List.mem_of_getElem? hj
          have hR1 := ab_rel_of hjP hev1
          have hR2 := ab_rel_of hi hev2
          have r1 := hR1.1
          have r2 := hR1.2.1
          have r3 := hR2.1
          have r4 := hR2.2.1
          have hn0 := hB.2.2.2.2.2.1
          have hs0 := hB.2.2.2.2.2.2.1
          have hmet := ab_met ih hjP hfit hev1 hB.2.2.2.2.1 l D cA ad base had
          simp only [Bool.or_eq_true, Bool.and_eq_true, hj] at hc2
          have hc3 : ab_ml.any (fun f => Nat.beq f.1 (ab_Ic i) && Nat.beq f.2.1 z && Nat.beq f.2.2.1 (ex % 1000) && Nat.beq f.2.2.2.1 (ex / 1000) && Nat.beq (f.2.2.2.1 / 2) 2) = true ∧ ab_If j + 1 ≤ ab_If i ∧ 8 + (ab_Il j + 11) + ab_Iw j ≤ ab_Iw i := by
            rcases hc2 with q | q
            · have := Nat.eq_of_beq_eq_true q.1.1.1; omega
            · exact ⟨q.1.2, Nat.le_of_ble_eq_true q.2.1, Nat.le_of_ble_eq_true q.2.2⟩
          obtain ⟨c1, c2, c3⟩ := hc3
          obtain ⟨mf, hlk⟩ := ab_ml_get hj (by decide) c1
          obtain ⟨f1, f2, f3, f4, -, -, f5⟩ := mf
          obtain ⟨v1, v2, v3, v4⟩ := f5 rfl
          have hpar := ab_par (j := j) v4 hln
          have est : (As.reverse ++ Value.ref a :: t).map (ab_tv ad) = (As.map (ab_tv ad)).reverse ++ .ref (ad a) :: t.map (ab_tv ad) := by
            rw [List.map_append, List.map_cons, List.map_reverse, ab_tv_ref ha0]
          have eav : (Value.ref (ad a) :: As.map (ab_tv ad)) = (Value.ref a :: As).map (ab_tv ad) := by rw [List.map_cons, ab_tv_ref ha0]
          have hpre : PreS s H (ab_Pre D cA ad base h M (.ref a :: As)) (.ref (ad a) :: As.map (ab_tv ad)) := ⟨ab_blind, fun U hU hW => by rw [eav]; exact ab_pre hC hB U hU hW⟩
          have hw8' : ((t.map (ab_tv ad)).map fun v => v.category).sum ≤ 8 := by rw [ab_wd_map]; exact hw8
          have hwj : ab_wi j = Cond.code (ab_Iy j) (ab_Ib j) (ab_Il j) none :: ab_tb := by unfold ab_wi; rw [v3]
          rw [est]
          rcases hlk with hlk | hlk
          · refine ab_behind ih hi hC hL hB hroom hfr hwd hR1 hev2 K (va_runI (As := As.map (ab_tv ad)) (rest := t.map (ab_tv ad)) ⟨hx, hb, hml, hown, hts⟩ hmet ⟨callB_of As.length hts (ab_goodIn f1) hwj rfl rfl (hts _ (ab_wi_tb _ f2)) (hts _ (ab_wi_tb _ hlk)) ⟨f3, f4, hpar⟩ ⟨Nat.le_trans c2 hfr, Nat.le_trans c3 hwd⟩, v2, hts _ (ab_wi_tb _ v1)⟩ hpre rfl (by rw [List.length_map]) hL.2.1 rfl (lv_room hw8') hd ⟨by omega, by omega⟩)
          · refine ab_behind ih hi hC hL hB hroom hfr hwd hR1 hev2 K (va_runIN (As := As.map (ab_tv ad)) (rest := t.map (ab_tv ad)) ⟨hx, hb, hml, hown, hts⟩ hmet ⟨va_cnB As.length hts (ab_goodIn f1) hwj rfl rfl (hB.2.2.2.2.2.2.2.1 _ hlk) (hts _ (ab_wi_tb _ f2)) ⟨f3, f4, hpar⟩ ⟨Nat.le_trans c2 hfr, Nat.le_trans c3 hwd⟩, v2, hts _ (ab_wi_tb _ v1)⟩ hpre rfl (by rw [List.length_map]) hL.2.1 rfl (lv_room hw8') hd ⟨by omega, by omega⟩)
        · exact stepc (fun _ => hge) hm
      | invokestatic z =>
        rcases hv with ⟨hlt, j, t, As, v, h1, M1, hj, rfl, hln, hfit, hw8, hev1, hev2⟩ | ⟨hge, hm⟩
        · have hd := hd1 rfl
          have hjP : j ∈ ab_P := List.mem_of_getElem? hj
          have hR1 := ab_rel_of hjP hev1
          have hR2 := ab_rel_of hi hev2
          have r1 := hR1.1
          have r2 := hR1.2.1
          have r3 := hR2.1
          have r4 := hR2.2.1
          have hn0 := hB.2.2.2.2.2.1
          have hs0 := hB.2.2.2.2.2.2.1
          have hmet := ab_met ih hjP hfit hev1 hB.2.2.2.2.1 l D cA ad base had
          simp only [Bool.or_eq_true, Bool.and_eq_true, hj] at hc2
          have hc3 : ab_ml.any (fun f => Nat.beq f.1 (ab_Ic i) && Nat.beq f.2.1 z && Nat.beq f.2.2.1 (ex % 1000) && Nat.beq f.2.2.2.1 (ex / 1000) && Nat.beq (f.2.2.2.1 / 2) 1) = true ∧ ab_If j + 1 ≤ ab_If i ∧ 8 + (ab_Il j + 11) + ab_Iw j ≤ ab_Iw i := by
            rcases hc2 with ((q | q) | q) | q
            · exact ⟨q.1.2, Nat.le_of_ble_eq_true q.2.1, Nat.le_of_ble_eq_true q.2.2⟩
            · have := Nat.eq_of_beq_eq_true q.1.1.1; omega
            · have := Nat.eq_of_beq_eq_true q.1.1.1; omega
            · have := Nat.eq_of_beq_eq_true q.1.1.1; omega
          obtain ⟨c1, c2, c3⟩ := hc3
          obtain ⟨mf, hlk⟩ := ab_ml_get hj (by decide) c1
          obtain ⟨f1, f2, f3, f4, -, f5, -⟩ := mf
          obtain ⟨v1, v2⟩ := f5 rfl
          rw [← hln] at v2
          have est : (As.reverse ++ t).map (ab_tv ad) = (As.map (ab_tv ad)).reverse ++ t.map (ab_tv ad) := by
            rw [List.map_append, List.map_reverse]
          have hpre : PreS s H (ab_Pre D cA ad base h M As) (As.map (ab_tv ad)) := ⟨ab_blind, fun U hU hW => ab_pre hC hB U hU hW⟩
          have hw8' : ((t.map (ab_tv ad)).map fun v => v.category).sum ≤ 8 := by rw [ab_wd_map]; exact hw8
          rw [est]
          rcases hlk with hlk | hlk
          · refine ab_behind ih hi hC hL hB hroom hfr hwd hR1 hev2 K (va_runS (As := As.map (ab_tv ad)) (rest := t.map (ab_tv ad)) ⟨hx, hb, hml, hown, hts⟩ hmet ⟨callB_of As.length hts (ab_goodIn f1) rfl rfl rfl (hts _ (ab_wi_tb _ f2)) (hts _ (ab_wi_tb _ hlk)) ⟨f3, f4, v2⟩ ⟨Nat.le_trans c2 hfr, Nat.le_trans c3 hwd⟩, hts _ (ab_wi_tb _ v1)⟩ hpre rfl (by rw [List.length_map]) hL.2.1 rfl (lv_room hw8') hd ⟨by omega, by omega⟩)
          · refine ab_behind ih hi hC hL hB hroom hfr hwd hR1 hev2 K (va_runSN (As := As.map (ab_tv ad)) (rest := t.map (ab_tv ad)) ⟨hx, hb, hml, hown, hts⟩ hmet ⟨va_cnB As.length hts (ab_goodIn f1) rfl rfl rfl (hB.2.2.2.2.2.2.2.1 _ hlk) (hts _ (ab_wi_tb _ f2)) ⟨f3, f4, v2⟩ ⟨Nat.le_trans c2 hfr, Nat.le_trans c3 hwd⟩, hts _ (ab_wi_tb _ v1), trivial⟩ hpre rfl (by rw [List.length_map]) hL.2.1 rfl (lv_room hw8') hd ⟨by omega, by omega⟩)
        · exact stepc (fun _ => hge) hm
      | _ => exact stepc (by rintro (⟨z, hz⟩ | ⟨z, hz⟩ | ⟨z, hz⟩) <;> cases hz) hv
