
/-! ===== the line one, on ===== -/
/-- what a line's middle may have changed -/
def oB (o : Nat) (M : ab_M) (I : Nat → Nat → Int32) : Prop := (∀ a, a ≠ 4 → (a < o ∨ o + 3 ≤ a) → I a = M.1 a) ∧ I 4 3 = M.1 4 3 ∧ I 4 4 = M.1 4 4 ∧ I 4 9 = M.1 4 9
theorem oB_rd4 {o : Nat} {M : ab_M} {I I' : Nat → Nat → Int32} (h : oB o M I) (f : rd4 I I') (h3 : I' 4 3 = I 4 3) (h4 : I' 4 4 = I 4 4) (h9 : I' 4 9 = I 4 9) : oB o M I' := ⟨fun a x y => by rw [f a x]; exact h.1 a x y, by rw [h3]; exact h.2.1, by rw [h4]; exact h.2.2.1, by rw [h9]; exact h.2.2.2⟩
theorem oB_in {o : Nat} {M : ab_M} {I I' : Nat → Nat → Int32} (ho : 5 < o) (h : oB o M I) (f : ∀ a, (a < o ∨ o + 3 ≤ a) → I' a = I a) : oB o M I' := ⟨fun a x y => by rw [f a y]; exact h.1 a x y, by rw [f 4 (by omega)]; exact h.2.1, by rw [f 4 (by omega)]; exact h.2.2.1, by rw [f 4 (by omega)]; exact h.2.2.2⟩
theorem oB_fr {t o : Nat} {M : ab_M} {I : Nat → Nat → Int32} (ho : t ≤ o ∧ o + 3 ≤ t + 43) (h : oB o M I) : fr t M.1 I := fun a x y z => h.1 a x (by omega)
theorem oB_err {t o : Nat} {M : ab_M} {I I1 : Nat → Nat → Int32} {q : Nat × Nat} (ho : t ≤ o ∧ o + 3 ≤ t + 43) (h : oB o M I) (f : rd4 I I1) (h9 : I1 4 9 = nI q.1) (h10 : I1 4 10 = nI q.2) : ln_p t M (.error q) (some (.int (pr_b false))) (I1, M.2) := ln_err (fr_trans (oB_fr ho h) (fr_rd4 f)) h9 h10
theorem oB_tp {o : Nat} {M : ab_M} {I : Nat → Nat → Int32} {w : List Nat} (ho : 5 < o) (h : oB o M I) (hw : tp_v M.1 w) : tp_v I w := tp_v_congr (h.1 2 (by decide) (by omega)) (h.1 3 (by decide) (by omega)) hw
set_option maxHeartbeats 4000000 in
theorem c_one5 {t o p : Nat} {k d m : Nat} {nm : List Nat} {w : List Nat} {P : PS} (h : ab_H) (M : ab_M) (ht5 : 5 < t) (hr : pr_Rd h M.2.2 t) (ht : pr_Tl h M.2.2 t) (hw : tp_v M.1 w) (hps : ps_v M.1 t P) (h8 : P.1.1.2.1.length < 8) (ho : o = t + 1 + 3 + 3 * P.1.1.2.1.length) (hk : k ≤ 4) (hd : d ≤ 99) (hm : m ≤ 99) (I : Nat → Nat → Int32) (hB : oB o M I) (i1 : I o 1 = nI k) (i2 : I o 2 = nI d) (inm : nm_v I (o + 1) nm) (i8 : I 4 8 = nI m) (i5 : I 4 5 = nI p) (hp : p ≤ w.length) : pr_T pX6_tellOne 96 [some (.ref 4), some (.ref (t + 1)), some (.ref o)] [] h (I, M.2) (ln_p t M (thenSemi w (pOne P k d m nm) p)) := by
  obtain ⟨k4, r0, r1, r2, ⟨k2, s0, k3, l3⟩, k5, l5⟩ := id hr
  obtain ⟨t0, t1, tr0, tr1, tr2, tr3, hg, -⟩ := id ht
  obtain ⟨g0, g1, -, -, -, -, -, hon⟩ := id hg
  have n4 : (4 : Nat) ≠ 0 := by decide
  obtain ⟨p1, p2, p3, p4⟩ := id hps
  have hpo := (hon _ h8).2
  rw [← ho] at hpo
  have o0 := hpo.1
  have o1 := hpo.2.1
  have xs : ab_u I o 3 (nI m) (t + 1) 2 = nI P.1.1.2.1.length := by rw [ab_u_ne (by omega), hB.1 _ (by omega) (by omega)]; exact p1.1.1
  have hI : ∀ a, a ≠ o → a ≠ t + 1 → ab_u (ab_u I o 3 (nI m)) (t + 1) 2 (nI (P.1.1.2.1.length + 1)) a = I a := fun a x y => by rw [ab_u_ne y, ab_u_ne x]
  have y1 : ab_u (ab_u I o 3 (nI m)) (t + 1) 2 (nI (P.1.1.2.1.length + 1)) o 1 = nI k := by rw [ab_u_ne (by omega), ab_u_j (by decide)]; exact i1
  have y2 : ab_u (ab_u I o 3 (nI m)) (t + 1) 2 (nI (P.1.1.2.1.length + 1)) o 2 = nI d := by rw [ab_u_ne (by omega), ab_u_j (by decide)]; exact i2
  have y3 : ab_u (ab_u I o 3 (nI m)) (t + 1) 2 (nI (P.1.1.2.1.length + 1)) o 3 = nI m := by rw [ab_u_ne (by omega), ab_u_at]
  have z2 : ab_u (ab_u I o 3 (nI m)) (t + 1) 2 (nI (P.1.1.2.1.length + 1)) (t + 1) 2 = nI (P.1.1.2.1.length + 1) := ab_u_at
  have z3 : ab_u (ab_u I o 3 (nI m)) (t + 1) 2 (nI (P.1.1.2.1.length + 1)) (t + 1) 3 = M.1 (t + 1) 3 := by rw [ab_u_j (by decide), ab_u_ne (by omega), hB.1 _ (by omega) (by omega)]
  have z4 : ab_u (ab_u I o 3 (nI m)) (t + 1) 2 (nI (P.1.1.2.1.length + 1)) (t + 1) 4 = M.1 (t + 1) 4 := by rw [ab_u_j (by decide), ab_u_ne (by omega), hB.1 _ (by omega) (by omega)]
  have hfin : ab_u (ab_u I o 3 (nI m)) (t + 1) 2 (nI P.1.1.2.1.length + 1) = ab_u (ab_u I o 3 (nI m)) (t + 1) 2 (nI (P.1.1.2.1.length + 1)) := by rw [nI_1]
  have hpush : ld_v (ab_u (ab_u I o 3 (nI m)) (t + 1) 2 (nI (P.1.1.2.1.length + 1))) (t + 1) (P.1.1.1, P.1.1.2.1 ++ [(k, d, m, nm)], P.1.1.2.2) := by
    refine ld_push p1.1 h8 (fun a x1 x2 x3 => ?_) z2 z3 z4 ?_
    · rw [hI a (by omega) (by omega)]
      exact hB.1 a (by omega) (by omega)
    · rw [← ho]
      exact ⟨y1, hk, y2, hd, y3, hm, nm_v_congr (hI _ (by omega) (by omega)) (hI _ (by omega) (by omega)) inm⟩
  have hps2 : ps_v (ab_u (ab_u I o 3 (nI m)) (t + 1) 2 (nI (P.1.1.2.1.length + 1))) t (pOne P k d m nm) := ⟨td_land p1 (fun a x1 x2 x3 => by rw [hI a (by omega) (by omega)]; exact hB.1 a (by omega) (by omega)) hpush, by rw [hI 4 (by omega) (by omega), hB.2.1]; exact p2, by rw [hI 4 (by omega) (by omega), hB.2.2.1]; exact p3, fun l hl => by rw [hI 5 (by omega) (by omega), hB.1 5 (by decide) (by omega)]; exact p4 l hl⟩
  have hsemi := c_semi (p := p) (M := M) h (ab_u (ab_u I o 3 (nI m)) (t + 1) 2 (nI (P.1.1.2.1.length + 1))) ht5 hr (tp_v_congr (hI 2 (by omega) (by omega)) (hI 3 (by omega) (by omega)) (oB_tp (by omega) hB hw)) (by rw [hI 4 (by omega) (by omega)]; exact i5) hp hps2 (by rw [hI 4 (by omega) (by omega)]; exact hB.2.2.2) (fun a x y z => by rw [hI a (by omega) (by omega)]; exact hB.1 a x (by omega))
  refine pr_seqT (pc' := 114) 10 rfl ⟨⟨⟨⟨⟨⟨⟨⟨⟨⟨trivial, (by first | assumption | (simp only [i8, xs, pr_8_10, pr_8_8, pr_8_99, pr_i_0, pr_i_1, pr_i_5]; first | assumption | decide | exact ⟨by assumption, by assumption⟩ | exact ⟨Or.inl (by assumption), by assumption⟩ | omega) | decide | exact ⟨Or.inl (by assumption), by assumption⟩ | exact ⟨by assumption, by assumption⟩ | omega)⟩, (by first | assumption | (simp only [i8, xs, pr_8_10, pr_8_8, pr_8_99, pr_i_0, pr_i_1, pr_i_5]; first | assumption | decide | exact ⟨by assumption, by assumption⟩ | exact ⟨Or.inl (by assumption), by assumption⟩ | omega) | decide | exact ⟨Or.inl (by assumption), by assumption⟩ | exact ⟨by assumption, by assumption⟩ | omega)⟩, (by first | assumption | (simp only [i8, xs, pr_8_10, pr_8_8, pr_8_99, pr_i_0, pr_i_1, pr_i_5]; first | assumption | decide | exact ⟨by assumption, by assumption⟩ | exact ⟨Or.inl (by assumption), by assumption⟩ | omega) | decide | exact ⟨Or.inl (by assumption), by assumption⟩ | exact ⟨by assumption, by assumption⟩ | omega)⟩, (by first | assumption | (simp only [i8, xs, pr_8_10, pr_8_8, pr_8_99, pr_i_0, pr_i_1, pr_i_5]; first | assumption | decide | exact ⟨by assumption, by assumption⟩ | exact ⟨Or.inl (by assumption), by assumption⟩ | omega) | decide | exact ⟨Or.inl (by assumption), by assumption⟩ | exact ⟨by assumption, by assumption⟩ | omega)⟩, (by first | assumption | (simp only [i8, xs, pr_8_10, pr_8_8, pr_8_99, pr_i_0, pr_i_1, pr_i_5]; first | assumption | decide | exact ⟨by assumption, by assumption⟩ | exact ⟨Or.inl (by assumption), by assumption⟩ | omega) | decide | exact ⟨Or.inl (by assumption), by assumption⟩ | exact ⟨by assumption, by assumption⟩ | omega)⟩, trivial⟩, (by first | assumption | (simp only [i8, xs, pr_8_10, pr_8_8, pr_8_99, pr_i_0, pr_i_1, pr_i_5]; first | assumption | decide | exact ⟨by assumption, by assumption⟩ | exact ⟨Or.inl (by assumption), by assumption⟩ | omega) | decide | exact ⟨Or.inl (by assumption), by assumption⟩ | exact ⟨by assumption, by assumption⟩ | omega)⟩, trivial⟩, trivial⟩, (by first | assumption | (simp only [i8, xs, pr_8_10, pr_8_8, pr_8_99, pr_i_0, pr_i_1, pr_i_5]; first | assumption | decide | exact ⟨by assumption, by assumption⟩ | exact ⟨Or.inl (by assumption), by assumption⟩ | omega) | decide | exact ⟨Or.inl (by assumption), by assumption⟩ | exact ⟨by assumption, by assumption⟩ | omega)⟩ ?_
  try simp only [i8, xs, pr_8_10, pr_8_8, pr_8_99, pr_i_0, pr_i_1, pr_i_5]
  (try simp only [hfin]); exact pr_seqT 1 rfl ⟨trivial, n4⟩ (pr_cvX [] rfl rfl rfl rfl rfl (Nat.le_of_ble_eq_true rfl) k4 (Nat.le_of_ble_eq_true rfl) hsemi (fun v48 M48 q48 => by obtain ⟨rfl, q48⟩ := q48; exact pr_irT rfl (pr_b01 _) ⟨rfl, q48⟩))
set_option maxHeartbeats 4000000 in
theorem c_tellOne {t p s : Nat} {w : List Nat} {P : PS} (h : ab_H) (M : ab_M) (ht5 : 5 < t) (hr : pr_Rd h M.2.2 t) (ht : pr_Tl h M.2.2 t) (hw : tp_v M.1 w) (hps : ps_v M.1 t P) (g5 : M.1 4 5 = nI p) (g7 : M.1 4 7 = nI s) (hp : p ≤ w.length) : pr_X pX6_tellOne [.ref 4] h M (ln_p t M (lnOne w P s p)) := by
  obtain ⟨k4, r0, r1, r2, ⟨k2, s0, k3, l3⟩, k5, l5⟩ := id hr
  obtain ⟨t0, t1, tr0, tr1, tr2, tr3, hg, -⟩ := id ht
  obtain ⟨g0, g1, sg1, sg2, m1, m2, ⟨m3, m4⟩, hon⟩ := id hg
  have n4 : (4 : Nat) ≠ 0 := by decide
  obtain ⟨p1, p2, p3, p4⟩ := id hps
  have d1 := p1.1.1
  have d2 := p1.1.2.1
  unfold lnOne
  by_cases c8 : 8 ≤ P.1.1.2.1.length
  · rw [if_pos c8]
    have e1 : ¬ nI P.1.1.2.1.length < 8 := fun q => by
      have := (nI_ltI (a := P.1.1.2.1.length) (b := 8) (by omega) (by omega)).mp q
      omega
    refine pr_seqT (pc' := 14) 7 rfl ⟨⟨⟨⟨⟨⟨⟨trivial, (by first | assumption | (simp only [r2, tr0, d1, g7, pr_8_10, pr_8_8, pr_8_99, pr_i_0, pr_i_1, pr_i_5]; first | assumption | decide | exact ⟨by assumption, by assumption⟩ | exact ⟨Or.inl (by assumption), by assumption⟩ | omega) | decide | exact ⟨Or.inl (by assumption), by assumption⟩ | exact ⟨by assumption, by assumption⟩ | omega)⟩, (by first | assumption | (simp only [r2, tr0, d1, g7, pr_8_10, pr_8_8, pr_8_99, pr_i_0, pr_i_1, pr_i_5]; first | assumption | decide | exact ⟨by assumption, by assumption⟩ | exact ⟨Or.inl (by assumption), by assumption⟩ | omega) | decide | exact ⟨Or.inl (by assumption), by assumption⟩ | exact ⟨by assumption, by assumption⟩ | omega)⟩, (by first | assumption | (simp only [r2, tr0, d1, g7, pr_8_10, pr_8_8, pr_8_99, pr_i_0, pr_i_1, pr_i_5]; first | assumption | decide | exact ⟨by assumption, by assumption⟩ | exact ⟨Or.inl (by assumption), by assumption⟩ | omega) | decide | exact ⟨Or.inl (by assumption), by assumption⟩ | exact ⟨by assumption, by assumption⟩ | omega)⟩, (by first | assumption | (simp only [r2, tr0, d1, g7, pr_8_10, pr_8_8, pr_8_99, pr_i_0, pr_i_1, pr_i_5]; first | assumption | decide | exact ⟨by assumption, by assumption⟩ | exact ⟨Or.inl (by assumption), by assumption⟩ | omega) | decide | exact ⟨Or.inl (by assumption), by assumption⟩ | exact ⟨by assumption, by assumption⟩ | omega)⟩, (by first | assumption | (simp only [r2, tr0, d1, g7, pr_8_10, pr_8_8, pr_8_99, pr_i_0, pr_i_1, pr_i_5]; first | assumption | decide | exact ⟨by assumption, by assumption⟩ | exact ⟨Or.inl (by assumption), by assumption⟩ | omega) | decide | exact ⟨Or.inl (by assumption), by assumption⟩ | exact ⟨by assumption, by assumption⟩ | omega)⟩, (by first | assumption | (simp only [r2, tr0, d1, g7, pr_8_10, pr_8_8, pr_8_99, pr_i_0, pr_i_1, pr_i_5]; first | assumption | decide | exact ⟨by assumption, by assumption⟩ | exact ⟨Or.inl (by assumption), by assumption⟩ | omega) | decide | exact ⟨Or.inl (by assumption), by assumption⟩ | exact ⟨by assumption, by assumption⟩ | omega)⟩, trivial⟩ ?_
    try simp only [r2, tr0, d1, g7, pr_8_10, pr_8_8, pr_8_99, pr_i_0, pr_i_1, pr_i_5]
    refine pr_icT rfl (fun h14 => ?_) (fun h14 => ?_)
    · simp only [ab_cmp, pr_8_10, pr_8_8, pr_8_99, pr_i_0, pr_i_1, pr_i_5] at h14
      first
      | contradiction
      | exact absurd trivial h14
      | exact absurd h14 (by decide)
      | exact absurd (Classical.not_not.mp h14) (by decide)
      | skip
        fail
    · simp only [ab_cmp, pr_8_10, pr_8_8, pr_8_99, pr_i_0, pr_i_1, pr_i_5] at h14
      first
      | contradiction
      | exact absurd trivial h14
      | exact absurd h14 (by decide)
      | exact absurd (Classical.not_not.mp h14) (by decide)
      | skip
        refine pr_seqT (pc' := 23) 4 rfl ⟨⟨⟨⟨trivial, (by first | assumption | (simp only [r2, tr0, d1, g7, pr_8_10, pr_8_8, pr_8_99, pr_i_0, pr_i_1, pr_i_5]; first | assumption | decide | exact ⟨by assumption, by assumption⟩ | exact ⟨Or.inl (by assumption), by assumption⟩ | omega) | decide | exact ⟨Or.inl (by assumption), by assumption⟩ | exact ⟨by assumption, by assumption⟩ | omega)⟩, trivial⟩, (by first | assumption | (simp only [r2, tr0, d1, g7, pr_8_10, pr_8_8, pr_8_99, pr_i_0, pr_i_1, pr_i_5]; first | assumption | decide | exact ⟨by assumption, by assumption⟩ | exact ⟨Or.inl (by assumption), by assumption⟩ | omega) | decide | exact ⟨Or.inl (by assumption), by assumption⟩ | exact ⟨by assumption, by assumption⟩ | omega)⟩, (by first | assumption | (simp only [r2, tr0, d1, g7, pr_8_10, pr_8_8, pr_8_99, pr_i_0, pr_i_1, pr_i_5]; first | assumption | decide | exact ⟨by assumption, by assumption⟩ | exact ⟨Or.inl (by assumption), by assumption⟩ | omega) | decide | exact ⟨Or.inl (by assumption), by assumption⟩ | exact ⟨by assumption, by assumption⟩ | omega)⟩ ?_
        try simp only [r2, tr0, d1, g7, pr_8_10, pr_8_8, pr_8_99, pr_i_0, pr_i_1, pr_i_5]
        refine pr_cvT [_, _] rfl rfl rfl rfl rfl (Nat.le_of_ble_eq_true rfl) (by first | assumption | (simp only [r2, tr0, d1, g7, pr_8_10, pr_8_8, pr_8_99, pr_i_0, pr_i_1, pr_i_5]; first | assumption | decide | exact ⟨by assumption, by assumption⟩ | exact ⟨Or.inl (by assumption), by assumption⟩ | omega) | decide | exact ⟨Or.inl (by assumption), by assumption⟩ | exact ⟨by assumption, by assumption⟩ | omega) (Nat.le_of_ble_eq_true rfl) (c_refuse 5 (nI s) h M k4) ?_
        exact pr_irT rfl (by first | exact Or.inl rfl | exact Or.inr rfl | exact pr_b01 _ | assumption) (by exact ln_ref (c := 5) (fun _ _ _ _ => rfl))
  · rw [if_neg c8]
    have h8 : P.1.1.2.1.length < 8 := by omega
    have e1 : nI P.1.1.2.1.length < 8 := (nI_ltI (a := P.1.1.2.1.length) (b := 8) (by omega) (by omega)).mpr h8
    have e3 : (nI P.1.1.2.1.length).toNatClampNeg = P.1.1.2.1.length := nI_clamp (by omega)
    obtain ⟨y1, hpo⟩ := hon _ h8
    have vi : (24 ≤ ab_k h (t + 1 + 2) ∧ ab_k h (t + 1 + 2) ≤ 27) ∧ vp_in (nI P.1.1.2.1.length) (ab_n h (t + 1 + 2)) := ⟨by rw [m3]; decide, by rw [m4]; exact vp_in_nI (by omega) (by decide)⟩
    have c5 := fun (k d m : Nat) (nm : List Nat) (p' : Nat) => c_one5 (o := t + 1 + 3 + 3 * P.1.1.2.1.length) (k := k) (d := d) (m := m) (nm := nm) (p := p') h M ht5 hr ht hw hps h8 rfl
    generalize hO : t + 1 + 3 + 3 * P.1.1.2.1.length = o at *
    have ho : 5 < o := by omega
    have hoo : t ≤ o ∧ o + 3 ≤ t + 43 := by omega
    obtain ⟨o0, o1, o2, o3⟩ := id hpo
    have nn0 := o3.1
    have nn1 := o3.2.1
    have hki := c_takeKind (o := o) h M hr hw g5 hp ho o1
    cases he : tKind w p with
    | error q =>
      rw [he] at hki
      refine pr_seqT (pc' := 14) 7 rfl ⟨⟨⟨⟨⟨⟨⟨trivial, (by first | assumption | (simp only [r2, tr0, sg2, d1, e3, y1, pr_8_10, pr_8_8, pr_8_99, pr_i_0, pr_i_1, pr_i_5]; first | assumption | decide | exact ⟨by assumption, by assumption⟩ | exact ⟨Or.inl (by assumption), by assumption⟩ | omega) | decide | exact ⟨Or.inl (by assumption), by assumption⟩ | exact ⟨by assumption, by assumption⟩ | omega)⟩, (by first | assumption | (simp only [r2, tr0, sg2, d1, e3, y1, pr_8_10, pr_8_8, pr_8_99, pr_i_0, pr_i_1, pr_i_5]; first | assumption | decide | exact ⟨by assumption, by assumption⟩ | exact ⟨Or.inl (by assumption), by assumption⟩ | omega) | decide | exact ⟨Or.inl (by assumption), by assumption⟩ | exact ⟨by assumption, by assumption⟩ | omega)⟩, (by first | assumption | (simp only [r2, tr0, sg2, d1, e3, y1, pr_8_10, pr_8_8, pr_8_99, pr_i_0, pr_i_1, pr_i_5]; first | assumption | decide | exact ⟨by assumption, by assumption⟩ | exact ⟨Or.inl (by assumption), by assumption⟩ | omega) | decide | exact ⟨Or.inl (by assumption), by assumption⟩ | exact ⟨by assumption, by assumption⟩ | omega)⟩, (by first | assumption | (simp only [r2, tr0, sg2, d1, e3, y1, pr_8_10, pr_8_8, pr_8_99, pr_i_0, pr_i_1, pr_i_5]; first | assumption | decide | exact ⟨by assumption, by assumption⟩ | exact ⟨Or.inl (by assumption), by assumption⟩ | omega) | decide | exact ⟨Or.inl (by assumption), by assumption⟩ | exact ⟨by assumption, by assumption⟩ | omega)⟩, (by first | assumption | (simp only [r2, tr0, sg2, d1, e3, y1, pr_8_10, pr_8_8, pr_8_99, pr_i_0, pr_i_1, pr_i_5]; first | assumption | decide | exact ⟨by assumption, by assumption⟩ | exact ⟨Or.inl (by assumption), by assumption⟩ | omega) | decide | exact ⟨Or.inl (by assumption), by assumption⟩ | exact ⟨by assumption, by assumption⟩ | omega)⟩, (by first | assumption | (simp only [r2, tr0, sg2, d1, e3, y1, pr_8_10, pr_8_8, pr_8_99, pr_i_0, pr_i_1, pr_i_5]; first | assumption | decide | exact ⟨by assumption, by assumption⟩ | exact ⟨Or.inl (by assumption), by assumption⟩ | omega) | decide | exact ⟨Or.inl (by assumption), by assumption⟩ | exact ⟨by assumption, by assumption⟩ | omega)⟩, trivial⟩ ?_
      try simp only [r2, tr0, sg2, d1, e3, y1, pr_8_10, pr_8_8, pr_8_99, pr_i_0, pr_i_1, pr_i_5]
      refine pr_icT rfl (fun h14 => ?_) (fun h14 => ?_)
      · simp only [ab_cmp, pr_8_10, pr_8_8, pr_8_99, pr_i_0, pr_i_1, pr_i_5] at h14
        first
        | contradiction
        | exact absurd trivial h14
        | exact absurd h14 (by decide)
        | exact absurd (Classical.not_not.mp h14) (by decide)
        | skip
          refine pr_seqT (pc' := 39) 8 rfl ⟨⟨⟨⟨⟨⟨⟨⟨trivial, (by first | assumption | (simp only [r2, tr0, sg2, d1, e3, y1, pr_8_10, pr_8_8, pr_8_99, pr_i_0, pr_i_1, pr_i_5]; first | assumption | decide | exact ⟨by assumption, by assumption⟩ | exact ⟨Or.inl (by assumption), by assumption⟩ | omega) | decide | exact ⟨Or.inl (by assumption), by assumption⟩ | exact ⟨by assumption, by assumption⟩ | omega)⟩, (by first | assumption | (simp only [r2, tr0, sg2, d1, e3, y1, pr_8_10, pr_8_8, pr_8_99, pr_i_0, pr_i_1, pr_i_5]; first | assumption | decide | exact ⟨by assumption, by assumption⟩ | exact ⟨Or.inl (by assumption), by assumption⟩ | omega) | decide | exact ⟨Or.inl (by assumption), by assumption⟩ | exact ⟨by assumption, by assumption⟩ | omega)⟩, (by first | assumption | (simp only [r2, tr0, sg2, d1, e3, y1, pr_8_10, pr_8_8, pr_8_99, pr_i_0, pr_i_1, pr_i_5]; first | assumption | decide | exact ⟨by assumption, by assumption⟩ | exact ⟨Or.inl (by assumption), by assumption⟩ | omega) | decide | exact ⟨Or.inl (by assumption), by assumption⟩ | exact ⟨by assumption, by assumption⟩ | omega)⟩, (by first | assumption | (simp only [r2, tr0, sg2, d1, e3, y1, pr_8_10, pr_8_8, pr_8_99, pr_i_0, pr_i_1, pr_i_5]; first | assumption | decide | exact ⟨by assumption, by assumption⟩ | exact ⟨Or.inl (by assumption), by assumption⟩ | omega) | decide | exact ⟨Or.inl (by assumption), by assumption⟩ | exact ⟨by assumption, by assumption⟩ | omega)⟩, (by first | assumption | (simp only [r2, tr0, sg2, d1, e3, y1, pr_8_10, pr_8_8, pr_8_99, pr_i_0, pr_i_1, pr_i_5]; first | assumption | decide | exact ⟨by assumption, by assumption⟩ | exact ⟨Or.inl (by assumption), by assumption⟩ | omega) | decide | exact ⟨Or.inl (by assumption), by assumption⟩ | exact ⟨by assumption, by assumption⟩ | omega)⟩, (by first | assumption | (simp only [r2, tr0, sg2, d1, e3, y1, pr_8_10, pr_8_8, pr_8_99, pr_i_0, pr_i_1, pr_i_5]; first | assumption | decide | exact ⟨by assumption, by assumption⟩ | exact ⟨Or.inl (by assumption), by assumption⟩ | omega) | decide | exact ⟨Or.inl (by assumption), by assumption⟩ | exact ⟨by assumption, by assumption⟩ | omega)⟩, (by first | assumption | (simp only [r2, tr0, sg2, d1, e3, y1, pr_8_10, pr_8_8, pr_8_99, pr_i_0, pr_i_1, pr_i_5]; first | assumption | decide | exact ⟨by assumption, by assumption⟩ | exact ⟨Or.inl (by assumption), by assumption⟩ | omega) | decide | exact ⟨Or.inl (by assumption), by assumption⟩ | exact ⟨by assumption, by assumption⟩ | omega)⟩, (by first | assumption | (simp only [r2, tr0, sg2, d1, e3, y1, pr_8_10, pr_8_8, pr_8_99, pr_i_0, pr_i_1, pr_i_5]; first | assumption | decide | exact ⟨by assumption, by assumption⟩ | exact ⟨Or.inl (by assumption), by assumption⟩ | omega) | decide | exact ⟨Or.inl (by assumption), by assumption⟩ | exact ⟨by assumption, by assumption⟩ | omega)⟩ ?_
          try simp only [r2, tr0, sg2, d1, e3, y1, pr_8_10, pr_8_8, pr_8_99, pr_i_0, pr_i_1, pr_i_5]
          refine pr_cvX [_] rfl rfl rfl rfl rfl (Nat.le_of_ble_eq_true rfl) (by first | assumption | (simp only [r2, tr0, sg2, d1, e3, y1, pr_8_10, pr_8_8, pr_8_99, pr_i_0, pr_i_1, pr_i_5]; first | assumption | decide | exact ⟨by assumption, by assumption⟩ | exact ⟨Or.inl (by assumption), by assumption⟩ | omega) | decide | exact ⟨Or.inl (by assumption), by assumption⟩ | exact ⟨by assumption, by assumption⟩ | omega) (Nat.le_of_ble_eq_true rfl) (hki) (fun v39 M39 q39 => ?_)
          obtain ⟨rfl, e2, f1, h9, h10⟩ := q39
          obtain ⟨I1, Z1⟩ := M39
          dsimp only at e2 f1 h9 h10
          subst e2
          refine pr_ifT rfl (fun h42 => ?_) (fun h42 => ?_)
          · simp only [ab_cmp, pr_8_10, pr_8_8, pr_8_99, pr_i_0, pr_i_1, pr_i_5] at h42
            first
            | contradiction
            | exact absurd trivial h42
            | exact absurd h42 (by decide)
            | exact absurd (Classical.not_not.mp h42) (by decide)
            | skip
              refine pr_seqT (pc' := 55) 1 rfl ⟨trivial, trivial⟩ ?_
              try simp only [r2, tr0, sg2, d1, e3, y1, pr_8_10, pr_8_8, pr_8_99, pr_i_0, pr_i_1, pr_i_5]
              exact pr_irT rfl (by first | exact Or.inl rfl | exact Or.inr rfl | exact pr_b01 _ | assumption) (by exact ln_err (fun a x y z => f1 a x (by omega)) h9 h10)
          · simp only [ab_cmp, pr_8_10, pr_8_8, pr_8_99, pr_i_0, pr_i_1, pr_i_5] at h42
            first
            | contradiction
            | exact absurd trivial h42
            | exact absurd h42 (by decide)
            | exact absurd (Classical.not_not.mp h42) (by decide)
            | skip
              fail
      · simp only [ab_cmp, pr_8_10, pr_8_8, pr_8_99, pr_i_0, pr_i_1, pr_i_5] at h14
        first
        | contradiction
        | exact absurd trivial h14
        | exact absurd h14 (by decide)
        | exact absurd (Classical.not_not.mp h14) (by decide)
        | skip
          fail
    | ok x =>
      obtain ⟨k, p1'⟩ := x
      rw [he] at hki
      obtain ⟨b1, b2, b3⟩ := tKind_ok hp he
      dsimp only
      have q3 : ∀ I : Nat → Nat → Int32, oB o M I → I o 1 = nI k → I 4 5 = nI p1' → pr_T pX6_tellOne 45 [some (.ref 4), some (.ref (t + 1)), some (.ref o)] [] h (I, M.2) (ln_p t M (match tWord w 10 p1' with
          | .error e => .error e
          | .ok y => match tNum w 0 99 y.2 with
            | .error e => .error e
            | .ok z => match tNum w 0 99 z.2 with
              | .error e => .error e
              | .ok u => thenSemi w (pOne P k z.1 u.1 (ltrs w y.1 (y.2 - y.1))) u.2)) := by
        intro I hB i1 i5
        have hwo : pr_X pX6_takeWord [.ref 4, .int 10] h (I, M.2) (tk_p (fun q I => I 4 7 = nI q.1 ∧ I 4 5 = nI q.2) (I, M.2) (tWord w 10 p1')) := c_takeWord (mx := 10) h (I, M.2) hr (oB_tp ho hB hw) i5 b3 (by decide)
        cases he2 : tWord w 10 p1' with
        | error q =>
          rw [he2] at hwo
          refine pr_seqT (pc' := 48) 2 rfl ⟨⟨trivial, (by first | assumption | decide | exact ⟨Or.inl (by assumption), by assumption⟩ | exact ⟨by assumption, by assumption⟩ | omega)⟩, trivial⟩ ?_
          refine pr_cvX [_] rfl rfl rfl rfl rfl (Nat.le_of_ble_eq_true rfl) (by first | assumption | decide | exact ⟨Or.inl (by assumption), by assumption⟩ | exact ⟨by assumption, by assumption⟩ | omega) (Nat.le_of_ble_eq_true rfl) (hwo) (fun v48 M48 q48 => ?_)
          obtain ⟨e2, f1, rfl, h9, h10⟩ := q48
          obtain ⟨I1, Z1⟩ := M48
          dsimp only at e2 f1 h9 h10
          subst e2
          refine pr_ifT rfl (fun h51 => ?_) (fun h51 => ?_)
          · simp only [ab_cmp, pr_8_10, pr_8_8, pr_8_99, pr_i_0, pr_i_1, pr_i_5] at h51
            first
            | contradiction
            | exact absurd trivial h51
            | exact absurd h51 (by decide)
            | exact absurd (Classical.not_not.mp h51) (by decide)
            | skip
              fail
          · simp only [ab_cmp, pr_8_10, pr_8_8, pr_8_99, pr_i_0, pr_i_1, pr_i_5] at h51
            first
            | contradiction
            | exact absurd trivial h51
            | exact absurd h51 (by decide)
            | exact absurd (Classical.not_not.mp h51) (by decide)
            | skip
              refine pr_seqT (pc' := 55) 1 rfl ⟨trivial, trivial⟩ ?_
              exact pr_irT rfl (by first | exact Or.inl rfl | exact Or.inr rfl | exact pr_b01 _ | assumption) (by exact oB_err hoo hB f1 h9 h10)
        | ok y =>
          obtain ⟨a, e⟩ := y
          rw [he2] at hwo
          obtain ⟨w1, w2, w3, w4, w5⟩ := tWord_ok b3 he2
          dsimp only
          have q4 : ∀ I : Nat → Nat → Int32, oB o M I → I o 1 = nI k → nm_v I (o + 1) (ltrs w a (e - a)) → I 4 5 = nI e → pr_T pX6_tellOne 64 [some (.ref 4), some (.ref (t + 1)), some (.ref o)] [] h (I, M.2) (ln_p t M (match tNum w 0 99 e with
              | .error e => .error e
              | .ok z => match tNum w 0 99 z.2 with
                | .error e => .error e
                | .ok u => thenSemi w (pOne P k z.1 u.1 (ltrs w a (e - a))) u.2)) := by
            intro I hB i1 inm i5
            have hnu : pr_X pX6_takeNumber [.ref 4, .int 0, .int 99] h (I, M.2) (tk_p (fun q I => I 4 8 = nI q.1 ∧ I 4 5 = nI q.2) (I, M.2) (tNum w 0 99 e)) := c_takeNumber (lo := 0) (hi := 99) h (I, M.2) hr (oB_tp ho hB hw) i5 w4 (by decide) (by decide)
            cases he3 : tNum w 0 99 e with
            | error q =>
              rw [he3] at hnu
              refine pr_seqT (pc' := 68) 3 rfl ⟨⟨⟨trivial, (by first | assumption | decide | exact ⟨Or.inl (by assumption), by assumption⟩ | exact ⟨by assumption, by assumption⟩ | omega)⟩, trivial⟩, trivial⟩ ?_
              refine pr_cvX [_, _] rfl rfl rfl rfl rfl (Nat.le_of_ble_eq_true rfl) (by first | assumption | decide | exact ⟨Or.inl (by assumption), by assumption⟩ | exact ⟨by assumption, by assumption⟩ | omega) (Nat.le_of_ble_eq_true rfl) (hnu) (fun v68 M68 q68 => ?_)
              obtain ⟨e2, f1, rfl, h9, h10⟩ := q68
              obtain ⟨I1, Z1⟩ := M68
              dsimp only at e2 f1 h9 h10
              subst e2
              refine pr_ifT rfl (fun h71 => ?_) (fun h71 => ?_)
              · simp only [ab_cmp, pr_8_10, pr_8_8, pr_8_99, pr_i_0, pr_i_1, pr_i_5] at h71
                first
                | contradiction
                | exact absurd trivial h71
                | exact absurd h71 (by decide)
                | exact absurd (Classical.not_not.mp h71) (by decide)
                | skip
                  fail
              · simp only [ab_cmp, pr_8_10, pr_8_8, pr_8_99, pr_i_0, pr_i_1, pr_i_5] at h71
                first
                | contradiction
                | exact absurd trivial h71
                | exact absurd h71 (by decide)
                | exact absurd (Classical.not_not.mp h71) (by decide)
                | skip
                  refine pr_seqT (pc' := 75) 1 rfl ⟨trivial, trivial⟩ ?_
                  exact pr_irT rfl (by first | exact Or.inl rfl | exact Or.inr rfl | exact pr_b01 _ | assumption) (by exact oB_err hoo hB f1 h9 h10)
            | ok z =>
              obtain ⟨d, p3'⟩ := z
              rw [he3] at hnu
              obtain ⟨z1, z2, z3, z4, z5⟩ := tNum_ok w4 he3
              dsimp only
              have q5 : ∀ I : Nat → Nat → Int32, oB o M I → I o 1 = nI k → nm_v I (o + 1) (ltrs w a (e - a)) → I 4 8 = nI d → I 4 5 = nI p3' → pr_T pX6_tellOne 76 [some (.ref 4), some (.ref (t + 1)), some (.ref o)] [] h (I, M.2) (ln_p t M (match tNum w 0 99 p3' with
                  | .error e => .error e
                  | .ok u => thenSemi w (pOne P k d u.1 (ltrs w a (e - a))) u.2)) := by
                intro I hB i1 inm i8 i5
                have hfo : ∀ a, (a < o ∨ o + 3 ≤ a) → ab_u I o 2 (nI d) a = I a := fun a ha => ab_u_ne (by omega)
                have hB2 := oB_in ho hB hfo
                have j1 : ab_u I o 2 (nI d) o 1 = nI k := by rw [ab_u_j (by decide)]; exact i1
                have j2 : ab_u I o 2 (nI d) o 2 = nI d := ab_u_at
                have jn : nm_v (ab_u I o 2 (nI d)) (o + 1) (ltrs w a (e - a)) := nm_v_congr (ab_u_ne (by omega)) (ab_u_ne (by omega)) inm
                have j5 : ab_u I o 2 (nI d) 4 5 = nI p3' := by rw [ab_u_ne (by omega)]; exact i5
                generalize hI2 : ab_u I o 2 (nI d) = I2 at *
                have hnu2 : pr_X pX6_takeNumber [.ref 4, .int 0, .int 99] h (I2, M.2.1, M.2.2) (tk_p (fun q I => I 4 8 = nI q.1 ∧ I 4 5 = nI q.2) (I2, M.2.1, M.2.2) (tNum w 0 99 p3')) := c_takeNumber (lo := 0) (hi := 99) h (I2, M.2.1, M.2.2) hr (oB_tp ho hB2 hw) j5 z5 (by decide) (by decide)
                cases he4 : tNum w 0 99 p3' with
                | error q =>
                  rw [he4] at hnu2
                  refine pr_seqT (pc' := 88) 7 rfl ⟨⟨⟨⟨⟨⟨⟨trivial, (by first | assumption | (simp only [i8, hI2, pr_8_10, pr_8_8, pr_8_99, pr_i_0, pr_i_1, pr_i_5]; first | assumption | decide | exact ⟨by assumption, by assumption⟩ | exact ⟨Or.inl (by assumption), by assumption⟩ | omega) | decide | exact ⟨Or.inl (by assumption), by assumption⟩ | exact ⟨by assumption, by assumption⟩ | omega)⟩, (by first | assumption | (simp only [i8, hI2, pr_8_10, pr_8_8, pr_8_99, pr_i_0, pr_i_1, pr_i_5]; first | assumption | decide | exact ⟨by assumption, by assumption⟩ | exact ⟨Or.inl (by assumption), by assumption⟩ | omega) | decide | exact ⟨Or.inl (by assumption), by assumption⟩ | exact ⟨by assumption, by assumption⟩ | omega)⟩, (by first | assumption | (simp only [i8, hI2, pr_8_10, pr_8_8, pr_8_99, pr_i_0, pr_i_1, pr_i_5]; first | assumption | decide | exact ⟨by assumption, by assumption⟩ | exact ⟨Or.inl (by assumption), by assumption⟩ | omega) | decide | exact ⟨Or.inl (by assumption), by assumption⟩ | exact ⟨by assumption, by assumption⟩ | omega)⟩, (by first | assumption | (simp only [i8, hI2, pr_8_10, pr_8_8, pr_8_99, pr_i_0, pr_i_1, pr_i_5]; first | assumption | decide | exact ⟨by assumption, by assumption⟩ | exact ⟨Or.inl (by assumption), by assumption⟩ | omega) | decide | exact ⟨Or.inl (by assumption), by assumption⟩ | exact ⟨by assumption, by assumption⟩ | omega)⟩, (by first | assumption | (simp only [i8, hI2, pr_8_10, pr_8_8, pr_8_99, pr_i_0, pr_i_1, pr_i_5]; first | assumption | decide | exact ⟨by assumption, by assumption⟩ | exact ⟨Or.inl (by assumption), by assumption⟩ | omega) | decide | exact ⟨Or.inl (by assumption), by assumption⟩ | exact ⟨by assumption, by assumption⟩ | omega)⟩, trivial⟩, trivial⟩ ?_
                  try simp only [i8, hI2, pr_8_10, pr_8_8, pr_8_99, pr_i_0, pr_i_1, pr_i_5]
                  refine pr_cvX [_, _] rfl rfl rfl rfl rfl (Nat.le_of_ble_eq_true rfl) (by first | assumption | (simp only [i8, hI2, pr_8_10, pr_8_8, pr_8_99, pr_i_0, pr_i_1, pr_i_5]; first | assumption | decide | exact ⟨by assumption, by assumption⟩ | exact ⟨Or.inl (by assumption), by assumption⟩ | omega) | decide | exact ⟨Or.inl (by assumption), by assumption⟩ | exact ⟨by assumption, by assumption⟩ | omega) (Nat.le_of_ble_eq_true rfl) (hnu2) (fun v88 M88 q88 => ?_)
                  obtain ⟨e2, f1, rfl, h9, h10⟩ := q88
                  obtain ⟨I3, Z1⟩ := M88
                  dsimp only at e2 f1 h9 h10
                  subst e2
                  refine pr_ifT rfl (fun h91 => ?_) (fun h91 => ?_)
                  · simp only [ab_cmp, pr_8_10, pr_8_8, pr_8_99, pr_i_0, pr_i_1, pr_i_5] at h91
                    first
                    | contradiction
                    | exact absurd trivial h91
                    | exact absurd h91 (by decide)
                    | exact absurd (Classical.not_not.mp h91) (by decide)
                    | skip
                      fail
                  · simp only [ab_cmp, pr_8_10, pr_8_8, pr_8_99, pr_i_0, pr_i_1, pr_i_5] at h91
                    first
                    | contradiction
                    | exact absurd trivial h91
                    | exact absurd h91 (by decide)
                    | exact absurd (Classical.not_not.mp h91) (by decide)
                    | skip
                      refine pr_seqT (pc' := 95) 1 rfl ⟨trivial, trivial⟩ ?_
                      try simp only [i8, hI2, pr_8_10, pr_8_8, pr_8_99, pr_i_0, pr_i_1, pr_i_5]
                      exact pr_irT rfl (by first | exact Or.inl rfl | exact Or.inr rfl | exact pr_b01 _ | assumption) (by exact oB_err hoo hB2 f1 h9 h10)
                | ok u =>
                  obtain ⟨m, p4'⟩ := u
                  rw [he4] at hnu2
                  obtain ⟨u1, u2, u3, u4, u5⟩ := tNum_ok z5 he4
                  dsimp only
                  refine pr_seqT (pc' := 88) 7 rfl ⟨⟨⟨⟨⟨⟨⟨trivial, (by first | assumption | (simp only [i8, hI2, pr_8_10, pr_8_8, pr_8_99, pr_i_0, pr_i_1, pr_i_5]; first | assumption | decide | exact ⟨by assumption, by assumption⟩ | exact ⟨Or.inl (by assumption), by assumption⟩ | omega) | decide | exact ⟨Or.inl (by assumption), by assumption⟩ | exact ⟨by assumption, by assumption⟩ | omega)⟩, (by first | assumption | (simp only [i8, hI2, pr_8_10, pr_8_8, pr_8_99, pr_i_0, pr_i_1, pr_i_5]; first | assumption | decide | exact ⟨by assumption, by assumption⟩ | exact ⟨Or.inl (by assumption), by assumption⟩ | omega) | decide | exact ⟨Or.inl (by assumption), by assumption⟩ | exact ⟨by assumption, by assumption⟩ | omega)⟩, (by first | assumption | (simp only [i8, hI2, pr_8_10, pr_8_8, pr_8_99, pr_i_0, pr_i_1, pr_i_5]; first | assumption | decide | exact ⟨by assumption, by assumption⟩ | exact ⟨Or.inl (by assumption), by assumption⟩ | omega) | decide | exact ⟨Or.inl (by assumption), by assumption⟩ | exact ⟨by assumption, by assumption⟩ | omega)⟩, (by first | assumption | (simp only [i8, hI2, pr_8_10, pr_8_8, pr_8_99, pr_i_0, pr_i_1, pr_i_5]; first | assumption | decide | exact ⟨by assumption, by assumption⟩ | exact ⟨Or.inl (by assumption), by assumption⟩ | omega) | decide | exact ⟨Or.inl (by assumption), by assumption⟩ | exact ⟨by assumption, by assumption⟩ | omega)⟩, (by first | assumption | (simp only [i8, hI2, pr_8_10, pr_8_8, pr_8_99, pr_i_0, pr_i_1, pr_i_5]; first | assumption | decide | exact ⟨by assumption, by assumption⟩ | exact ⟨Or.inl (by assumption), by assumption⟩ | omega) | decide | exact ⟨Or.inl (by assumption), by assumption⟩ | exact ⟨by assumption, by assumption⟩ | omega)⟩, trivial⟩, trivial⟩ ?_
                  try simp only [i8, hI2, pr_8_10, pr_8_8, pr_8_99, pr_i_0, pr_i_1, pr_i_5]
                  refine pr_cvX [_, _] rfl rfl rfl rfl rfl (Nat.le_of_ble_eq_true rfl) (by first | assumption | (simp only [i8, hI2, pr_8_10, pr_8_8, pr_8_99, pr_i_0, pr_i_1, pr_i_5]; first | assumption | decide | exact ⟨by assumption, by assumption⟩ | exact ⟨Or.inl (by assumption), by assumption⟩ | omega) | decide | exact ⟨Or.inl (by assumption), by assumption⟩ | exact ⟨by assumption, by assumption⟩ | omega) (Nat.le_of_ble_eq_true rfl) (hnu2) (fun v88 M88 q88 => ?_)
                  obtain ⟨e2, f1, rfl, l3', l4', l9', l8', l5'⟩ := q88
                  obtain ⟨I3, Z1⟩ := M88
                  dsimp only at e2 f1 l3' l4' l9' l8' l5'
                  subst e2
                  refine pr_ifT rfl (fun h91 => ?_) (fun h91 => ?_)
                  · simp only [ab_cmp, pr_8_10, pr_8_8, pr_8_99, pr_i_0, pr_i_1, pr_i_5] at h91
                    first
                    | contradiction
                    | exact absurd trivial h91
                    | exact absurd h91 (by decide)
                    | exact absurd (Classical.not_not.mp h91) (by decide)
                    | skip
                      exact c5 k d m _ p4' b1 z2 u2 I3 (oB_rd4 hB2 f1 l3' l4' l9') (by rw [f1 o (by omega)]; exact j1) (by rw [f1 o (by omega)]; exact j2) (nm_v_congr (f1 _ (by omega)) (f1 _ (by omega)) jn) l8' l5' u5
                  · simp only [ab_cmp, pr_8_10, pr_8_8, pr_8_99, pr_i_0, pr_i_1, pr_i_5] at h91
                    first
                    | contradiction
                    | exact absurd trivial h91
                    | exact absurd h91 (by decide)
                    | exact absurd (Classical.not_not.mp h91) (by decide)
                    | skip
                      fail
              refine pr_seqT (pc' := 68) 3 rfl ⟨⟨⟨trivial, (by first | assumption | decide | exact ⟨Or.inl (by assumption), by assumption⟩ | exact ⟨by assumption, by assumption⟩ | omega)⟩, trivial⟩, trivial⟩ ?_
              refine pr_cvX [_, _] rfl rfl rfl rfl rfl (Nat.le_of_ble_eq_true rfl) (by first | assumption | decide | exact ⟨Or.inl (by assumption), by assumption⟩ | exact ⟨by assumption, by assumption⟩ | omega) (Nat.le_of_ble_eq_true rfl) (hnu) (fun v68 M68 q68 => ?_)
              obtain ⟨e2, f1, rfl, l3', l4', l9', l8', l5'⟩ := q68
              obtain ⟨I1, Z1⟩ := M68
              dsimp only at e2 f1 l3' l4' l9' l8' l5'
              subst e2
              refine pr_ifT rfl (fun h71 => ?_) (fun h71 => ?_)
              · simp only [ab_cmp, pr_8_10, pr_8_8, pr_8_99, pr_i_0, pr_i_1, pr_i_5] at h71
                first
                | contradiction
                | exact absurd trivial h71
                | exact absurd h71 (by decide)
                | exact absurd (Classical.not_not.mp h71) (by decide)
                | skip
                  exact q5 I1 (oB_rd4 hB f1 l3' l4' l9') (by rw [f1 o (by omega)]; exact i1) (nm_v_congr (f1 _ (by omega)) (f1 _ (by omega)) inm) l8' l5'
              · simp only [ab_cmp, pr_8_10, pr_8_8, pr_8_99, pr_i_0, pr_i_1, pr_i_5] at h71
                first
                | contradiction
                | exact absurd trivial h71
                | exact absurd h71 (by decide)
                | exact absurd (Classical.not_not.mp h71) (by decide)
                | skip
                  fail
          have hcw := fun (I1 : Nat → Nat → Int32) (hB1 : oB o M I1) (l7' : I1 4 7 = nI a) (l5' : I1 4 5 = nI e) => c_copyWord (n := o + 1) (s := a) (e := e) h (I1, M.2) hr (oB_tp ho hB1 hw) l7' l5' w3 w4 (by omega) o3 (by omega) w5
          refine pr_seqT (pc' := 48) 2 rfl ⟨⟨trivial, (by first | assumption | (simp only [o2, pr_8_10, pr_8_8, pr_8_99, pr_i_0, pr_i_1, pr_i_5]; first | assumption | decide | exact ⟨by assumption, by assumption⟩ | exact ⟨Or.inl (by assumption), by assumption⟩ | omega) | decide | exact ⟨Or.inl (by assumption), by assumption⟩ | exact ⟨by assumption, by assumption⟩ | omega)⟩, trivial⟩ ?_
          try simp only [o2, pr_8_10, pr_8_8, pr_8_99, pr_i_0, pr_i_1, pr_i_5]
          refine pr_cvX [_] rfl rfl rfl rfl rfl (Nat.le_of_ble_eq_true rfl) (by first | assumption | (simp only [o2, pr_8_10, pr_8_8, pr_8_99, pr_i_0, pr_i_1, pr_i_5]; first | assumption | decide | exact ⟨by assumption, by assumption⟩ | exact ⟨Or.inl (by assumption), by assumption⟩ | omega) | decide | exact ⟨Or.inl (by assumption), by assumption⟩ | exact ⟨by assumption, by assumption⟩ | omega) (Nat.le_of_ble_eq_true rfl) (hwo) (fun v48 M48 q48 => ?_)
          obtain ⟨e2, f1, rfl, l3', l4', l9', l7', l5'⟩ := q48
          obtain ⟨I1, Z1⟩ := M48
          dsimp only at e2 f1 l3' l4' l9' l7' l5'
          subst e2
          have hB1 := oB_rd4 hB f1 l3' l4' l9'
          refine pr_ifT rfl (fun h51 => ?_) (fun h51 => ?_)
          · simp only [ab_cmp, pr_8_10, pr_8_8, pr_8_99, pr_i_0, pr_i_1, pr_i_5] at h51
            first
            | contradiction
            | exact absurd trivial h51
            | exact absurd h51 (by decide)
            | exact absurd (Classical.not_not.mp h51) (by decide)
            | skip
              refine pr_seqT (pc' := 61) 3 rfl ⟨⟨⟨trivial, (by first | assumption | (simp only [o2, pr_8_10, pr_8_8, pr_8_99, pr_i_0, pr_i_1, pr_i_5]; first | assumption | decide | exact ⟨by assumption, by assumption⟩ | exact ⟨Or.inl (by assumption), by assumption⟩ | omega) | decide | exact ⟨Or.inl (by assumption), by assumption⟩ | exact ⟨by assumption, by assumption⟩ | omega)⟩, (by first | assumption | (simp only [o2, pr_8_10, pr_8_8, pr_8_99, pr_i_0, pr_i_1, pr_i_5]; first | assumption | decide | exact ⟨by assumption, by assumption⟩ | exact ⟨Or.inl (by assumption), by assumption⟩ | omega) | decide | exact ⟨Or.inl (by assumption), by assumption⟩ | exact ⟨by assumption, by assumption⟩ | omega)⟩, (by first | assumption | (simp only [o2, pr_8_10, pr_8_8, pr_8_99, pr_i_0, pr_i_1, pr_i_5]; first | assumption | decide | exact ⟨by assumption, by assumption⟩ | exact ⟨Or.inl (by assumption), by assumption⟩ | omega) | decide | exact ⟨Or.inl (by assumption), by assumption⟩ | exact ⟨by assumption, by assumption⟩ | omega)⟩ ?_
              try simp only [o2, pr_8_10, pr_8_8, pr_8_99, pr_i_0, pr_i_1, pr_i_5]
              refine pr_cvX [_] rfl rfl rfl rfl rfl (Nat.le_of_ble_eq_true rfl) (by first | assumption | (simp only [o2, pr_8_10, pr_8_8, pr_8_99, pr_i_0, pr_i_1, pr_i_5]; first | assumption | decide | exact ⟨by assumption, by assumption⟩ | exact ⟨Or.inl (by assumption), by assumption⟩ | omega) | decide | exact ⟨Or.inl (by assumption), by assumption⟩ | exact ⟨by assumption, by assumption⟩ | omega) (Nat.le_of_ble_eq_true rfl) (hcw I1 hB1 l7' l5') (fun v61 M61 q61 => ?_)
              obtain ⟨rfl, e3', cv, cf⟩ := q61
              obtain ⟨I2, Z2⟩ := M61
              dsimp only at e3' cv cf
              subst e3'
              exact q4 I2 (oB_in ho hB1 (fun a ha => cf a (by omega) (by omega))) (by rw [cf o (by omega) (by omega), f1 o (by omega)]; exact i1) cv (by rw [cf 4 (by omega) (by omega)]; exact l5')
          · simp only [ab_cmp, pr_8_10, pr_8_8, pr_8_99, pr_i_0, pr_i_1, pr_i_5] at h51
            first
            | contradiction
            | exact absurd trivial h51
            | exact absurd h51 (by decide)
            | exact absurd (Classical.not_not.mp h51) (by decide)
            | skip
              fail
      refine pr_seqT (pc' := 14) 7 rfl ⟨⟨⟨⟨⟨⟨⟨trivial, (by first | assumption | (simp only [r2, tr0, sg2, d1, e3, y1, okB, pr_8_10, pr_8_8, pr_8_99, pr_i_0, pr_i_1, pr_i_5]; first | assumption | decide | exact ⟨by assumption, by assumption⟩ | exact ⟨Or.inl (by assumption), by assumption⟩ | omega) | decide | exact ⟨Or.inl (by assumption), by assumption⟩ | exact ⟨by assumption, by assumption⟩ | omega)⟩, (by first | assumption | (simp only [r2, tr0, sg2, d1, e3, y1, okB, pr_8_10, pr_8_8, pr_8_99, pr_i_0, pr_i_1, pr_i_5]; first | assumption | decide | exact ⟨by assumption, by assumption⟩ | exact ⟨Or.inl (by assumption), by assumption⟩ | omega) | decide | exact ⟨Or.inl (by assumption), by assumption⟩ | exact ⟨by assumption, by assumption⟩ | omega)⟩, (by first | assumption | (simp only [r2, tr0, sg2, d1, e3, y1, okB, pr_8_10, pr_8_8, pr_8_99, pr_i_0, pr_i_1, pr_i_5]; first | assumption | decide | exact ⟨by assumption, by assumption⟩ | exact ⟨Or.inl (by assumption), by assumption⟩ | omega) | decide | exact ⟨Or.inl (by assumption), by assumption⟩ | exact ⟨by assumption, by assumption⟩ | omega)⟩, (by first | assumption | (simp only [r2, tr0, sg2, d1, e3, y1, okB, pr_8_10, pr_8_8, pr_8_99, pr_i_0, pr_i_1, pr_i_5]; first | assumption | decide | exact ⟨by assumption, by assumption⟩ | exact ⟨Or.inl (by assumption), by assumption⟩ | omega) | decide | exact ⟨Or.inl (by assumption), by assumption⟩ | exact ⟨by assumption, by assumption⟩ | omega)⟩, (by first | assumption | (simp only [r2, tr0, sg2, d1, e3, y1, okB, pr_8_10, pr_8_8, pr_8_99, pr_i_0, pr_i_1, pr_i_5]; first | assumption | decide | exact ⟨by assumption, by assumption⟩ | exact ⟨Or.inl (by assumption), by assumption⟩ | omega) | decide | exact ⟨Or.inl (by assumption), by assumption⟩ | exact ⟨by assumption, by assumption⟩ | omega)⟩, (by first | assumption | (simp only [r2, tr0, sg2, d1, e3, y1, okB, pr_8_10, pr_8_8, pr_8_99, pr_i_0, pr_i_1, pr_i_5]; first | assumption | decide | exact ⟨by assumption, by assumption⟩ | exact ⟨Or.inl (by assumption), by assumption⟩ | omega) | decide | exact ⟨Or.inl (by assumption), by assumption⟩ | exact ⟨by assumption, by assumption⟩ | omega)⟩, trivial⟩ ?_
      try simp only [r2, tr0, sg2, d1, e3, y1, okB, pr_8_10, pr_8_8, pr_8_99, pr_i_0, pr_i_1, pr_i_5]
      refine pr_icT rfl (fun h14 => ?_) (fun h14 => ?_)
      · simp only [ab_cmp, pr_8_10, pr_8_8, pr_8_99, pr_i_0, pr_i_1, pr_i_5] at h14
        first
        | contradiction
        | exact absurd trivial h14
        | exact absurd h14 (by decide)
        | exact absurd (Classical.not_not.mp h14) (by decide)
        | skip
          refine pr_seqT (pc' := 39) 8 rfl ⟨⟨⟨⟨⟨⟨⟨⟨trivial, (by first | assumption | (simp only [r2, tr0, sg2, d1, e3, y1, okB, pr_8_10, pr_8_8, pr_8_99, pr_i_0, pr_i_1, pr_i_5]; first | assumption | decide | exact ⟨by assumption, by assumption⟩ | exact ⟨Or.inl (by assumption), by assumption⟩ | omega) | decide | exact ⟨Or.inl (by assumption), by assumption⟩ | exact ⟨by assumption, by assumption⟩ | omega)⟩, (by first | assumption | (simp only [r2, tr0, sg2, d1, e3, y1, okB, pr_8_10, pr_8_8, pr_8_99, pr_i_0, pr_i_1, pr_i_5]; first | assumption | decide | exact ⟨by assumption, by assumption⟩ | exact ⟨Or.inl (by assumption), by assumption⟩ | omega) | decide | exact ⟨Or.inl (by assumption), by assumption⟩ | exact ⟨by assumption, by assumption⟩ | omega)⟩, (by first | assumption | (simp only [r2, tr0, sg2, d1, e3, y1, okB, pr_8_10, pr_8_8, pr_8_99, pr_i_0, pr_i_1, pr_i_5]; first | assumption | decide | exact ⟨by assumption, by assumption⟩ | exact ⟨Or.inl (by assumption), by assumption⟩ | omega) | decide | exact ⟨Or.inl (by assumption), by assumption⟩ | exact ⟨by assumption, by assumption⟩ | omega)⟩, (by first | assumption | (simp only [r2, tr0, sg2, d1, e3, y1, okB, pr_8_10, pr_8_8, pr_8_99, pr_i_0, pr_i_1, pr_i_5]; first | assumption | decide | exact ⟨by assumption, by assumption⟩ | exact ⟨Or.inl (by assumption), by assumption⟩ | omega) | decide | exact ⟨Or.inl (by assumption), by assumption⟩ | exact ⟨by assumption, by assumption⟩ | omega)⟩, (by first | assumption | (simp only [r2, tr0, sg2, d1, e3, y1, okB, pr_8_10, pr_8_8, pr_8_99, pr_i_0, pr_i_1, pr_i_5]; first | assumption | decide | exact ⟨by assumption, by assumption⟩ | exact ⟨Or.inl (by assumption), by assumption⟩ | omega) | decide | exact ⟨Or.inl (by assumption), by assumption⟩ | exact ⟨by assumption, by assumption⟩ | omega)⟩, (by first | assumption | (simp only [r2, tr0, sg2, d1, e3, y1, okB, pr_8_10, pr_8_8, pr_8_99, pr_i_0, pr_i_1, pr_i_5]; first | assumption | decide | exact ⟨by assumption, by assumption⟩ | exact ⟨Or.inl (by assumption), by assumption⟩ | omega) | decide | exact ⟨Or.inl (by assumption), by assumption⟩ | exact ⟨by assumption, by assumption⟩ | omega)⟩, (by first | assumption | (simp only [r2, tr0, sg2, d1, e3, y1, okB, pr_8_10, pr_8_8, pr_8_99, pr_i_0, pr_i_1, pr_i_5]; first | assumption | decide | exact ⟨by assumption, by assumption⟩ | exact ⟨Or.inl (by assumption), by assumption⟩ | omega) | decide | exact ⟨Or.inl (by assumption), by assumption⟩ | exact ⟨by assumption, by assumption⟩ | omega)⟩, (by first | assumption | (simp only [r2, tr0, sg2, d1, e3, y1, okB, pr_8_10, pr_8_8, pr_8_99, pr_i_0, pr_i_1, pr_i_5]; first | assumption | decide | exact ⟨by assumption, by assumption⟩ | exact ⟨Or.inl (by assumption), by assumption⟩ | omega) | decide | exact ⟨Or.inl (by assumption), by assumption⟩ | exact ⟨by assumption, by assumption⟩ | omega)⟩ ?_
          try simp only [r2, tr0, sg2, d1, e3, y1, okB, pr_8_10, pr_8_8, pr_8_99, pr_i_0, pr_i_1, pr_i_5]
          refine pr_cvX [_] rfl rfl rfl rfl rfl (Nat.le_of_ble_eq_true rfl) (by first | assumption | (simp only [r2, tr0, sg2, d1, e3, y1, okB, pr_8_10, pr_8_8, pr_8_99, pr_i_0, pr_i_1, pr_i_5]; first | assumption | decide | exact ⟨by assumption, by assumption⟩ | exact ⟨Or.inl (by assumption), by assumption⟩ | omega) | decide | exact ⟨Or.inl (by assumption), by assumption⟩ | exact ⟨by assumption, by assumption⟩ | omega) (Nat.le_of_ble_eq_true rfl) (hki) (fun v39 M39 q39 => ?_)
          obtain ⟨rfl, e2, f1, l3', l4', l9', l1', l5'⟩ := q39
          obtain ⟨I1, Z1⟩ := M39
          dsimp only at e2 f1 l3' l4' l9' l1' l5'
          subst e2
          simp only [okB]
          refine pr_ifT rfl (fun h42 => ?_) (fun h42 => ?_)
          · simp only [ab_cmp, pr_8_10, pr_8_8, pr_8_99, pr_i_0, pr_i_1, pr_i_5] at h42
            first
            | contradiction
            | exact absurd trivial h42
            | exact absurd h42 (by decide)
            | exact absurd (Classical.not_not.mp h42) (by decide)
            | skip
              fail
          · simp only [ab_cmp, pr_8_10, pr_8_8, pr_8_99, pr_i_0, pr_i_1, pr_i_5] at h42
            first
            | contradiction
            | exact absurd trivial h42
            | exact absurd h42 (by decide)
            | exact absurd (Classical.not_not.mp h42) (by decide)
            | skip
              exact q3 I1 ⟨fun a x y => f1 a x (by omega), l3', l4', l9'⟩ l1' l5'
      · simp only [ab_cmp, pr_8_10, pr_8_8, pr_8_99, pr_i_0, pr_i_1, pr_i_5] at h14
        first
        | contradiction
        | exact absurd trivial h14
        | exact absurd h14 (by decide)
        | exact absurd (Classical.not_not.mp h14) (by decide)
        | skip
          fail
