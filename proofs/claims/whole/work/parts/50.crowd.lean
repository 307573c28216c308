
/-! ===== crowd ===== -/
theorem xch_lt {α : Type} {n p : Nat} {A f : Nat → α} (h : p < n) : xch n A f p = A p := by unfold xch; rw [if_pos h]
theorem xch_at {α : Type} {n i : Nat} {A f : Nat → α} : xch n A f (n + i) = f i := by unfold xch; rw [if_neg (by omega), show n + i - n = i by omega]
theorem cs_xch {I : Nat → Nat → Int32} {c n i : Nat} {S f : Nat → Int32} {K D W : Nat → Nat} (hv : cs_v I c (n + i) (xch n S f) (xch n K (fun _ => 0)) (xch n D (fun _ => 0)) (xch n W (fun _ => 0))) (h28 : n + i < 28) : cs_v (cs_ap I c (n + i) (f i) 0 0 0) c (n + (i + 1)) (xch n S f) (xch n K (fun _ => 0)) (xch n D (fun _ => 0)) (xch n W (fun _ => 0)) := by
  have h2 := cs_ap_v hv h28 (by rw [xch_at]; decide)
  rw [xch_at, xch_at, xch_at, xch_at] at h2
  exact h2
theorem cs_xch0 {I : Nat → Nat → Int32} {c n : Nat} {S : Nat → Int32} {K D W : Nat → Nat} (f : Nat → Int32) (hv : cs_v I c n S K D W) : cs_v I c (n + 0) (xch n S f) (xch n K (fun _ => 0)) (xch n D (fun _ => 0)) (xch n W (fun _ => 0)) := cs_v_ext hv (fun p hp => ⟨xch_lt hp, xch_lt hp, xch_lt hp, xch_lt hp⟩)
theorem c_ls {X : St} {t i : Nat} (h : ab_H) (M : ab_M) (ht : pr_Tl h M.2.2 t) (hT : tl_v M.1 t X.1) (hi : i < X.1.2.1.length) : pr_C pX9_listedSum [.ref t, .int (nI i)] h M (some (.int (nI (x_ls X i)))) h M := c_listedSum h M ht hT (x_ls_at (X := X) (n := i) hi)
theorem p_crowd2 {b : Bool} {X : St} {a : Nat} {z4 : Int32} (ha : a ≤ 3) (h : ab_H) (M : ab_M) (hl : Lay h M.2.2 b) (hv : cl_v M.1 b X) : ∀ dd i, i + dd = X.1.2.1.length → ∀ I : Nat → Nat → Int32, cl_same M.1 I → cs_v I 49 (x_n X + i) (xch (x_n X) (x_S X) (fun i => nI (x_ls X i))) (xch (x_n X) (x_K X) (fun _ => 0)) (xch (x_n X) (x_D X) (fun _ => 0)) (xch (x_n X) (x_W X) (fun _ => 0)) → pr_T pX10_crowd 140 [some (.ref 1), some (.int (nI a)), some (.int 1), some (.int (f_persons X)), some (.int z4), some (.int (nI i))] [] h (I, M.2) (cp h M (i_min (f_persons X + nI a) (x_pc X (fun i => nI (x_ls X i)) X.1.2.1.length), X)) := by
  obtain ⟨k1, q0, q1, rc, q3, q4, q5, q6, q7, q8, r9⟩ := id hl.1
  have ht := ly_told hl
  obtain ⟨t0, t1, r0, r1, r2, r3, hg, ⟨ka, kb⟩, ⟨kc, kd⟩, ⟨ke, kf⟩, hnm⟩ := id ht
  obtain ⟨g0, g1, s1, s2, m1, m2, ⟨m3, m4⟩, hon⟩ := id hg
  obtain ⟨hT, hIm, hSh, hTp, hFa, hTo⟩ := id hv
  obtain ⟨hd, v2, v3, v4, v5, v6, v7⟩ := id hT
  obtain ⟨d1, d2, d3, d4, d5, d6, d7, d8⟩ := id hd
  have b0 := tB_ne b
  have hc := hl.2.2.2.2.2.1
  have hb : 49 + 5 < tB b + 1 ∨ tB b + 1 + 27 ≤ 49 := by cases b <;> decide
  have hb2 : 63 < tB b ∧ tB b + 43 ≤ 110 ∨ 5 < tB b ∧ tB b + 43 ≤ 49 := by cases b <;> decide
  have c1 := hc.2.1
  intro dd
  induction dd with
  | zero =>
    intro i hi I hs hcv
    obtain rfl : i = X.1.2.1.length := by omega
    have v2' : I (tB b) 4 = nI X.1.2.1.length := by rw [hs _ (by omega)]; exact v2
    have e1 : nI X.1.2.1.length ≤ nI X.1.2.1.length := nI_le (Nat.le_refl _) (by omega)
    have hm := c_howMany h (I, M.2) hc hcv
    refine pr_seqT (pc' := 149) 4 rfl ⟨⟨⟨⟨trivial, trivial⟩, (by first | assumption | (simp only [r9, r0, r1, r2, r3, s1, s2, q0, q1, rc, q3, q4, q5, q6, q7, q8, v2', pr_8_m2, pr_i_0, pr_i_1, pr_i_3, pr_i_m1]; first | assumption | decide | exact ⟨by assumption, by assumption⟩ | exact ⟨Or.inl (by assumption), by assumption⟩ | omega) | decide | exact ⟨Or.inl (by assumption), by assumption⟩ | exact ⟨by assumption, by assumption⟩ | omega)⟩, (by first | assumption | (simp only [r9, r0, r1, r2, r3, s1, s2, q0, q1, rc, q3, q4, q5, q6, q7, q8, v2', pr_8_m2, pr_i_0, pr_i_1, pr_i_3, pr_i_m1]; first | assumption | decide | exact ⟨by assumption, by assumption⟩ | exact ⟨Or.inl (by assumption), by assumption⟩ | omega) | decide | exact ⟨Or.inl (by assumption), by assumption⟩ | exact ⟨by assumption, by assumption⟩ | omega)⟩, (by first | assumption | (simp only [r9, r0, r1, r2, r3, s1, s2, q0, q1, rc, q3, q4, q5, q6, q7, q8, v2', pr_8_m2, pr_i_0, pr_i_1, pr_i_3, pr_i_m1]; first | assumption | decide | exact ⟨by assumption, by assumption⟩ | exact ⟨Or.inl (by assumption), by assumption⟩ | omega) | decide | exact ⟨Or.inl (by assumption), by assumption⟩ | exact ⟨by assumption, by assumption⟩ | omega)⟩ ?_
    try simp only [r9, r0, r1, r2, r3, s1, s2, q0, q1, rc, q3, q4, q5, q6, q7, q8, v2', pr_8_m2, pr_i_0, pr_i_1, pr_i_3, pr_i_m1]
    refine pr_icT rfl (fun h149 => ?_) (fun h149 => ?_)
    · simp only [ab_cmp, pr_8_m2, pr_i_0, pr_i_1, pr_i_3, pr_i_m1] at h149
      first
      | contradiction
      | exact absurd trivial h149
      | exact absurd h149 (by decide)
      | exact absurd (Classical.not_not.mp h149) (by decide)
      | skip
        refine pr_seqT (pc' := 181) 5 rfl ⟨⟨⟨⟨⟨trivial, trivial⟩, trivial⟩, trivial⟩, (by first | assumption | (simp only [r9, r0, r1, r2, r3, s1, s2, q0, q1, rc, q3, q4, q5, q6, q7, q8, v2', pr_8_m2, pr_i_0, pr_i_1, pr_i_3, pr_i_m1]; first | assumption | decide | exact ⟨by assumption, by assumption⟩ | exact ⟨Or.inl (by assumption), by assumption⟩ | omega) | decide | exact ⟨Or.inl (by assumption), by assumption⟩ | exact ⟨by assumption, by assumption⟩ | omega)⟩, (by first | assumption | (simp only [r9, r0, r1, r2, r3, s1, s2, q0, q1, rc, q3, q4, q5, q6, q7, q8, v2', pr_8_m2, pr_i_0, pr_i_1, pr_i_3, pr_i_m1]; first | assumption | decide | exact ⟨by assumption, by assumption⟩ | exact ⟨Or.inl (by assumption), by assumption⟩ | omega) | decide | exact ⟨Or.inl (by assumption), by assumption⟩ | exact ⟨by assumption, by assumption⟩ | omega)⟩ ?_
        try simp only [r9, r0, r1, r2, r3, s1, s2, q0, q1, rc, q3, q4, q5, q6, q7, q8, v2', pr_8_m2, pr_i_0, pr_i_1, pr_i_3, pr_i_m1]
        refine pr_cvT [] rfl rfl rfl rfl rfl (Nat.le_of_ble_eq_true rfl) (by first | assumption | (simp only [r9, r0, r1, r2, r3, s1, s2, q0, q1, rc, q3, q4, q5, q6, q7, q8, v2', pr_8_m2, pr_i_0, pr_i_1, pr_i_3, pr_i_m1]; first | assumption | decide | exact ⟨by assumption, by assumption⟩ | exact ⟨Or.inl (by assumption), by assumption⟩ | omega) | decide | exact ⟨Or.inl (by assumption), by assumption⟩ | exact ⟨by assumption, by assumption⟩ | omega) (Nat.le_of_ble_eq_true rfl) (hm) ?_
        refine pr_seqT (pc' := 187) 1 rfl ⟨trivial, (by exact (Nat.le_of_ble_eq_true rfl))⟩ ?_
        try simp only [r9, r0, r1, r2, r3, s1, s2, q0, q1, rc, q3, q4, q5, q6, q7, q8, v2', pr_8_m2, pr_i_0, pr_i_1, pr_i_3, pr_i_m1]
        exact pr_irT rfl trivial (cp_q hl hv rfl hs)
    · simp only [ab_cmp, pr_8_m2, pr_i_0, pr_i_1, pr_i_3, pr_i_m1] at h149
      first
      | contradiction
      | exact absurd trivial h149
      | exact absurd h149 (by decide)
      | exact absurd (Classical.not_not.mp h149) (by decide)
      | skip
        fail
  | succ dd ih =>
    intro i hi I hs hcv
    have v2' : I (tB b) 4 = nI X.1.2.1.length := by rw [hs _ (by omega)]; exact v2
    have e1 : ¬ nI X.1.2.1.length ≤ nI i := nI_ge (by omega) (by omega)
    have hls := c_ls (X := X) (i := i) h (I, M.2) ht (tl_v_same hs hT) (by omega)
    have h28 : x_n X + i < 28 := by have d2 : x_n X ≤ 8 := d2; omega
    have hac := c_addChild (nI (x_ls X i)) h (I, M.2) hc hcv.1 h28
    have hh := ih (i + 1) (by omega) (cs_ap I 49 (x_n X + i) (nI (x_ls X i)) 0 0 0) (fun a ha => by rw [cs_ap_far (by omega)]; exact hs a ha) (cs_xch hcv h28)
    rw [← nI_1] at hh
    refine pr_seqT (pc' := 149) 4 rfl ⟨⟨⟨⟨trivial, trivial⟩, (by first | assumption | (simp only [r9, r0, r1, r2, r3, s1, s2, q0, q1, rc, q3, q4, q5, q6, q7, q8, v2', pr_8_m2, pr_i_0, pr_i_1, pr_i_3, pr_i_m1]; first | assumption | decide | exact ⟨by assumption, by assumption⟩ | exact ⟨Or.inl (by assumption), by assumption⟩ | omega) | decide | exact ⟨Or.inl (by assumption), by assumption⟩ | exact ⟨by assumption, by assumption⟩ | omega)⟩, (by first | assumption | (simp only [r9, r0, r1, r2, r3, s1, s2, q0, q1, rc, q3, q4, q5, q6, q7, q8, v2', pr_8_m2, pr_i_0, pr_i_1, pr_i_3, pr_i_m1]; first | assumption | decide | exact ⟨by assumption, by assumption⟩ | exact ⟨Or.inl (by assumption), by assumption⟩ | omega) | decide | exact ⟨Or.inl (by assumption), by assumption⟩ | exact ⟨by assumption, by assumption⟩ | omega)⟩, (by first | assumption | (simp only [r9, r0, r1, r2, r3, s1, s2, q0, q1, rc, q3, q4, q5, q6, q7, q8, v2', pr_8_m2, pr_i_0, pr_i_1, pr_i_3, pr_i_m1]; first | assumption | decide | exact ⟨by assumption, by assumption⟩ | exact ⟨Or.inl (by assumption), by assumption⟩ | omega) | decide | exact ⟨Or.inl (by assumption), by assumption⟩ | exact ⟨by assumption, by assumption⟩ | omega)⟩ ?_
    try simp only [r9, r0, r1, r2, r3, s1, s2, q0, q1, rc, q3, q4, q5, q6, q7, q8, v2', pr_8_m2, pr_i_0, pr_i_1, pr_i_3, pr_i_m1]
    refine pr_icT rfl (fun h149 => ?_) (fun h149 => ?_)
    · simp only [ab_cmp, pr_8_m2, pr_i_0, pr_i_1, pr_i_3, pr_i_m1] at h149
      first
      | contradiction
      | exact absurd trivial h149
      | exact absurd h149 (by decide)
      | exact absurd (Classical.not_not.mp h149) (by decide)
      | skip
        fail
    · simp only [ab_cmp, pr_8_m2, pr_i_0, pr_i_1, pr_i_3, pr_i_m1] at h149
      first
      | contradiction
      | exact absurd trivial h149
      | exact absurd h149 (by decide)
      | exact absurd (Classical.not_not.mp h149) (by decide)
      | skip
        refine pr_seqT (pc' := 162) 5 rfl ⟨⟨⟨⟨⟨trivial, (by first | assumption | (simp only [r9, r0, r1, r2, r3, s1, s2, q0, q1, rc, q3, q4, q5, q6, q7, q8, v2', pr_8_m2, pr_i_0, pr_i_1, pr_i_3, pr_i_m1]; first | assumption | decide | exact ⟨by assumption, by assumption⟩ | exact ⟨Or.inl (by assumption), by assumption⟩ | omega) | decide | exact ⟨Or.inl (by assumption), by assumption⟩ | exact ⟨by assumption, by assumption⟩ | omega)⟩, (by first | assumption | (simp only [r9, r0, r1, r2, r3, s1, s2, q0, q1, rc, q3, q4, q5, q6, q7, q8, v2', pr_8_m2, pr_i_0, pr_i_1, pr_i_3, pr_i_m1]; first | assumption | decide | exact ⟨by assumption, by assumption⟩ | exact ⟨Or.inl (by assumption), by assumption⟩ | omega) | decide | exact ⟨Or.inl (by assumption), by assumption⟩ | exact ⟨by assumption, by assumption⟩ | omega)⟩, (by first | assumption | (simp only [r9, r0, r1, r2, r3, s1, s2, q0, q1, rc, q3, q4, q5, q6, q7, q8, v2', pr_8_m2, pr_i_0, pr_i_1, pr_i_3, pr_i_m1]; first | assumption | decide | exact ⟨by assumption, by assumption⟩ | exact ⟨Or.inl (by assumption), by assumption⟩ | omega) | decide | exact ⟨Or.inl (by assumption), by assumption⟩ | exact ⟨by assumption, by assumption⟩ | omega)⟩, (by first | assumption | (simp only [r9, r0, r1, r2, r3, s1, s2, q0, q1, rc, q3, q4, q5, q6, q7, q8, v2', pr_8_m2, pr_i_0, pr_i_1, pr_i_3, pr_i_m1]; first | assumption | decide | exact ⟨by assumption, by assumption⟩ | exact ⟨Or.inl (by assumption), by assumption⟩ | omega) | decide | exact ⟨Or.inl (by assumption), by assumption⟩ | exact ⟨by assumption, by assumption⟩ | omega)⟩, trivial⟩ ?_
        try simp only [r9, r0, r1, r2, r3, s1, s2, q0, q1, rc, q3, q4, q5, q6, q7, q8, v2', pr_8_m2, pr_i_0, pr_i_1, pr_i_3, pr_i_m1]
        refine pr_cvT [_] rfl rfl rfl rfl rfl (Nat.le_of_ble_eq_true rfl) (by first | assumption | (simp only [r9, r0, r1, r2, r3, s1, s2, q0, q1, rc, q3, q4, q5, q6, q7, q8, v2', pr_8_m2, pr_i_0, pr_i_1, pr_i_3, pr_i_m1]; first | assumption | decide | exact ⟨by assumption, by assumption⟩ | exact ⟨Or.inl (by assumption), by assumption⟩ | omega) | decide | exact ⟨Or.inl (by assumption), by assumption⟩ | exact ⟨by assumption, by assumption⟩ | omega) (Nat.le_of_ble_eq_true rfl) (hls) ?_
        refine pr_cvT [_] rfl rfl rfl rfl rfl (Nat.le_of_ble_eq_true rfl) (by first | assumption | (simp only [r9, r0, r1, r2, r3, s1, s2, q0, q1, rc, q3, q4, q5, q6, q7, q8, v2', pr_8_m2, pr_i_0, pr_i_1, pr_i_3, pr_i_m1]; first | assumption | decide | exact ⟨by assumption, by assumption⟩ | exact ⟨Or.inl (by assumption), by assumption⟩ | omega) | decide | exact ⟨Or.inl (by assumption), by assumption⟩ | exact ⟨by assumption, by assumption⟩ | omega) (Nat.le_of_ble_eq_true rfl) (hac) ?_
        refine pr_seqT (pc' := 140) 2 rfl ⟨⟨trivial, trivial⟩, trivial⟩ ?_
        try simp only [r9, r0, r1, r2, r3, s1, s2, q0, q1, rc, q3, q4, q5, q6, q7, q8, v2', pr_8_m2, pr_i_0, pr_i_1, pr_i_3, pr_i_m1]
        exact hh
set_option maxHeartbeats 4000000 in
theorem p_crowd {b : Bool} {X : St} (x y : Int32) (h : ab_H) (M : ab_M) (hl : Lay h M.2.2 b) (hv : cl_v M.1 b X) : pr_X pX10_crowd [.ref 1, .int x, .int y] h M (cp h M (f_crowd X x y, X)) := by
  obtain ⟨k1, q0, q1, rc, q3, q4, q5, q6, q7, q8, r9⟩ := id hl.1
  have ht := ly_told hl
  obtain ⟨t0, t1, r0, r1, r2, r3, hg, ⟨ka, kb⟩, ⟨kc, kd⟩, ⟨ke, kf⟩, hnm⟩ := id ht
  obtain ⟨g0, g1, s1, s2, m1, m2, ⟨m3, m4⟩, hon⟩ := id hg
  obtain ⟨hT, hIm, hSh, hTp, hFa, hTo⟩ := id hv
  obtain ⟨hd, v2, v3, v4, v5, v6, v7⟩ := id hT
  obtain ⟨d1, d2, d3, d4, d5, d6, d7, d8⟩ := id hd
  have b0 := tB_ne b
  have hc := hl.2.2.2.2.2.1
  have hb : 49 + 5 < tB b + 1 ∨ tB b + 1 + 27 ≤ 49 := by cases b <;> decide
  have hb2 : 63 < tB b ∧ tB b + 43 ≤ 110 ∨ 5 < tB b ∧ tB b + 43 ≤ 49 := by cases b <;> decide
  have c1 := hc.2.1
  unfold f_crowd
  have hp := c_within x 0 3 h M
  have hw := c_within y 0 1 h M
  rcases pr_rg x 3 3 rfl (by decide) with q | ⟨a, ha, rfl, q⟩
  · rw [q] at hp ⊢
    refine pr_seqT (pc' := 3) 3 rfl ⟨⟨⟨trivial, trivial⟩, trivial⟩, trivial⟩ ?_
    try simp only [r9, r0, r1, r2, r3, s1, s2, q0, q1, rc, q3, q4, q5, q6, q7, q8, pr_8_m2, pr_i_0, pr_i_1, pr_i_3, pr_i_m1]
    refine pr_csT [_, _, _] rfl rfl rfl rfl rfl (Nat.le_of_ble_eq_true rfl) (Nat.le_of_ble_eq_true rfl) (hp) ?_
    refine pr_ifT rfl (fun h6 => ?_) (fun h6 => ?_)
    · simp only [ab_cmp, pr_8_m2, pr_i_0, pr_i_1, pr_i_3, pr_i_m1] at h6
      first
      | contradiction
      | exact absurd trivial h6
      | exact absurd h6 (by decide)
      | exact absurd (Classical.not_not.mp h6) (by decide)
      | skip
        refine pr_seqT (pc' := 19) 1 rfl ⟨trivial, trivial⟩ ?_
        try simp only [r9, r0, r1, r2, r3, s1, s2, q0, q1, rc, q3, q4, q5, q6, q7, q8, pr_8_m2, pr_i_0, pr_i_1, pr_i_3, pr_i_m1]
        exact pr_irT rfl trivial (by exact cp_s hl hv)
    · simp only [ab_cmp, pr_8_m2, pr_i_0, pr_i_1, pr_i_3, pr_i_m1] at h6
      first
      | contradiction
      | exact absurd trivial h6
      | exact absurd h6 (by decide)
      | exact absurd (Classical.not_not.mp h6) (by decide)
      | skip
        refine pr_seqT (pc' := 12) 3 rfl ⟨⟨⟨trivial, trivial⟩, trivial⟩, trivial⟩ ?_
        try simp only [r9, r0, r1, r2, r3, s1, s2, q0, q1, rc, q3, q4, q5, q6, q7, q8, pr_8_m2, pr_i_0, pr_i_1, pr_i_3, pr_i_m1]
        fail "no call@12 yX10_within"
  · rcases pr_rg y 1 1 rfl (by decide) with q' | ⟨k, hk, rfl, q'⟩
    · rw [q] at hp
      rw [q'] at hw
      rw [q, q']
      refine pr_seqT (pc' := 3) 3 rfl ⟨⟨⟨trivial, trivial⟩, trivial⟩, trivial⟩ ?_
      try simp only [r9, r0, r1, r2, r3, s1, s2, q0, q1, rc, q3, q4, q5, q6, q7, q8, pr_8_m2, pr_i_0, pr_i_1, pr_i_3, pr_i_m1]
      refine pr_csT [_, _, _] rfl rfl rfl rfl rfl (Nat.le_of_ble_eq_true rfl) (Nat.le_of_ble_eq_true rfl) (hp) ?_
      refine pr_ifT rfl (fun h6 => ?_) (fun h6 => ?_)
      · simp only [ab_cmp, pr_8_m2, pr_i_0, pr_i_1, pr_i_3, pr_i_m1] at h6
        first
        | contradiction
        | exact absurd trivial h6
        | exact absurd h6 (by decide)
        | exact absurd (Classical.not_not.mp h6) (by decide)
        | skip
          refine pr_seqT (pc' := 19) 1 rfl ⟨trivial, trivial⟩ ?_
          try simp only [r9, r0, r1, r2, r3, s1, s2, q0, q1, rc, q3, q4, q5, q6, q7, q8, pr_8_m2, pr_i_0, pr_i_1, pr_i_3, pr_i_m1]
          exact pr_irT rfl trivial (by exact cp_s hl hv)
      · simp only [ab_cmp, pr_8_m2, pr_i_0, pr_i_1, pr_i_3, pr_i_m1] at h6
        first
        | contradiction
        | exact absurd trivial h6
        | exact absurd h6 (by decide)
        | exact absurd (Classical.not_not.mp h6) (by decide)
        | skip
          refine pr_seqT (pc' := 12) 3 rfl ⟨⟨⟨trivial, trivial⟩, trivial⟩, trivial⟩ ?_
          try simp only [r9, r0, r1, r2, r3, s1, s2, q0, q1, rc, q3, q4, q5, q6, q7, q8, pr_8_m2, pr_i_0, pr_i_1, pr_i_3, pr_i_m1]
          refine pr_csT [_, _, _] rfl rfl rfl rfl rfl (Nat.le_of_ble_eq_true rfl) (Nat.le_of_ble_eq_true rfl) (hw) ?_
          refine pr_ifT rfl (fun h15 => ?_) (fun h15 => ?_)
          · simp only [ab_cmp, pr_8_m2, pr_i_0, pr_i_1, pr_i_3, pr_i_m1] at h15
            first
            | contradiction
            | exact absurd trivial h15
            | exact absurd h15 (by decide)
            | exact absurd (Classical.not_not.mp h15) (by decide)
            | skip
              refine pr_seqT (pc' := 21) 1 rfl ⟨trivial, trivial⟩ ?_
              try simp only [r9, r0, r1, r2, r3, s1, s2, q0, q1, rc, q3, q4, q5, q6, q7, q8, pr_8_m2, pr_i_0, pr_i_1, pr_i_3, pr_i_m1]
              refine pr_ifT rfl (fun h21 => ?_) (fun h21 => ?_)
              · simp only [ab_cmp, pr_8_m2, pr_i_0, pr_i_1, pr_i_3, pr_i_m1] at h21
                first
                | contradiction
                | exact absurd trivial h21
                | exact absurd h21 (by decide)
                | exact absurd (Classical.not_not.mp h21) (by decide)
                | skip
                  refine pr_seqT (pc' := 48) 5 rfl ⟨⟨⟨⟨⟨trivial, (by first | assumption | (simp only [r9, r0, r1, r2, r3, s1, s2, q0, q1, rc, q3, q4, q5, q6, q7, q8, pr_8_m2, pr_i_0, pr_i_1, pr_i_3, pr_i_m1]; first | assumption | decide | exact ⟨by assumption, by assumption⟩ | exact ⟨Or.inl (by assumption), by assumption⟩ | omega) | decide | exact ⟨Or.inl (by assumption), by assumption⟩ | exact ⟨by assumption, by assumption⟩ | omega)⟩, (by first | assumption | (simp only [r9, r0, r1, r2, r3, s1, s2, q0, q1, rc, q3, q4, q5, q6, q7, q8, pr_8_m2, pr_i_0, pr_i_1, pr_i_3, pr_i_m1]; first | assumption | decide | exact ⟨by assumption, by assumption⟩ | exact ⟨Or.inl (by assumption), by assumption⟩ | omega) | decide | exact ⟨Or.inl (by assumption), by assumption⟩ | exact ⟨by assumption, by assumption⟩ | omega)⟩, (by first | assumption | (simp only [r9, r0, r1, r2, r3, s1, s2, q0, q1, rc, q3, q4, q5, q6, q7, q8, pr_8_m2, pr_i_0, pr_i_1, pr_i_3, pr_i_m1]; first | assumption | decide | exact ⟨by assumption, by assumption⟩ | exact ⟨Or.inl (by assumption), by assumption⟩ | omega) | decide | exact ⟨Or.inl (by assumption), by assumption⟩ | exact ⟨by assumption, by assumption⟩ | omega)⟩, (by first | assumption | (simp only [r9, r0, r1, r2, r3, s1, s2, q0, q1, rc, q3, q4, q5, q6, q7, q8, pr_8_m2, pr_i_0, pr_i_1, pr_i_3, pr_i_m1]; first | assumption | decide | exact ⟨by assumption, by assumption⟩ | exact ⟨Or.inl (by assumption), by assumption⟩ | omega) | decide | exact ⟨Or.inl (by assumption), by assumption⟩ | exact ⟨by assumption, by assumption⟩ | omega)⟩, (by first | assumption | (simp only [r9, r0, r1, r2, r3, s1, s2, q0, q1, rc, q3, q4, q5, q6, q7, q8, pr_8_m2, pr_i_0, pr_i_1, pr_i_3, pr_i_m1]; first | assumption | decide | exact ⟨by assumption, by assumption⟩ | exact ⟨Or.inl (by assumption), by assumption⟩ | omega) | decide | exact ⟨Or.inl (by assumption), by assumption⟩ | exact ⟨by assumption, by assumption⟩ | omega)⟩ ?_
                  try simp only [r9, r0, r1, r2, r3, s1, s2, q0, q1, rc, q3, q4, q5, q6, q7, q8, pr_8_m2, pr_i_0, pr_i_1, pr_i_3, pr_i_m1]
                  fail "no call@48 yX0_take"
              · simp only [ab_cmp, pr_8_m2, pr_i_0, pr_i_1, pr_i_3, pr_i_m1] at h21
                first
                | contradiction
                | exact absurd trivial h21
                | exact absurd h21 (by decide)
                | exact absurd (Classical.not_not.mp h21) (by decide)
                | skip
                  refine pr_seqT (pc' := 31) 3 rfl ⟨⟨⟨trivial, (by first | assumption | (simp only [r9, r0, r1, r2, r3, s1, s2, q0, q1, rc, q3, q4, q5, q6, q7, q8, pr_8_m2, pr_i_0, pr_i_1, pr_i_3, pr_i_m1]; first | assumption | decide | exact ⟨by assumption, by assumption⟩ | exact ⟨Or.inl (by assumption), by assumption⟩ | omega) | decide | exact ⟨Or.inl (by assumption), by assumption⟩ | exact ⟨by assumption, by assumption⟩ | omega)⟩, (by first | assumption | (simp only [r9, r0, r1, r2, r3, s1, s2, q0, q1, rc, q3, q4, q5, q6, q7, q8, pr_8_m2, pr_i_0, pr_i_1, pr_i_3, pr_i_m1]; first | assumption | decide | exact ⟨by assumption, by assumption⟩ | exact ⟨Or.inl (by assumption), by assumption⟩ | omega) | decide | exact ⟨Or.inl (by assumption), by assumption⟩ | exact ⟨by assumption, by assumption⟩ | omega)⟩, (by first | assumption | (simp only [r9, r0, r1, r2, r3, s1, s2, q0, q1, rc, q3, q4, q5, q6, q7, q8, pr_8_m2, pr_i_0, pr_i_1, pr_i_3, pr_i_m1]; first | assumption | decide | exact ⟨by assumption, by assumption⟩ | exact ⟨Or.inl (by assumption), by assumption⟩ | omega) | decide | exact ⟨Or.inl (by assumption), by assumption⟩ | exact ⟨by assumption, by assumption⟩ | omega)⟩ ?_
                  try simp only [r9, r0, r1, r2, r3, s1, s2, q0, q1, rc, q3, q4, q5, q6, q7, q8, pr_8_m2, pr_i_0, pr_i_1, pr_i_3, pr_i_m1]
                  refine pr_ifT rfl (fun h31 => ?_) (fun h31 => ?_)
                  · simp only [ab_cmp, pr_8_m2, pr_i_0, pr_i_1, pr_i_3, pr_i_m1] at h31
                    first
                    | contradiction
                    | exact absurd trivial h31
                    | exact absurd h31 (by decide)
                    | exact absurd (Classical.not_not.mp h31) (by decide)
                    | skip
                      refine pr_seqT (pc' := 48) 5 rfl ⟨⟨⟨⟨⟨trivial, (by first | assumption | (simp only [r9, r0, r1, r2, r3, s1, s2, q0, q1, rc, q3, q4, q5, q6, q7, q8, pr_8_m2, pr_i_0, pr_i_1, pr_i_3, pr_i_m1]; first | assumption | decide | exact ⟨by assumption, by assumption⟩ | exact ⟨Or.inl (by assumption), by assumption⟩ | omega) | decide | exact ⟨Or.inl (by assumption), by assumption⟩ | exact ⟨by assumption, by assumption⟩ | omega)⟩, (by first | assumption | (simp only [r9, r0, r1, r2, r3, s1, s2, q0, q1, rc, q3, q4, q5, q6, q7, q8, pr_8_m2, pr_i_0, pr_i_1, pr_i_3, pr_i_m1]; first | assumption | decide | exact ⟨by assumption, by assumption⟩ | exact ⟨Or.inl (by assumption), by assumption⟩ | omega) | decide | exact ⟨Or.inl (by assumption), by assumption⟩ | exact ⟨by assumption, by assumption⟩ | omega)⟩, (by first | assumption | (simp only [r9, r0, r1, r2, r3, s1, s2, q0, q1, rc, q3, q4, q5, q6, q7, q8, pr_8_m2, pr_i_0, pr_i_1, pr_i_3, pr_i_m1]; first | assumption | decide | exact ⟨by assumption, by assumption⟩ | exact ⟨Or.inl (by assumption), by assumption⟩ | omega) | decide | exact ⟨Or.inl (by assumption), by assumption⟩ | exact ⟨by assumption, by assumption⟩ | omega)⟩, (by first | assumption | (simp only [r9, r0, r1, r2, r3, s1, s2, q0, q1, rc, q3, q4, q5, q6, q7, q8, pr_8_m2, pr_i_0, pr_i_1, pr_i_3, pr_i_m1]; first | assumption | decide | exact ⟨by assumption, by assumption⟩ | exact ⟨Or.inl (by assumption), by assumption⟩ | omega) | decide | exact ⟨Or.inl (by assumption), by assumption⟩ | exact ⟨by assumption, by assumption⟩ | omega)⟩, (by first | assumption | (simp only [r9, r0, r1, r2, r3, s1, s2, q0, q1, rc, q3, q4, q5, q6, q7, q8, pr_8_m2, pr_i_0, pr_i_1, pr_i_3, pr_i_m1]; first | assumption | decide | exact ⟨by assumption, by assumption⟩ | exact ⟨Or.inl (by assumption), by assumption⟩ | omega) | decide | exact ⟨Or.inl (by assumption), by assumption⟩ | exact ⟨by assumption, by assumption⟩ | omega)⟩ ?_
                      try simp only [r9, r0, r1, r2, r3, s1, s2, q0, q1, rc, q3, q4, q5, q6, q7, q8, pr_8_m2, pr_i_0, pr_i_1, pr_i_3, pr_i_m1]
                      fail "no call@48 yX0_take"
                  · simp only [ab_cmp, pr_8_m2, pr_i_0, pr_i_1, pr_i_3, pr_i_m1] at h31
                    first
                    | contradiction
                    | exact absurd trivial h31
                    | exact absurd h31 (by decide)
                    | exact absurd (Classical.not_not.mp h31) (by decide)
                    | skip
                      refine pr_seqT (pc' := 36) 1 rfl ⟨trivial, trivial⟩ ?_
                      try simp only [r9, r0, r1, r2, r3, s1, s2, q0, q1, rc, q3, q4, q5, q6, q7, q8, pr_8_m2, pr_i_0, pr_i_1, pr_i_3, pr_i_m1]
                      exact pr_irT rfl trivial (by first | rfl | (simp only [r9, r0, r1, r2, r3, s1, s2, q0, q1, rc, q3, q4, q5, q6, q7, q8, pr_8_m2, pr_i_0, pr_i_1, pr_i_3, pr_i_m1]; done) | (simp [pr_b, pr_8_m2, pr_i_0, pr_i_1, pr_i_3, pr_i_m1, *]; done) | (simp_all [pr_b, pr_8_m2, pr_i_0, pr_i_1, pr_i_3, pr_i_m1]; done))
          · simp only [ab_cmp, pr_8_m2, pr_i_0, pr_i_1, pr_i_3, pr_i_m1] at h15
            first
            | contradiction
            | exact absurd trivial h15
            | exact absurd h15 (by decide)
            | exact absurd (Classical.not_not.mp h15) (by decide)
            | skip
              refine pr_seqT (pc' := 19) 1 rfl ⟨trivial, trivial⟩ ?_
              try simp only [r9, r0, r1, r2, r3, s1, s2, q0, q1, rc, q3, q4, q5, q6, q7, q8, pr_8_m2, pr_i_0, pr_i_1, pr_i_3, pr_i_m1]
              exact pr_irT rfl trivial (by exact cp_s hl hv)
    · rw [q] at hp
      rw [q'] at hw
      rw [q, q', if_pos (show (true && true) = true from rfl)]
      by_cases a0 : a = 0
      · subst a0
        have y0 : nI 0 ≤ 0 := by decide
        rw [if_neg (fun z => z.1 rfl), if_pos (show nI 0 = 0 from rfl)]
        refine pr_seqT (pc' := 3) 3 rfl ⟨⟨⟨trivial, trivial⟩, trivial⟩, trivial⟩ ?_
        try simp only [r9, r0, r1, r2, r3, s1, s2, q0, q1, rc, q3, q4, q5, q6, q7, q8, pr_8_m2, pr_i_0, pr_i_1, pr_i_3, pr_i_m1]
        refine pr_csT [_, _, _] rfl rfl rfl rfl rfl (Nat.le_of_ble_eq_true rfl) (Nat.le_of_ble_eq_true rfl) (hp) ?_
        refine pr_ifT rfl (fun h6 => ?_) (fun h6 => ?_)
        · simp only [ab_cmp, pr_8_m2, pr_i_0, pr_i_1, pr_i_3, pr_i_m1] at h6
          first
          | contradiction
          | exact absurd trivial h6
          | exact absurd h6 (by decide)
          | exact absurd (Classical.not_not.mp h6) (by decide)
          | skip
            refine pr_seqT (pc' := 19) 1 rfl ⟨trivial, trivial⟩ ?_
            try simp only [r9, r0, r1, r2, r3, s1, s2, q0, q1, rc, q3, q4, q5, q6, q7, q8, pr_8_m2, pr_i_0, pr_i_1, pr_i_3, pr_i_m1]
            exact pr_irT rfl trivial (by first | rfl | (simp only [r9, r0, r1, r2, r3, s1, s2, q0, q1, rc, q3, q4, q5, q6, q7, q8, pr_8_m2, pr_i_0, pr_i_1, pr_i_3, pr_i_m1]; done) | (simp [pr_b, pr_8_m2, pr_i_0, pr_i_1, pr_i_3, pr_i_m1, *]; done) | (simp_all [pr_b, pr_8_m2, pr_i_0, pr_i_1, pr_i_3, pr_i_m1]; done))
        · simp only [ab_cmp, pr_8_m2, pr_i_0, pr_i_1, pr_i_3, pr_i_m1] at h6
          first
          | contradiction
          | exact absurd trivial h6
          | exact absurd h6 (by decide)
          | exact absurd (Classical.not_not.mp h6) (by decide)
          | skip
            refine pr_seqT (pc' := 12) 3 rfl ⟨⟨⟨trivial, trivial⟩, trivial⟩, trivial⟩ ?_
            try simp only [r9, r0, r1, r2, r3, s1, s2, q0, q1, rc, q3, q4, q5, q6, q7, q8, pr_8_m2, pr_i_0, pr_i_1, pr_i_3, pr_i_m1]
            refine pr_csT [_, _, _] rfl rfl rfl rfl rfl (Nat.le_of_ble_eq_true rfl) (Nat.le_of_ble_eq_true rfl) (hw) ?_
            refine pr_ifT rfl (fun h15 => ?_) (fun h15 => ?_)
            · simp only [ab_cmp, pr_8_m2, pr_i_0, pr_i_1, pr_i_3, pr_i_m1] at h15
              first
              | contradiction
              | exact absurd trivial h15
              | exact absurd h15 (by decide)
              | exact absurd (Classical.not_not.mp h15) (by decide)
              | skip
                refine pr_seqT (pc' := 21) 1 rfl ⟨trivial, trivial⟩ ?_
                try simp only [r9, r0, r1, r2, r3, s1, s2, q0, q1, rc, q3, q4, q5, q6, q7, q8, pr_8_m2, pr_i_0, pr_i_1, pr_i_3, pr_i_m1]
                refine pr_ifT rfl (fun h21 => ?_) (fun h21 => ?_)
                · simp only [ab_cmp, pr_8_m2, pr_i_0, pr_i_1, pr_i_3, pr_i_m1] at h21
                  first
                  | contradiction
                  | exact absurd trivial h21
                  | exact absurd h21 (by decide)
                  | exact absurd (Classical.not_not.mp h21) (by decide)
                  | skip
                    refine pr_seqT (pc' := 48) 5 rfl ⟨⟨⟨⟨⟨trivial, (by first | assumption | (simp only [r9, r0, r1, r2, r3, s1, s2, q0, q1, rc, q3, q4, q5, q6, q7, q8, pr_8_m2, pr_i_0, pr_i_1, pr_i_3, pr_i_m1]; first | assumption | decide | exact ⟨by assumption, by assumption⟩ | exact ⟨Or.inl (by assumption), by assumption⟩ | omega) | decide | exact ⟨Or.inl (by assumption), by assumption⟩ | exact ⟨by assumption, by assumption⟩ | omega)⟩, (by first | assumption | (simp only [r9, r0, r1, r2, r3, s1, s2, q0, q1, rc, q3, q4, q5, q6, q7, q8, pr_8_m2, pr_i_0, pr_i_1, pr_i_3, pr_i_m1]; first | assumption | decide | exact ⟨by assumption, by assumption⟩ | exact ⟨Or.inl (by assumption), by assumption⟩ | omega) | decide | exact ⟨Or.inl (by assumption), by assumption⟩ | exact ⟨by assumption, by assumption⟩ | omega)⟩, (by first | assumption | (simp only [r9, r0, r1, r2, r3, s1, s2, q0, q1, rc, q3, q4, q5, q6, q7, q8, pr_8_m2, pr_i_0, pr_i_1, pr_i_3, pr_i_m1]; first | assumption | decide | exact ⟨by assumption, by assumption⟩ | exact ⟨Or.inl (by assumption), by assumption⟩ | omega) | decide | exact ⟨Or.inl (by assumption), by assumption⟩ | exact ⟨by assumption, by assumption⟩ | omega)⟩, (by first | assumption | (simp only [r9, r0, r1, r2, r3, s1, s2, q0, q1, rc, q3, q4, q5, q6, q7, q8, pr_8_m2, pr_i_0, pr_i_1, pr_i_3, pr_i_m1]; first | assumption | decide | exact ⟨by assumption, by assumption⟩ | exact ⟨Or.inl (by assumption), by assumption⟩ | omega) | decide | exact ⟨Or.inl (by assumption), by assumption⟩ | exact ⟨by assumption, by assumption⟩ | omega)⟩, (by first | assumption | (simp only [r9, r0, r1, r2, r3, s1, s2, q0, q1, rc, q3, q4, q5, q6, q7, q8, pr_8_m2, pr_i_0, pr_i_1, pr_i_3, pr_i_m1]; first | assumption | decide | exact ⟨by assumption, by assumption⟩ | exact ⟨Or.inl (by assumption), by assumption⟩ | omega) | decide | exact ⟨Or.inl (by assumption), by assumption⟩ | exact ⟨by assumption, by assumption⟩ | omega)⟩ ?_
                    try simp only [r9, r0, r1, r2, r3, s1, s2, q0, q1, rc, q3, q4, q5, q6, q7, q8, pr_8_m2, pr_i_0, pr_i_1, pr_i_3, pr_i_m1]
                    refine pr_cvX [_] rfl rfl rfl rfl rfl (Nat.le_of_ble_eq_true rfl) (by first | assumption | (simp only [r9, r0, r1, r2, r3, s1, s2, q0, q1, rc, q3, q4, q5, q6, q7, q8, pr_8_m2, pr_i_0, pr_i_1, pr_i_3, pr_i_m1]; first | assumption | decide | exact ⟨by assumption, by assumption⟩ | exact ⟨Or.inl (by assumption), by assumption⟩ | omega) | decide | exact ⟨Or.inl (by assumption), by assumption⟩ | exact ⟨by assumption, by assumption⟩ | omega) (Nat.le_of_ble_eq_true rfl) (c_take h M hc hg hb hd) (fun v48 M48 q48 => ?_)
                    obtain ⟨rfl, e2, e3, e4⟩ := q48
                    obtain ⟨I1, Z1⟩ := M48
                    dsimp only at e2 e3 e4
                    subst e2
                    refine pr_seqT (pc' := 55) 2 rfl ⟨⟨trivial, (by first | assumption | (simp only [r9, r0, r1, r2, r3, s1, s2, q0, q1, rc, q3, q4, q5, q6, q7, q8, pr_8_m2, pr_i_0, pr_i_1, pr_i_3, pr_i_m1]; first | assumption | decide | exact ⟨by assumption, by assumption⟩ | exact ⟨Or.inl (by assumption), by assumption⟩ | omega) | decide | exact ⟨Or.inl (by assumption), by assumption⟩ | exact ⟨by assumption, by assumption⟩ | omega)⟩, (by first | assumption | (simp only [r9, r0, r1, r2, r3, s1, s2, q0, q1, rc, q3, q4, q5, q6, q7, q8, pr_8_m2, pr_i_0, pr_i_1, pr_i_3, pr_i_m1]; first | assumption | decide | exact ⟨by assumption, by assumption⟩ | exact ⟨Or.inl (by assumption), by assumption⟩ | omega) | decide | exact ⟨Or.inl (by assumption), by assumption⟩ | exact ⟨by assumption, by assumption⟩ | omega)⟩ ?_
                    try simp only [r9, r0, r1, r2, r3, s1, s2, q0, q1, rc, q3, q4, q5, q6, q7, q8, pr_8_m2, pr_i_0, pr_i_1, pr_i_3, pr_i_m1]
                    refine pr_cvT [] rfl rfl rfl rfl rfl (Nat.le_of_ble_eq_true rfl) (by first | assumption | (simp only [r9, r0, r1, r2, r3, s1, s2, q0, q1, rc, q3, q4, q5, q6, q7, q8, pr_8_m2, pr_i_0, pr_i_1, pr_i_3, pr_i_m1]; first | assumption | decide | exact ⟨by assumption, by assumption⟩ | exact ⟨Or.inl (by assumption), by assumption⟩ | omega) | decide | exact ⟨Or.inl (by assumption), by assumption⟩ | exact ⟨by assumption, by assumption⟩ | omega) (Nat.le_of_ble_eq_true rfl) (c_howMany h (I1, M.2) hc e3) ?_
                    refine pr_seqT (pc' := 60) 2 rfl ⟨⟨trivial, trivial⟩, trivial⟩ ?_
                    try simp only [r9, r0, r1, r2, r3, s1, s2, q0, q1, rc, q3, q4, q5, q6, q7, q8, pr_8_m2, pr_i_0, pr_i_1, pr_i_3, pr_i_m1]
                    refine pr_ifT rfl (fun h60 => ?_) (fun h60 => ?_)
                    · simp only [ab_cmp, pr_8_m2, pr_i_0, pr_i_1, pr_i_3, pr_i_m1] at h60
                      first
                      | contradiction
                      | exact absurd trivial h60
                      | exact absurd h60 (by decide)
                      | exact absurd (Classical.not_not.mp h60) (by decide)
                      | skip
                        fail
                    · simp only [ab_cmp, pr_8_m2, pr_i_0, pr_i_1, pr_i_3, pr_i_m1] at h60
                      first
                      | contradiction
                      | exact absurd trivial h60
                      | exact absurd h60 (by decide)
                      | exact absurd (Classical.not_not.mp h60) (by decide)
                      | skip
                        refine pr_seqT (pc' := 64) 1 rfl ⟨trivial, trivial⟩ ?_
                        try simp only [r9, r0, r1, r2, r3, s1, s2, q0, q1, rc, q3, q4, q5, q6, q7, q8, pr_8_m2, pr_i_0, pr_i_1, pr_i_3, pr_i_m1]
                        exact pr_irT rfl trivial (cp_q hl hv rfl (cs_same e4))
                · simp only [ab_cmp, pr_8_m2, pr_i_0, pr_i_1, pr_i_3, pr_i_m1] at h21
                  first
                  | contradiction
                  | exact absurd trivial h21
                  | exact absurd h21 (by decide)
                  | exact absurd (Classical.not_not.mp h21) (by decide)
                  | skip
                    fail
            · simp only [ab_cmp, pr_8_m2, pr_i_0, pr_i_1, pr_i_3, pr_i_m1] at h15
              first
              | contradiction
              | exact absurd trivial h15
              | exact absurd h15 (by decide)
              | exact absurd (Classical.not_not.mp h15) (by decide)
              | skip
                refine pr_seqT (pc' := 19) 1 rfl ⟨trivial, trivial⟩ ?_
                try simp only [r9, r0, r1, r2, r3, s1, s2, q0, q1, rc, q3, q4, q5, q6, q7, q8, pr_8_m2, pr_i_0, pr_i_1, pr_i_3, pr_i_m1]
                exact pr_irT rfl trivial (by first | rfl | (simp only [r9, r0, r1, r2, r3, s1, s2, q0, q1, rc, q3, q4, q5, q6, q7, q8, pr_8_m2, pr_i_0, pr_i_1, pr_i_3, pr_i_m1]; done) | (simp [pr_b, pr_8_m2, pr_i_0, pr_i_1, pr_i_3, pr_i_m1, *]; done) | (simp_all [pr_b, pr_8_m2, pr_i_0, pr_i_1, pr_i_3, pr_i_m1]; done))
      · have na : ¬ nI a = 0 := nI_ne (b := 0) a0 (by omega) (by decide)
        have na2 : ¬ nI a ≤ 0 := fun q => a0 (by
          have := (nI_leI (a := a) (b := 0) (by omega) (by omega)).mp q
          omega)
        by_cases z : X.1.2.1.length = 0
        · rw [if_pos ⟨na, z⟩]
          rw [z] at v2
          have v2 : M.1 (tB b) 4 = 0 := v2
          refine pr_seqT (pc' := 3) 3 rfl ⟨⟨⟨trivial, trivial⟩, trivial⟩, trivial⟩ ?_
          try simp only [r9, r0, r1, r2, r3, s1, s2, q0, q1, rc, q3, q4, q5, q6, q7, q8, v2, pr_8_m2, pr_i_0, pr_i_1, pr_i_3, pr_i_m1]
          refine pr_csT [_, _, _] rfl rfl rfl rfl rfl (Nat.le_of_ble_eq_true rfl) (Nat.le_of_ble_eq_true rfl) (hp) ?_
          refine pr_ifT rfl (fun h6 => ?_) (fun h6 => ?_)
          · simp only [ab_cmp, pr_8_m2, pr_i_0, pr_i_1, pr_i_3, pr_i_m1] at h6
            first
            | contradiction
            | exact absurd trivial h6
            | exact absurd h6 (by decide)
            | exact absurd (Classical.not_not.mp h6) (by decide)
            | skip
              refine pr_seqT (pc' := 19) 1 rfl ⟨trivial, trivial⟩ ?_
              try simp only [r9, r0, r1, r2, r3, s1, s2, q0, q1, rc, q3, q4, q5, q6, q7, q8, v2, pr_8_m2, pr_i_0, pr_i_1, pr_i_3, pr_i_m1]
              exact pr_irT rfl trivial (by first | rfl | (simp only [r9, r0, r1, r2, r3, s1, s2, q0, q1, rc, q3, q4, q5, q6, q7, q8, v2, pr_8_m2, pr_i_0, pr_i_1, pr_i_3, pr_i_m1]; done) | (simp [pr_b, pr_8_m2, pr_i_0, pr_i_1, pr_i_3, pr_i_m1, *]; done) | (simp_all [pr_b, pr_8_m2, pr_i_0, pr_i_1, pr_i_3, pr_i_m1]; done))
          · simp only [ab_cmp, pr_8_m2, pr_i_0, pr_i_1, pr_i_3, pr_i_m1] at h6
            first
            | contradiction
            | exact absurd trivial h6
            | exact absurd h6 (by decide)
            | exact absurd (Classical.not_not.mp h6) (by decide)
            | skip
              refine pr_seqT (pc' := 12) 3 rfl ⟨⟨⟨trivial, trivial⟩, trivial⟩, trivial⟩ ?_
              try simp only [r9, r0, r1, r2, r3, s1, s2, q0, q1, rc, q3, q4, q5, q6, q7, q8, v2, pr_8_m2, pr_i_0, pr_i_1, pr_i_3, pr_i_m1]
              refine pr_csT [_, _, _] rfl rfl rfl rfl rfl (Nat.le_of_ble_eq_true rfl) (Nat.le_of_ble_eq_true rfl) (hw) ?_
              refine pr_ifT rfl (fun h15 => ?_) (fun h15 => ?_)
              · simp only [ab_cmp, pr_8_m2, pr_i_0, pr_i_1, pr_i_3, pr_i_m1] at h15
                first
                | contradiction
                | exact absurd trivial h15
                | exact absurd h15 (by decide)
                | exact absurd (Classical.not_not.mp h15) (by decide)
                | skip
                  refine pr_seqT (pc' := 21) 1 rfl ⟨trivial, trivial⟩ ?_
                  try simp only [r9, r0, r1, r2, r3, s1, s2, q0, q1, rc, q3, q4, q5, q6, q7, q8, v2, pr_8_m2, pr_i_0, pr_i_1, pr_i_3, pr_i_m1]
                  refine pr_ifT rfl (fun h21 => ?_) (fun h21 => ?_)
                  · simp only [ab_cmp, pr_8_m2, pr_i_0, pr_i_1, pr_i_3, pr_i_m1] at h21
                    first
                    | contradiction
                    | exact absurd trivial h21
                    | exact absurd h21 (by decide)
                    | exact absurd (Classical.not_not.mp h21) (by decide)
                    | skip
                      fail
                  · simp only [ab_cmp, pr_8_m2, pr_i_0, pr_i_1, pr_i_3, pr_i_m1] at h21
                    first
                    | contradiction
                    | exact absurd trivial h21
                    | exact absurd h21 (by decide)
                    | exact absurd (Classical.not_not.mp h21) (by decide)
                    | skip
                      refine pr_seqT (pc' := 31) 3 rfl ⟨⟨⟨trivial, (by first | assumption | (simp only [r9, r0, r1, r2, r3, s1, s2, q0, q1, rc, q3, q4, q5, q6, q7, q8, v2, pr_8_m2, pr_i_0, pr_i_1, pr_i_3, pr_i_m1]; first | assumption | decide | exact ⟨by assumption, by assumption⟩ | exact ⟨Or.inl (by assumption), by assumption⟩ | omega) | decide | exact ⟨Or.inl (by assumption), by assumption⟩ | exact ⟨by assumption, by assumption⟩ | omega)⟩, (by first | assumption | (simp only [r9, r0, r1, r2, r3, s1, s2, q0, q1, rc, q3, q4, q5, q6, q7, q8, v2, pr_8_m2, pr_i_0, pr_i_1, pr_i_3, pr_i_m1]; first | assumption | decide | exact ⟨by assumption, by assumption⟩ | exact ⟨Or.inl (by assumption), by assumption⟩ | omega) | decide | exact ⟨Or.inl (by assumption), by assumption⟩ | exact ⟨by assumption, by assumption⟩ | omega)⟩, (by first | assumption | (simp only [r9, r0, r1, r2, r3, s1, s2, q0, q1, rc, q3, q4, q5, q6, q7, q8, v2, pr_8_m2, pr_i_0, pr_i_1, pr_i_3, pr_i_m1]; first | assumption | decide | exact ⟨by assumption, by assumption⟩ | exact ⟨Or.inl (by assumption), by assumption⟩ | omega) | decide | exact ⟨Or.inl (by assumption), by assumption⟩ | exact ⟨by assumption, by assumption⟩ | omega)⟩ ?_
                      try simp only [r9, r0, r1, r2, r3, s1, s2, q0, q1, rc, q3, q4, q5, q6, q7, q8, v2, pr_8_m2, pr_i_0, pr_i_1, pr_i_3, pr_i_m1]
                      refine pr_ifT rfl (fun h31 => ?_) (fun h31 => ?_)
                      · simp only [ab_cmp, pr_8_m2, pr_i_0, pr_i_1, pr_i_3, pr_i_m1] at h31
                        first
                        | contradiction
                        | exact absurd trivial h31
                        | exact absurd h31 (by decide)
                        | exact absurd (Classical.not_not.mp h31) (by decide)
                        | skip
                          fail
                      · simp only [ab_cmp, pr_8_m2, pr_i_0, pr_i_1, pr_i_3, pr_i_m1] at h31
                        first
                        | contradiction
                        | exact absurd trivial h31
                        | exact absurd h31 (by decide)
                        | exact absurd (Classical.not_not.mp h31) (by decide)
                        | skip
                          refine pr_seqT (pc' := 36) 1 rfl ⟨trivial, trivial⟩ ?_
                          try simp only [r9, r0, r1, r2, r3, s1, s2, q0, q1, rc, q3, q4, q5, q6, q7, q8, v2, pr_8_m2, pr_i_0, pr_i_1, pr_i_3, pr_i_m1]
                          exact pr_irT rfl trivial (by exact cp_s hl hv)
              · simp only [ab_cmp, pr_8_m2, pr_i_0, pr_i_1, pr_i_3, pr_i_m1] at h15
                first
                | contradiction
                | exact absurd trivial h15
                | exact absurd h15 (by decide)
                | exact absurd (Classical.not_not.mp h15) (by decide)
                | skip
                  refine pr_seqT (pc' := 19) 1 rfl ⟨trivial, trivial⟩ ?_
                  try simp only [r9, r0, r1, r2, r3, s1, s2, q0, q1, rc, q3, q4, q5, q6, q7, q8, v2, pr_8_m2, pr_i_0, pr_i_1, pr_i_3, pr_i_m1]
                  exact pr_irT rfl trivial (by first | rfl | (simp only [r9, r0, r1, r2, r3, s1, s2, q0, q1, rc, q3, q4, q5, q6, q7, q8, v2, pr_8_m2, pr_i_0, pr_i_1, pr_i_3, pr_i_m1]; done) | (simp [pr_b, pr_8_m2, pr_i_0, pr_i_1, pr_i_3, pr_i_m1, *]; done) | (simp_all [pr_b, pr_8_m2, pr_i_0, pr_i_1, pr_i_3, pr_i_m1]; done))
        · have z' : ¬ nI X.1.2.1.length = 0 := nI_ne (b := 0) z (by omega) (by decide)
          rw [if_neg (fun q => z q.2), if_neg na]
          have loop : ∀ dd i, i + dd = X.1.2.1.length → ∀ I : Nat → Nat → Int32, cl_same M.1 I → cs_v I 49 (x_n X) (x_S X) (x_K X) (x_D X) (x_W X) → pr_T pX10_crowd 71 [some (.ref 1), some (.int (nI a)), some (.int (nI k)), some (.int (f_persons X)), some (.int (pr_b (!nb (x_hl X) i))), some (.int (nI i))] [] h (I, M.2) (cp h M (if nI k = 0 then (if nb (x_hl X) X.1.2.1.length then f_persons X + 1 else f_persons X) else i_min (f_persons X + nI a) (x_pc X (fun i => nI (x_ls X i)) X.1.2.1.length), X)) := by
            intro dd
            induction dd with
            | zero =>
              intro i hi I hs hcv
              obtain rfl : i = X.1.2.1.length := by omega
              have v2' : I (tB b) 4 = nI X.1.2.1.length := by rw [hs _ (by omega)]; exact v2
              have e1 : nI X.1.2.1.length ≤ nI X.1.2.1.length := nI_le (Nat.le_refl _) (by omega)
              rcases (show k = 0 ∨ k = 1 by omega) with rfl | rfl
              · rw [if_pos (show nI 0 = 0 from rfl)]
                cases hz : nb (x_hl X) X.1.2.1.length with
                | true =>
                  rw [if_pos rfl]
                  refine pr_seqT (pc' := 80) 4 rfl ⟨⟨⟨⟨trivial, trivial⟩, (by first | assumption | (simp only [r9, r0, r1, r2, r3, s1, s2, q0, q1, rc, q3, q4, q5, q6, q7, q8, v2', pr_8_m2, pr_i_0, pr_i_1, pr_i_3, pr_i_m1]; first | assumption | decide | exact ⟨by assumption, by assumption⟩ | exact ⟨Or.inl (by assumption), by assumption⟩ | omega) | decide | exact ⟨Or.inl (by assumption), by assumption⟩ | exact ⟨by assumption, by assumption⟩ | omega)⟩, (by first | assumption | (simp only [r9, r0, r1, r2, r3, s1, s2, q0, q1, rc, q3, q4, q5, q6, q7, q8, v2', pr_8_m2, pr_i_0, pr_i_1, pr_i_3, pr_i_m1]; first | assumption | decide | exact ⟨by assumption, by assumption⟩ | exact ⟨Or.inl (by assumption), by assumption⟩ | omega) | decide | exact ⟨Or.inl (by assumption), by assumption⟩ | exact ⟨by assumption, by assumption⟩ | omega)⟩, (by first | assumption | (simp only [r9, r0, r1, r2, r3, s1, s2, q0, q1, rc, q3, q4, q5, q6, q7, q8, v2', pr_8_m2, pr_i_0, pr_i_1, pr_i_3, pr_i_m1]; first | assumption | decide | exact ⟨by assumption, by assumption⟩ | exact ⟨Or.inl (by assumption), by assumption⟩ | omega) | decide | exact ⟨Or.inl (by assumption), by assumption⟩ | exact ⟨by assumption, by assumption⟩ | omega)⟩ ?_
                  try simp only [r9, r0, r1, r2, r3, s1, s2, q0, q1, rc, q3, q4, q5, q6, q7, q8, v2', pr_8_m2, pr_i_0, pr_i_1, pr_i_3, pr_i_m1]
                  refine pr_icT rfl (fun h80 => ?_) (fun h80 => ?_)
                  · simp only [ab_cmp, pr_8_m2, pr_i_0, pr_i_1, pr_i_3, pr_i_m1] at h80
                    first
                    | contradiction
                    | exact absurd trivial h80
                    | exact absurd h80 (by decide)
                    | exact absurd (Classical.not_not.mp h80) (by decide)
                    | exact absurd rfl h80
                    | skip
                      refine pr_seqT (pc' := 121) 1 rfl ⟨trivial, trivial⟩ ?_
                      try simp only [r9, r0, r1, r2, r3, s1, s2, q0, q1, rc, q3, q4, q5, q6, q7, q8, v2', pr_8_m2, pr_i_0, pr_i_1, pr_i_3, pr_i_m1]
                      refine pr_ifT rfl (fun h121 => ?_) (fun h121 => ?_)
                      · simp only [ab_cmp, pr_8_m2, pr_i_0, pr_i_1, pr_i_3, pr_i_m1] at h121
                        first
                        | contradiction
                        | exact absurd trivial h121
                        | exact absurd h121 (by decide)
                        | exact absurd (Classical.not_not.mp h121) (by decide)
                        | exact absurd rfl h121
                        | skip
                          fail
                      · simp only [ab_cmp, pr_8_m2, pr_i_0, pr_i_1, pr_i_3, pr_i_m1] at h121
                        first
                        | contradiction
                        | exact absurd trivial h121
                        | exact absurd h121 (by decide)
                        | exact absurd (Classical.not_not.mp h121) (by decide)
                        | exact absurd rfl h121
                        | skip
                          refine pr_seqT (pc' := 126) 1 rfl ⟨trivial, trivial⟩ ?_
                          try simp only [r9, r0, r1, r2, r3, s1, s2, q0, q1, rc, q3, q4, q5, q6, q7, q8, v2', pr_8_m2, pr_i_0, pr_i_1, pr_i_3, pr_i_m1]
                          refine pr_ifT rfl (fun h126 => ?_) (fun h126 => ?_)
                          · simp only [ab_cmp, pr_8_m2, pr_i_0, pr_i_1, pr_i_3, pr_i_m1] at h126
                            first
                            | contradiction
                            | exact absurd trivial h126
                            | exact absurd h126 (by decide)
                            | exact absurd (Classical.not_not.mp h126) (by decide)
                            | exact absurd rfl h126
                            | skip
                              refine pr_seqT (pc' := 136) 3 rfl ⟨⟨⟨trivial, trivial⟩, trivial⟩, trivial⟩ ?_
                              try simp only [r9, r0, r1, r2, r3, s1, s2, q0, q1, rc, q3, q4, q5, q6, q7, q8, v2', pr_8_m2, pr_i_0, pr_i_1, pr_i_3, pr_i_m1]
                              exact pr_irT rfl trivial (cp_q hl hv rfl hs)
                          · simp only [ab_cmp, pr_8_m2, pr_i_0, pr_i_1, pr_i_3, pr_i_m1] at h126
                            first
                            | contradiction
                            | exact absurd trivial h126
                            | exact absurd h126 (by decide)
                            | exact absurd (Classical.not_not.mp h126) (by decide)
                            | exact absurd rfl h126
                            | skip
                              refine pr_seqT (pc' := 136) 2 rfl ⟨⟨trivial, trivial⟩, trivial⟩ ?_
                              try simp only [r9, r0, r1, r2, r3, s1, s2, q0, q1, rc, q3, q4, q5, q6, q7, q8, v2', pr_8_m2, pr_i_0, pr_i_1, pr_i_3, pr_i_m1]
                              exact pr_irT rfl trivial (cp_q hl hv rfl hs)
                  · simp only [ab_cmp, pr_8_m2, pr_i_0, pr_i_1, pr_i_3, pr_i_m1] at h80
                    first
                    | contradiction
                    | exact absurd trivial h80
                    | exact absurd h80 (by decide)
                    | exact absurd (Classical.not_not.mp h80) (by decide)
                    | exact absurd rfl h80
                    | skip
                      fail
                | false =>
                  rw [if_neg (by decide)]
                  refine pr_seqT (pc' := 80) 4 rfl ⟨⟨⟨⟨trivial, trivial⟩, (by first | assumption | (simp only [r9, r0, r1, r2, r3, s1, s2, q0, q1, rc, q3, q4, q5, q6, q7, q8, v2', pr_8_m2, pr_i_0, pr_i_1, pr_i_3, pr_i_m1]; first | assumption | decide | exact ⟨by assumption, by assumption⟩ | exact ⟨Or.inl (by assumption), by assumption⟩ | omega) | decide | exact ⟨Or.inl (by assumption), by assumption⟩ | exact ⟨by assumption, by assumption⟩ | omega)⟩, (by first | assumption | (simp only [r9, r0, r1, r2, r3, s1, s2, q0, q1, rc, q3, q4, q5, q6, q7, q8, v2', pr_8_m2, pr_i_0, pr_i_1, pr_i_3, pr_i_m1]; first | assumption | decide | exact ⟨by assumption, by assumption⟩ | exact ⟨Or.inl (by assumption), by assumption⟩ | omega) | decide | exact ⟨Or.inl (by assumption), by assumption⟩ | exact ⟨by assumption, by assumption⟩ | omega)⟩, (by first | assumption | (simp only [r9, r0, r1, r2, r3, s1, s2, q0, q1, rc, q3, q4, q5, q6, q7, q8, v2', pr_8_m2, pr_i_0, pr_i_1, pr_i_3, pr_i_m1]; first | assumption | decide | exact ⟨by assumption, by assumption⟩ | exact ⟨Or.inl (by assumption), by assumption⟩ | omega) | decide | exact ⟨Or.inl (by assumption), by assumption⟩ | exact ⟨by assumption, by assumption⟩ | omega)⟩ ?_
                  try simp only [r9, r0, r1, r2, r3, s1, s2, q0, q1, rc, q3, q4, q5, q6, q7, q8, v2', pr_8_m2, pr_i_0, pr_i_1, pr_i_3, pr_i_m1]
                  refine pr_icT rfl (fun h80 => ?_) (fun h80 => ?_)
                  · simp only [ab_cmp, pr_8_m2, pr_i_0, pr_i_1, pr_i_3, pr_i_m1] at h80
                    first
                    | contradiction
                    | exact absurd trivial h80
                    | exact absurd h80 (by decide)
                    | exact absurd (Classical.not_not.mp h80) (by decide)
                    | exact absurd rfl h80
                    | skip
                      refine pr_seqT (pc' := 121) 1 rfl ⟨trivial, trivial⟩ ?_
                      try simp only [r9, r0, r1, r2, r3, s1, s2, q0, q1, rc, q3, q4, q5, q6, q7, q8, v2', pr_8_m2, pr_i_0, pr_i_1, pr_i_3, pr_i_m1]
                      refine pr_ifT rfl (fun h121 => ?_) (fun h121 => ?_)
                      · simp only [ab_cmp, pr_8_m2, pr_i_0, pr_i_1, pr_i_3, pr_i_m1] at h121
                        first
                        | contradiction
                        | exact absurd trivial h121
                        | exact absurd h121 (by decide)
                        | exact absurd (Classical.not_not.mp h121) (by decide)
                        | exact absurd rfl h121
                        | skip
                          fail
                      · simp only [ab_cmp, pr_8_m2, pr_i_0, pr_i_1, pr_i_3, pr_i_m1] at h121
                        first
                        | contradiction
                        | exact absurd trivial h121
                        | exact absurd h121 (by decide)
                        | exact absurd (Classical.not_not.mp h121) (by decide)
                        | exact absurd rfl h121
                        | skip
                          refine pr_seqT (pc' := 126) 1 rfl ⟨trivial, trivial⟩ ?_
                          try simp only [r9, r0, r1, r2, r3, s1, s2, q0, q1, rc, q3, q4, q5, q6, q7, q8, v2', pr_8_m2, pr_i_0, pr_i_1, pr_i_3, pr_i_m1]
                          refine pr_ifT rfl (fun h126 => ?_) (fun h126 => ?_)
                          · simp only [ab_cmp, pr_8_m2, pr_i_0, pr_i_1, pr_i_3, pr_i_m1] at h126
                            first
                            | contradiction
                            | exact absurd trivial h126
                            | exact absurd h126 (by decide)
                            | exact absurd (Classical.not_not.mp h126) (by decide)
                            | exact absurd rfl h126
                            | skip
                              refine pr_seqT (pc' := 136) 3 rfl ⟨⟨⟨trivial, trivial⟩, trivial⟩, trivial⟩ ?_
                              try simp only [r9, r0, r1, r2, r3, s1, s2, q0, q1, rc, q3, q4, q5, q6, q7, q8, v2', pr_8_m2, pr_i_0, pr_i_1, pr_i_3, pr_i_m1]
                              exact pr_irT rfl trivial (cp_q hl hv rfl hs)
                          · simp only [ab_cmp, pr_8_m2, pr_i_0, pr_i_1, pr_i_3, pr_i_m1] at h126
                            first
                            | contradiction
                            | exact absurd trivial h126
                            | exact absurd h126 (by decide)
                            | exact absurd (Classical.not_not.mp h126) (by decide)
                            | exact absurd rfl h126
                            | skip
                              refine pr_seqT (pc' := 136) 2 rfl ⟨⟨trivial, trivial⟩, trivial⟩ ?_
                              try simp only [r9, r0, r1, r2, r3, s1, s2, q0, q1, rc, q3, q4, q5, q6, q7, q8, v2', pr_8_m2, pr_i_0, pr_i_1, pr_i_3, pr_i_m1]
                              exact pr_irT rfl trivial (cp_q hl hv rfl hs)
                  · simp only [ab_cmp, pr_8_m2, pr_i_0, pr_i_1, pr_i_3, pr_i_m1] at h80
                    first
                    | contradiction
                    | exact absurd trivial h80
                    | exact absurd h80 (by decide)
                    | exact absurd (Classical.not_not.mp h80) (by decide)
                    | exact absurd rfl h80
                    | skip
                      fail
              · rw [if_neg (show ¬ nI 1 = 0 by decide)]
                have h2 := p_crowd2 (z4 := pr_b (!nb (x_hl X) X.1.2.1.length)) ha h M hl hv X.1.2.1.length 0 (by omega) I hs (cs_xch0 _ hcv)
                refine pr_seqT (pc' := 80) 4 rfl ⟨⟨⟨⟨trivial, trivial⟩, (by first | assumption | (simp only [r9, r0, r1, r2, r3, s1, s2, q0, q1, rc, q3, q4, q5, q6, q7, q8, v2', pr_8_m2, pr_i_0, pr_i_1, pr_i_3, pr_i_m1]; first | assumption | decide | exact ⟨by assumption, by assumption⟩ | exact ⟨Or.inl (by assumption), by assumption⟩ | omega) | decide | exact ⟨Or.inl (by assumption), by assumption⟩ | exact ⟨by assumption, by assumption⟩ | omega)⟩, (by first | assumption | (simp only [r9, r0, r1, r2, r3, s1, s2, q0, q1, rc, q3, q4, q5, q6, q7, q8, v2', pr_8_m2, pr_i_0, pr_i_1, pr_i_3, pr_i_m1]; first | assumption | decide | exact ⟨by assumption, by assumption⟩ | exact ⟨Or.inl (by assumption), by assumption⟩ | omega) | decide | exact ⟨Or.inl (by assumption), by assumption⟩ | exact ⟨by assumption, by assumption⟩ | omega)⟩, (by first | assumption | (simp only [r9, r0, r1, r2, r3, s1, s2, q0, q1, rc, q3, q4, q5, q6, q7, q8, v2', pr_8_m2, pr_i_0, pr_i_1, pr_i_3, pr_i_m1]; first | assumption | decide | exact ⟨by assumption, by assumption⟩ | exact ⟨Or.inl (by assumption), by assumption⟩ | omega) | decide | exact ⟨Or.inl (by assumption), by assumption⟩ | exact ⟨by assumption, by assumption⟩ | omega)⟩ ?_
                try simp only [r9, r0, r1, r2, r3, s1, s2, q0, q1, rc, q3, q4, q5, q6, q7, q8, v2', pr_8_m2, pr_i_0, pr_i_1, pr_i_3, pr_i_m1]
                refine pr_icT rfl (fun h80 => ?_) (fun h80 => ?_)
                · simp only [ab_cmp, pr_8_m2, pr_i_0, pr_i_1, pr_i_3, pr_i_m1] at h80
                  first
                  | contradiction
                  | exact absurd trivial h80
                  | exact absurd h80 (by decide)
                  | exact absurd (Classical.not_not.mp h80) (by decide)
                  | skip
                    refine pr_seqT (pc' := 121) 1 rfl ⟨trivial, trivial⟩ ?_
                    try simp only [r9, r0, r1, r2, r3, s1, s2, q0, q1, rc, q3, q4, q5, q6, q7, q8, v2', pr_8_m2, pr_i_0, pr_i_1, pr_i_3, pr_i_m1]
                    refine pr_ifT rfl (fun h121 => ?_) (fun h121 => ?_)
                    · simp only [ab_cmp, pr_8_m2, pr_i_0, pr_i_1, pr_i_3, pr_i_m1] at h121
                      first
                      | contradiction
                      | exact absurd trivial h121
                      | exact absurd h121 (by decide)
                      | exact absurd (Classical.not_not.mp h121) (by decide)
                      | skip
                        refine pr_seqT (pc' := 140) 2 rfl ⟨⟨trivial, trivial⟩, trivial⟩ ?_
                        try simp only [r9, r0, r1, r2, r3, s1, s2, q0, q1, rc, q3, q4, q5, q6, q7, q8, v2', pr_8_m2, pr_i_0, pr_i_1, pr_i_3, pr_i_m1]
                        exact h2
                    · simp only [ab_cmp, pr_8_m2, pr_i_0, pr_i_1, pr_i_3, pr_i_m1] at h121
                      first
                      | contradiction
                      | exact absurd trivial h121
                      | exact absurd h121 (by decide)
                      | exact absurd (Classical.not_not.mp h121) (by decide)
                      | skip
                        fail
                · simp only [ab_cmp, pr_8_m2, pr_i_0, pr_i_1, pr_i_3, pr_i_m1] at h80
                  first
                  | contradiction
                  | exact absurd trivial h80
                  | exact absurd h80 (by decide)
                  | exact absurd (Classical.not_not.mp h80) (by decide)
                  | skip
                    fail
            | succ dd ih =>
              intro i hi I hs hcv
              have v2' : I (tB b) 4 = nI X.1.2.1.length := by rw [hs _ (by omega)]; exact v2
              have e1 : ¬ nI X.1.2.1.length ≤ nI i := nI_ge (by omega) (by omega)
              have hls := c_ls (X := X) (i := i) h (I, M.2) ht (tl_v_same hs hT) (by omega)
              have hho := c_holds (nI (x_ls X i)) h (I, M.2) hc hcv
              have hh := ih (i + 1) (by omega) I hs hcv
              have en : nb (x_hl X) (i + 1) = (nb (x_hl X) i && !x_hl X i) := rfl
              rw [← nI_1, en] at hh
              cases hz : nb (x_hl X) i with
              | false =>
                rw [hz] at hh
                refine pr_seqT (pc' := 80) 4 rfl ⟨⟨⟨⟨trivial, trivial⟩, (by first | assumption | (simp only [r9, r0, r1, r2, r3, s1, s2, q0, q1, rc, q3, q4, q5, q6, q7, q8, v2', pr_8_m2, pr_i_0, pr_i_1, pr_i_3, pr_i_m1]; first | assumption | decide | exact ⟨by assumption, by assumption⟩ | exact ⟨Or.inl (by assumption), by assumption⟩ | omega) | decide | exact ⟨Or.inl (by assumption), by assumption⟩ | exact ⟨by assumption, by assumption⟩ | omega)⟩, (by first | assumption | (simp only [r9, r0, r1, r2, r3, s1, s2, q0, q1, rc, q3, q4, q5, q6, q7, q8, v2', pr_8_m2, pr_i_0, pr_i_1, pr_i_3, pr_i_m1]; first | assumption | decide | exact ⟨by assumption, by assumption⟩ | exact ⟨Or.inl (by assumption), by assumption⟩ | omega) | decide | exact ⟨Or.inl (by assumption), by assumption⟩ | exact ⟨by assumption, by assumption⟩ | omega)⟩, (by first | assumption | (simp only [r9, r0, r1, r2, r3, s1, s2, q0, q1, rc, q3, q4, q5, q6, q7, q8, v2', pr_8_m2, pr_i_0, pr_i_1, pr_i_3, pr_i_m1]; first | assumption | decide | exact ⟨by assumption, by assumption⟩ | exact ⟨Or.inl (by assumption), by assumption⟩ | omega) | decide | exact ⟨Or.inl (by assumption), by assumption⟩ | exact ⟨by assumption, by assumption⟩ | omega)⟩ ?_
                try simp only [r9, r0, r1, r2, r3, s1, s2, q0, q1, rc, q3, q4, q5, q6, q7, q8, v2', pr_8_m2, pr_i_0, pr_i_1, pr_i_3, pr_i_m1]
                refine pr_icT rfl (fun h80 => ?_) (fun h80 => ?_)
                · simp only [ab_cmp, pr_8_m2, pr_i_0, pr_i_1, pr_i_3, pr_i_m1] at h80
                  first
                  | contradiction
                  | exact absurd trivial h80
                  | exact absurd h80 (by decide)
                  | exact absurd (Classical.not_not.mp h80) (by decide)
                  | skip
                    fail
                · simp only [ab_cmp, pr_8_m2, pr_i_0, pr_i_1, pr_i_3, pr_i_m1] at h80
                  first
                  | contradiction
                  | exact absurd trivial h80
                  | exact absurd h80 (by decide)
                  | exact absurd (Classical.not_not.mp h80) (by decide)
                  | skip
                    refine pr_seqT (pc' := 85) 1 rfl ⟨trivial, trivial⟩ ?_
                    try simp only [r9, r0, r1, r2, r3, s1, s2, q0, q1, rc, q3, q4, q5, q6, q7, q8, v2', pr_8_m2, pr_i_0, pr_i_1, pr_i_3, pr_i_m1]
                    refine pr_ifT rfl (fun h85 => ?_) (fun h85 => ?_)
                    · simp only [ab_cmp, pr_8_m2, pr_i_0, pr_i_1, pr_i_3, pr_i_m1] at h85
                      first
                      | contradiction
                      | exact absurd trivial h85
                      | exact absurd h85 (by decide)
                      | exact absurd (Classical.not_not.mp h85) (by decide)
                      | skip
                        refine pr_seqT (pc' := 71) 5 rfl ⟨⟨⟨⟨⟨trivial, trivial⟩, trivial⟩, trivial⟩, trivial⟩, trivial⟩ ?_
                        try simp only [r9, r0, r1, r2, r3, s1, s2, q0, q1, rc, q3, q4, q5, q6, q7, q8, v2', pr_8_m2, pr_i_0, pr_i_1, pr_i_3, pr_i_m1]
                        exact hh
                    · simp only [ab_cmp, pr_8_m2, pr_i_0, pr_i_1, pr_i_3, pr_i_m1] at h85
                      first
                      | contradiction
                      | exact absurd trivial h85
                      | exact absurd h85 (by decide)
                      | exact absurd (Classical.not_not.mp h85) (by decide)
                      | skip
                        refine pr_seqT (pc' := 98) 5 rfl ⟨⟨⟨⟨⟨trivial, (by first | assumption | (simp only [r9, r0, r1, r2, r3, s1, s2, q0, q1, rc, q3, q4, q5, q6, q7, q8, v2', pr_8_m2, pr_i_0, pr_i_1, pr_i_3, pr_i_m1]; first | assumption | decide | exact ⟨by assumption, by assumption⟩ | exact ⟨Or.inl (by assumption), by assumption⟩ | omega) | decide | exact ⟨Or.inl (by assumption), by assumption⟩ | exact ⟨by assumption, by assumption⟩ | omega)⟩, (by first | assumption | (simp only [r9, r0, r1, r2, r3, s1, s2, q0, q1, rc, q3, q4, q5, q6, q7, q8, v2', pr_8_m2, pr_i_0, pr_i_1, pr_i_3, pr_i_m1]; first | assumption | decide | exact ⟨by assumption, by assumption⟩ | exact ⟨Or.inl (by assumption), by assumption⟩ | omega) | decide | exact ⟨Or.inl (by assumption), by assumption⟩ | exact ⟨by assumption, by assumption⟩ | omega)⟩, (by first | assumption | (simp only [r9, r0, r1, r2, r3, s1, s2, q0, q1, rc, q3, q4, q5, q6, q7, q8, v2', pr_8_m2, pr_i_0, pr_i_1, pr_i_3, pr_i_m1]; first | assumption | decide | exact ⟨by assumption, by assumption⟩ | exact ⟨Or.inl (by assumption), by assumption⟩ | omega) | decide | exact ⟨Or.inl (by assumption), by assumption⟩ | exact ⟨by assumption, by assumption⟩ | omega)⟩, (by first | assumption | (simp only [r9, r0, r1, r2, r3, s1, s2, q0, q1, rc, q3, q4, q5, q6, q7, q8, v2', pr_8_m2, pr_i_0, pr_i_1, pr_i_3, pr_i_m1]; first | assumption | decide | exact ⟨by assumption, by assumption⟩ | exact ⟨Or.inl (by assumption), by assumption⟩ | omega) | decide | exact ⟨Or.inl (by assumption), by assumption⟩ | exact ⟨by assumption, by assumption⟩ | omega)⟩, trivial⟩ ?_
                        try simp only [r9, r0, r1, r2, r3, s1, s2, q0, q1, rc, q3, q4, q5, q6, q7, q8, v2', pr_8_m2, pr_i_0, pr_i_1, pr_i_3, pr_i_m1]
                        fail "no call@98 yX9_listedSum"
              | true =>
                rw [hz] at hh
                cases hy : x_hl X i with
                | true =>
                  rw [hy] at hh
                  rw [show (!nb (fun p => decide (x_K X p ≠ 4) && decide (x_S X p = nI (x_ls X i))) (x_n X)) = true from hy] at hho
                  refine pr_seqT (pc' := 80) 4 rfl ⟨⟨⟨⟨trivial, trivial⟩, (by first | assumption | (simp only [r9, r0, r1, r2, r3, s1, s2, q0, q1, rc, q3, q4, q5, q6, q7, q8, v2', pr_8_m2, pr_i_0, pr_i_1, pr_i_3, pr_i_m1]; first | assumption | decide | exact ⟨by assumption, by assumption⟩ | exact ⟨Or.inl (by assumption), by assumption⟩ | omega) | decide | exact ⟨Or.inl (by assumption), by assumption⟩ | exact ⟨by assumption, by assumption⟩ | omega)⟩, (by first | assumption | (simp only [r9, r0, r1, r2, r3, s1, s2, q0, q1, rc, q3, q4, q5, q6, q7, q8, v2', pr_8_m2, pr_i_0, pr_i_1, pr_i_3, pr_i_m1]; first | assumption | decide | exact ⟨by assumption, by assumption⟩ | exact ⟨Or.inl (by assumption), by assumption⟩ | omega) | decide | exact ⟨Or.inl (by assumption), by assumption⟩ | exact ⟨by assumption, by assumption⟩ | omega)⟩, (by first | assumption | (simp only [r9, r0, r1, r2, r3, s1, s2, q0, q1, rc, q3, q4, q5, q6, q7, q8, v2', pr_8_m2, pr_i_0, pr_i_1, pr_i_3, pr_i_m1]; first | assumption | decide | exact ⟨by assumption, by assumption⟩ | exact ⟨Or.inl (by assumption), by assumption⟩ | omega) | decide | exact ⟨Or.inl (by assumption), by assumption⟩ | exact ⟨by assumption, by assumption⟩ | omega)⟩ ?_
                  try simp only [r9, r0, r1, r2, r3, s1, s2, q0, q1, rc, q3, q4, q5, q6, q7, q8, v2', pr_8_m2, pr_i_0, pr_i_1, pr_i_3, pr_i_m1]
                  refine pr_icT rfl (fun h80 => ?_) (fun h80 => ?_)
                  · simp only [ab_cmp, pr_8_m2, pr_i_0, pr_i_1, pr_i_3, pr_i_m1] at h80
                    first
                    | contradiction
                    | exact absurd trivial h80
                    | exact absurd h80 (by decide)
                    | exact absurd (Classical.not_not.mp h80) (by decide)
                    | skip
                      fail
                  · simp only [ab_cmp, pr_8_m2, pr_i_0, pr_i_1, pr_i_3, pr_i_m1] at h80
                    first
                    | contradiction
                    | exact absurd trivial h80
                    | exact absurd h80 (by decide)
                    | exact absurd (Classical.not_not.mp h80) (by decide)
                    | skip
                      refine pr_seqT (pc' := 85) 1 rfl ⟨trivial, trivial⟩ ?_
                      try simp only [r9, r0, r1, r2, r3, s1, s2, q0, q1, rc, q3, q4, q5, q6, q7, q8, v2', pr_8_m2, pr_i_0, pr_i_1, pr_i_3, pr_i_m1]
                      refine pr_ifT rfl (fun h85 => ?_) (fun h85 => ?_)
                      · simp only [ab_cmp, pr_8_m2, pr_i_0, pr_i_1, pr_i_3, pr_i_m1] at h85
                        first
                        | contradiction
                        | exact absurd trivial h85
                        | exact absurd h85 (by decide)
                        | exact absurd (Classical.not_not.mp h85) (by decide)
                        | skip
                          refine pr_seqT (pc' := 71) 5 rfl ⟨⟨⟨⟨⟨trivial, trivial⟩, trivial⟩, trivial⟩, trivial⟩, trivial⟩ ?_
                          try simp only [r9, r0, r1, r2, r3, s1, s2, q0, q1, rc, q3, q4, q5, q6, q7, q8, v2', pr_8_m2, pr_i_0, pr_i_1, pr_i_3, pr_i_m1]
                          exact hh
                      · simp only [ab_cmp, pr_8_m2, pr_i_0, pr_i_1, pr_i_3, pr_i_m1] at h85
                        first
                        | contradiction
                        | exact absurd trivial h85
                        | exact absurd h85 (by decide)
                        | exact absurd (Classical.not_not.mp h85) (by decide)
                        | skip
                          refine pr_seqT (pc' := 98) 5 rfl ⟨⟨⟨⟨⟨trivial, (by first | assumption | (simp only [r9, r0, r1, r2, r3, s1, s2, q0, q1, rc, q3, q4, q5, q6, q7, q8, v2', pr_8_m2, pr_i_0, pr_i_1, pr_i_3, pr_i_m1]; first | assumption | decide | exact ⟨by assumption, by assumption⟩ | exact ⟨Or.inl (by assumption), by assumption⟩ | omega) | decide | exact ⟨Or.inl (by assumption), by assumption⟩ | exact ⟨by assumption, by assumption⟩ | omega)⟩, (by first | assumption | (simp only [r9, r0, r1, r2, r3, s1, s2, q0, q1, rc, q3, q4, q5, q6, q7, q8, v2', pr_8_m2, pr_i_0, pr_i_1, pr_i_3, pr_i_m1]; first | assumption | decide | exact ⟨by assumption, by assumption⟩ | exact ⟨Or.inl (by assumption), by assumption⟩ | omega) | decide | exact ⟨Or.inl (by assumption), by assumption⟩ | exact ⟨by assumption, by assumption⟩ | omega)⟩, (by first | assumption | (simp only [r9, r0, r1, r2, r3, s1, s2, q0, q1, rc, q3, q4, q5, q6, q7, q8, v2', pr_8_m2, pr_i_0, pr_i_1, pr_i_3, pr_i_m1]; first | assumption | decide | exact ⟨by assumption, by assumption⟩ | exact ⟨Or.inl (by assumption), by assumption⟩ | omega) | decide | exact ⟨Or.inl (by assumption), by assumption⟩ | exact ⟨by assumption, by assumption⟩ | omega)⟩, (by first | assumption | (simp only [r9, r0, r1, r2, r3, s1, s2, q0, q1, rc, q3, q4, q5, q6, q7, q8, v2', pr_8_m2, pr_i_0, pr_i_1, pr_i_3, pr_i_m1]; first | assumption | decide | exact ⟨by assumption, by assumption⟩ | exact ⟨Or.inl (by assumption), by assumption⟩ | omega) | decide | exact ⟨Or.inl (by assumption), by assumption⟩ | exact ⟨by assumption, by assumption⟩ | omega)⟩, trivial⟩ ?_
                          try simp only [r9, r0, r1, r2, r3, s1, s2, q0, q1, rc, q3, q4, q5, q6, q7, q8, v2', pr_8_m2, pr_i_0, pr_i_1, pr_i_3, pr_i_m1]
                          refine pr_cvT [_] rfl rfl rfl rfl rfl (Nat.le_of_ble_eq_true rfl) (by first | assumption | (simp only [r9, r0, r1, r2, r3, s1, s2, q0, q1, rc, q3, q4, q5, q6, q7, q8, v2', pr_8_m2, pr_i_0, pr_i_1, pr_i_3, pr_i_m1]; first | assumption | decide | exact ⟨by assumption, by assumption⟩ | exact ⟨Or.inl (by assumption), by assumption⟩ | omega) | decide | exact ⟨Or.inl (by assumption), by assumption⟩ | exact ⟨by assumption, by assumption⟩ | omega) (Nat.le_of_ble_eq_true rfl) (hls) ?_
                          refine pr_cvT [_] rfl rfl rfl rfl rfl (Nat.le_of_ble_eq_true rfl) (by first | assumption | (simp only [r9, r0, r1, r2, r3, s1, s2, q0, q1, rc, q3, q4, q5, q6, q7, q8, v2', pr_8_m2, pr_i_0, pr_i_1, pr_i_3, pr_i_m1]; first | assumption | decide | exact ⟨by assumption, by assumption⟩ | exact ⟨Or.inl (by assumption), by assumption⟩ | omega) | decide | exact ⟨Or.inl (by assumption), by assumption⟩ | exact ⟨by assumption, by assumption⟩ | omega) (Nat.le_of_ble_eq_true rfl) (hho) ?_
                          refine pr_ifT rfl (fun h104 => ?_) (fun h104 => ?_)
                          · simp only [ab_cmp, pr_8_m2, pr_i_0, pr_i_1, pr_i_3, pr_i_m1] at h104
                            first
                            | contradiction
                            | exact absurd trivial h104
                            | exact absurd h104 (by decide)
                            | exact absurd (Classical.not_not.mp h104) (by decide)
                            | skip
                              refine pr_seqT (pc' := 71) 4 rfl ⟨⟨⟨⟨trivial, trivial⟩, trivial⟩, trivial⟩, trivial⟩ ?_
                              try simp only [r9, r0, r1, r2, r3, s1, s2, q0, q1, rc, q3, q4, q5, q6, q7, q8, v2', pr_8_m2, pr_i_0, pr_i_1, pr_i_3, pr_i_m1]
                              exact hh
                          · simp only [ab_cmp, pr_8_m2, pr_i_0, pr_i_1, pr_i_3, pr_i_m1] at h104
                            first
                            | contradiction
                            | exact absurd trivial h104
                            | exact absurd h104 (by decide)
                            | exact absurd (Classical.not_not.mp h104) (by decide)
                            | skip
                              refine pr_seqT (pc' := 71) 5 rfl ⟨⟨⟨⟨⟨trivial, trivial⟩, trivial⟩, trivial⟩, trivial⟩, trivial⟩ ?_
                              try simp only [r9, r0, r1, r2, r3, s1, s2, q0, q1, rc, q3, q4, q5, q6, q7, q8, v2', pr_8_m2, pr_i_0, pr_i_1, pr_i_3, pr_i_m1]
                              exact hh
                | false =>
                  rw [hy] at hh
                  rw [show (!nb (fun p => decide (x_K X p ≠ 4) && decide (x_S X p = nI (x_ls X i))) (x_n X)) = false from hy] at hho
                  refine pr_seqT (pc' := 80) 4 rfl ⟨⟨⟨⟨trivial, trivial⟩, (by first | assumption | (simp only [r9, r0, r1, r2, r3, s1, s2, q0, q1, rc, q3, q4, q5, q6, q7, q8, v2', pr_8_m2, pr_i_0, pr_i_1, pr_i_3, pr_i_m1]; first | assumption | decide | exact ⟨by assumption, by assumption⟩ | exact ⟨Or.inl (by assumption), by assumption⟩ | omega) | decide | exact ⟨Or.inl (by assumption), by assumption⟩ | exact ⟨by assumption, by assumption⟩ | omega)⟩, (by first | assumption | (simp only [r9, r0, r1, r2, r3, s1, s2, q0, q1, rc, q3, q4, q5, q6, q7, q8, v2', pr_8_m2, pr_i_0, pr_i_1, pr_i_3, pr_i_m1]; first | assumption | decide | exact ⟨by assumption, by assumption⟩ | exact ⟨Or.inl (by assumption), by assumption⟩ | omega) | decide | exact ⟨Or.inl (by assumption), by assumption⟩ | exact ⟨by assumption, by assumption⟩ | omega)⟩, (by first | assumption | (simp only [r9, r0, r1, r2, r3, s1, s2, q0, q1, rc, q3, q4, q5, q6, q7, q8, v2', pr_8_m2, pr_i_0, pr_i_1, pr_i_3, pr_i_m1]; first | assumption | decide | exact ⟨by assumption, by assumption⟩ | exact ⟨Or.inl (by assumption), by assumption⟩ | omega) | decide | exact ⟨Or.inl (by assumption), by assumption⟩ | exact ⟨by assumption, by assumption⟩ | omega)⟩ ?_
                  try simp only [r9, r0, r1, r2, r3, s1, s2, q0, q1, rc, q3, q4, q5, q6, q7, q8, v2', pr_8_m2, pr_i_0, pr_i_1, pr_i_3, pr_i_m1]
                  refine pr_icT rfl (fun h80 => ?_) (fun h80 => ?_)
                  · simp only [ab_cmp, pr_8_m2, pr_i_0, pr_i_1, pr_i_3, pr_i_m1] at h80
                    first
                    | contradiction
                    | exact absurd trivial h80
                    | exact absurd h80 (by decide)
                    | exact absurd (Classical.not_not.mp h80) (by decide)
                    | skip
                      fail
                  · simp only [ab_cmp, pr_8_m2, pr_i_0, pr_i_1, pr_i_3, pr_i_m1] at h80
                    first
                    | contradiction
                    | exact absurd trivial h80
                    | exact absurd h80 (by decide)
                    | exact absurd (Classical.not_not.mp h80) (by decide)
                    | skip
                      refine pr_seqT (pc' := 85) 1 rfl ⟨trivial, trivial⟩ ?_
                      try simp only [r9, r0, r1, r2, r3, s1, s2, q0, q1, rc, q3, q4, q5, q6, q7, q8, v2', pr_8_m2, pr_i_0, pr_i_1, pr_i_3, pr_i_m1]
                      refine pr_ifT rfl (fun h85 => ?_) (fun h85 => ?_)
                      · simp only [ab_cmp, pr_8_m2, pr_i_0, pr_i_1, pr_i_3, pr_i_m1] at h85
                        first
                        | contradiction
                        | exact absurd trivial h85
                        | exact absurd h85 (by decide)
                        | exact absurd (Classical.not_not.mp h85) (by decide)
                        | skip
                          refine pr_seqT (pc' := 71) 5 rfl ⟨⟨⟨⟨⟨trivial, trivial⟩, trivial⟩, trivial⟩, trivial⟩, trivial⟩ ?_
                          try simp only [r9, r0, r1, r2, r3, s1, s2, q0, q1, rc, q3, q4, q5, q6, q7, q8, v2', pr_8_m2, pr_i_0, pr_i_1, pr_i_3, pr_i_m1]
                          exact hh
                      · simp only [ab_cmp, pr_8_m2, pr_i_0, pr_i_1, pr_i_3, pr_i_m1] at h85
                        first
                        | contradiction
                        | exact absurd trivial h85
                        | exact absurd h85 (by decide)
                        | exact absurd (Classical.not_not.mp h85) (by decide)
                        | skip
                          refine pr_seqT (pc' := 98) 5 rfl ⟨⟨⟨⟨⟨trivial, (by first | assumption | (simp only [r9, r0, r1, r2, r3, s1, s2, q0, q1, rc, q3, q4, q5, q6, q7, q8, v2', pr_8_m2, pr_i_0, pr_i_1, pr_i_3, pr_i_m1]; first | assumption | decide | exact ⟨by assumption, by assumption⟩ | exact ⟨Or.inl (by assumption), by assumption⟩ | omega) | decide | exact ⟨Or.inl (by assumption), by assumption⟩ | exact ⟨by assumption, by assumption⟩ | omega)⟩, (by first | assumption | (simp only [r9, r0, r1, r2, r3, s1, s2, q0, q1, rc, q3, q4, q5, q6, q7, q8, v2', pr_8_m2, pr_i_0, pr_i_1, pr_i_3, pr_i_m1]; first | assumption | decide | exact ⟨by assumption, by assumption⟩ | exact ⟨Or.inl (by assumption), by assumption⟩ | omega) | decide | exact ⟨Or.inl (by assumption), by assumption⟩ | exact ⟨by assumption, by assumption⟩ | omega)⟩, (by first | assumption | (simp only [r9, r0, r1, r2, r3, s1, s2, q0, q1, rc, q3, q4, q5, q6, q7, q8, v2', pr_8_m2, pr_i_0, pr_i_1, pr_i_3, pr_i_m1]; first | assumption | decide | exact ⟨by assumption, by assumption⟩ | exact ⟨Or.inl (by assumption), by assumption⟩ | omega) | decide | exact ⟨Or.inl (by assumption), by assumption⟩ | exact ⟨by assumption, by assumption⟩ | omega)⟩, (by first | assumption | (simp only [r9, r0, r1, r2, r3, s1, s2, q0, q1, rc, q3, q4, q5, q6, q7, q8, v2', pr_8_m2, pr_i_0, pr_i_1, pr_i_3, pr_i_m1]; first | assumption | decide | exact ⟨by assumption, by assumption⟩ | exact ⟨Or.inl (by assumption), by assumption⟩ | omega) | decide | exact ⟨Or.inl (by assumption), by assumption⟩ | exact ⟨by assumption, by assumption⟩ | omega)⟩, trivial⟩ ?_
                          try simp only [r9, r0, r1, r2, r3, s1, s2, q0, q1, rc, q3, q4, q5, q6, q7, q8, v2', pr_8_m2, pr_i_0, pr_i_1, pr_i_3, pr_i_m1]
                          refine pr_cvT [_] rfl rfl rfl rfl rfl (Nat.le_of_ble_eq_true rfl) (by first | assumption | (simp only [r9, r0, r1, r2, r3, s1, s2, q0, q1, rc, q3, q4, q5, q6, q7, q8, v2', pr_8_m2, pr_i_0, pr_i_1, pr_i_3, pr_i_m1]; first | assumption | decide | exact ⟨by assumption, by assumption⟩ | exact ⟨Or.inl (by assumption), by assumption⟩ | omega) | decide | exact ⟨Or.inl (by assumption), by assumption⟩ | exact ⟨by assumption, by assumption⟩ | omega) (Nat.le_of_ble_eq_true rfl) (hls) ?_
                          refine pr_cvT [_] rfl rfl rfl rfl rfl (Nat.le_of_ble_eq_true rfl) (by first | assumption | (simp only [r9, r0, r1, r2, r3, s1, s2, q0, q1, rc, q3, q4, q5, q6, q7, q8, v2', pr_8_m2, pr_i_0, pr_i_1, pr_i_3, pr_i_m1]; first | assumption | decide | exact ⟨by assumption, by assumption⟩ | exact ⟨Or.inl (by assumption), by assumption⟩ | omega) | decide | exact ⟨Or.inl (by assumption), by assumption⟩ | exact ⟨by assumption, by assumption⟩ | omega) (Nat.le_of_ble_eq_true rfl) (hho) ?_
                          refine pr_ifT rfl (fun h104 => ?_) (fun h104 => ?_)
                          · simp only [ab_cmp, pr_8_m2, pr_i_0, pr_i_1, pr_i_3, pr_i_m1] at h104
                            first
                            | contradiction
                            | exact absurd trivial h104
                            | exact absurd h104 (by decide)
                            | exact absurd (Classical.not_not.mp h104) (by decide)
                            | skip
                              refine pr_seqT (pc' := 71) 4 rfl ⟨⟨⟨⟨trivial, trivial⟩, trivial⟩, trivial⟩, trivial⟩ ?_
                              try simp only [r9, r0, r1, r2, r3, s1, s2, q0, q1, rc, q3, q4, q5, q6, q7, q8, v2', pr_8_m2, pr_i_0, pr_i_1, pr_i_3, pr_i_m1]
                              exact hh
                          · simp only [ab_cmp, pr_8_m2, pr_i_0, pr_i_1, pr_i_3, pr_i_m1] at h104
                            first
                            | contradiction
                            | exact absurd trivial h104
                            | exact absurd h104 (by decide)
                            | exact absurd (Classical.not_not.mp h104) (by decide)
                            | skip
                              refine pr_seqT (pc' := 71) 5 rfl ⟨⟨⟨⟨⟨trivial, trivial⟩, trivial⟩, trivial⟩, trivial⟩, trivial⟩ ?_
                              try simp only [r9, r0, r1, r2, r3, s1, s2, q0, q1, rc, q3, q4, q5, q6, q7, q8, v2', pr_8_m2, pr_i_0, pr_i_1, pr_i_3, pr_i_m1]
                              exact hh
          refine pr_seqT (pc' := 3) 3 rfl ⟨⟨⟨trivial, trivial⟩, trivial⟩, trivial⟩ ?_
          try simp only [r9, r0, r1, r2, r3, s1, s2, q0, q1, rc, q3, q4, q5, q6, q7, q8, v2, pr_8_m2, pr_i_0, pr_i_1, pr_i_3, pr_i_m1]
          refine pr_csT [_, _, _] rfl rfl rfl rfl rfl (Nat.le_of_ble_eq_true rfl) (Nat.le_of_ble_eq_true rfl) (hp) ?_
          refine pr_ifT rfl (fun h6 => ?_) (fun h6 => ?_)
          · simp only [ab_cmp, pr_8_m2, pr_i_0, pr_i_1, pr_i_3, pr_i_m1] at h6
            first
            | contradiction
            | exact absurd trivial h6
            | exact absurd h6 (by decide)
            | exact absurd (Classical.not_not.mp h6) (by decide)
            | skip
              refine pr_seqT (pc' := 19) 1 rfl ⟨trivial, trivial⟩ ?_
              try simp only [r9, r0, r1, r2, r3, s1, s2, q0, q1, rc, q3, q4, q5, q6, q7, q8, v2, pr_8_m2, pr_i_0, pr_i_1, pr_i_3, pr_i_m1]
              exact pr_irT rfl trivial (by first | rfl | (simp only [r9, r0, r1, r2, r3, s1, s2, q0, q1, rc, q3, q4, q5, q6, q7, q8, v2, pr_8_m2, pr_i_0, pr_i_1, pr_i_3, pr_i_m1]; done) | (simp [pr_b, pr_8_m2, pr_i_0, pr_i_1, pr_i_3, pr_i_m1, *]; done) | (simp_all [pr_b, pr_8_m2, pr_i_0, pr_i_1, pr_i_3, pr_i_m1]; done))
          · simp only [ab_cmp, pr_8_m2, pr_i_0, pr_i_1, pr_i_3, pr_i_m1] at h6
            first
            | contradiction
            | exact absurd trivial h6
            | exact absurd h6 (by decide)
            | exact absurd (Classical.not_not.mp h6) (by decide)
            | skip
              refine pr_seqT (pc' := 12) 3 rfl ⟨⟨⟨trivial, trivial⟩, trivial⟩, trivial⟩ ?_
              try simp only [r9, r0, r1, r2, r3, s1, s2, q0, q1, rc, q3, q4, q5, q6, q7, q8, v2, pr_8_m2, pr_i_0, pr_i_1, pr_i_3, pr_i_m1]
              refine pr_csT [_, _, _] rfl rfl rfl rfl rfl (Nat.le_of_ble_eq_true rfl) (Nat.le_of_ble_eq_true rfl) (hw) ?_
              refine pr_ifT rfl (fun h15 => ?_) (fun h15 => ?_)
              · simp only [ab_cmp, pr_8_m2, pr_i_0, pr_i_1, pr_i_3, pr_i_m1] at h15
                first
                | contradiction
                | exact absurd trivial h15
                | exact absurd h15 (by decide)
                | exact absurd (Classical.not_not.mp h15) (by decide)
                | skip
                  refine pr_seqT (pc' := 21) 1 rfl ⟨trivial, trivial⟩ ?_
                  try simp only [r9, r0, r1, r2, r3, s1, s2, q0, q1, rc, q3, q4, q5, q6, q7, q8, v2, pr_8_m2, pr_i_0, pr_i_1, pr_i_3, pr_i_m1]
                  refine pr_ifT rfl (fun h21 => ?_) (fun h21 => ?_)
                  · simp only [ab_cmp, pr_8_m2, pr_i_0, pr_i_1, pr_i_3, pr_i_m1] at h21
                    first
                    | contradiction
                    | exact absurd trivial h21
                    | exact absurd h21 (by decide)
                    | exact absurd (Classical.not_not.mp h21) (by decide)
                    | skip
                      refine pr_seqT (pc' := 48) 5 rfl ⟨⟨⟨⟨⟨trivial, (by first | assumption | (simp only [r9, r0, r1, r2, r3, s1, s2, q0, q1, rc, q3, q4, q5, q6, q7, q8, v2, pr_8_m2, pr_i_0, pr_i_1, pr_i_3, pr_i_m1]; first | assumption | decide | exact ⟨by assumption, by assumption⟩ | exact ⟨Or.inl (by assumption), by assumption⟩ | omega) | decide | exact ⟨Or.inl (by assumption), by assumption⟩ | exact ⟨by assumption, by assumption⟩ | omega)⟩, (by first | assumption | (simp only [r9, r0, r1, r2, r3, s1, s2, q0, q1, rc, q3, q4, q5, q6, q7, q8, v2, pr_8_m2, pr_i_0, pr_i_1, pr_i_3, pr_i_m1]; first | assumption | decide | exact ⟨by assumption, by assumption⟩ | exact ⟨Or.inl (by assumption), by assumption⟩ | omega) | decide | exact ⟨Or.inl (by assumption), by assumption⟩ | exact ⟨by assumption, by assumption⟩ | omega)⟩, (by first | assumption | (simp only [r9, r0, r1, r2, r3, s1, s2, q0, q1, rc, q3, q4, q5, q6, q7, q8, v2, pr_8_m2, pr_i_0, pr_i_1, pr_i_3, pr_i_m1]; first | assumption | decide | exact ⟨by assumption, by assumption⟩ | exact ⟨Or.inl (by assumption), by assumption⟩ | omega) | decide | exact ⟨Or.inl (by assumption), by assumption⟩ | exact ⟨by assumption, by assumption⟩ | omega)⟩, (by first | assumption | (simp only [r9, r0, r1, r2, r3, s1, s2, q0, q1, rc, q3, q4, q5, q6, q7, q8, v2, pr_8_m2, pr_i_0, pr_i_1, pr_i_3, pr_i_m1]; first | assumption | decide | exact ⟨by assumption, by assumption⟩ | exact ⟨Or.inl (by assumption), by assumption⟩ | omega) | decide | exact ⟨Or.inl (by assumption), by assumption⟩ | exact ⟨by assumption, by assumption⟩ | omega)⟩, (by first | assumption | (simp only [r9, r0, r1, r2, r3, s1, s2, q0, q1, rc, q3, q4, q5, q6, q7, q8, v2, pr_8_m2, pr_i_0, pr_i_1, pr_i_3, pr_i_m1]; first | assumption | decide | exact ⟨by assumption, by assumption⟩ | exact ⟨Or.inl (by assumption), by assumption⟩ | omega) | decide | exact ⟨Or.inl (by assumption), by assumption⟩ | exact ⟨by assumption, by assumption⟩ | omega)⟩ ?_
                      try simp only [r9, r0, r1, r2, r3, s1, s2, q0, q1, rc, q3, q4, q5, q6, q7, q8, v2, pr_8_m2, pr_i_0, pr_i_1, pr_i_3, pr_i_m1]
                      refine pr_cvX [_] rfl rfl rfl rfl rfl (Nat.le_of_ble_eq_true rfl) (by first | assumption | (simp only [r9, r0, r1, r2, r3, s1, s2, q0, q1, rc, q3, q4, q5, q6, q7, q8, v2, pr_8_m2, pr_i_0, pr_i_1, pr_i_3, pr_i_m1]; first | assumption | decide | exact ⟨by assumption, by assumption⟩ | exact ⟨Or.inl (by assumption), by assumption⟩ | omega) | decide | exact ⟨Or.inl (by assumption), by assumption⟩ | exact ⟨by assumption, by assumption⟩ | omega) (Nat.le_of_ble_eq_true rfl) (c_take h M hc hg hb hd) (fun v48 M48 q48 => ?_)
                      obtain ⟨rfl, e2, e3, e4⟩ := q48
                      obtain ⟨I1, Z1⟩ := M48
                      dsimp only at e2 e3 e4
                      subst e2
                      refine pr_seqT (pc' := 55) 2 rfl ⟨⟨trivial, (by first | assumption | (simp only [r9, r0, r1, r2, r3, s1, s2, q0, q1, rc, q3, q4, q5, q6, q7, q8, v2, pr_8_m2, pr_i_0, pr_i_1, pr_i_3, pr_i_m1]; first | assumption | decide | exact ⟨by assumption, by assumption⟩ | exact ⟨Or.inl (by assumption), by assumption⟩ | omega) | decide | exact ⟨Or.inl (by assumption), by assumption⟩ | exact ⟨by assumption, by assumption⟩ | omega)⟩, (by first | assumption | (simp only [r9, r0, r1, r2, r3, s1, s2, q0, q1, rc, q3, q4, q5, q6, q7, q8, v2, pr_8_m2, pr_i_0, pr_i_1, pr_i_3, pr_i_m1]; first | assumption | decide | exact ⟨by assumption, by assumption⟩ | exact ⟨Or.inl (by assumption), by assumption⟩ | omega) | decide | exact ⟨Or.inl (by assumption), by assumption⟩ | exact ⟨by assumption, by assumption⟩ | omega)⟩ ?_
                      try simp only [r9, r0, r1, r2, r3, s1, s2, q0, q1, rc, q3, q4, q5, q6, q7, q8, v2, pr_8_m2, pr_i_0, pr_i_1, pr_i_3, pr_i_m1]
                      refine pr_cvT [] rfl rfl rfl rfl rfl (Nat.le_of_ble_eq_true rfl) (by first | assumption | (simp only [r9, r0, r1, r2, r3, s1, s2, q0, q1, rc, q3, q4, q5, q6, q7, q8, v2, pr_8_m2, pr_i_0, pr_i_1, pr_i_3, pr_i_m1]; first | assumption | decide | exact ⟨by assumption, by assumption⟩ | exact ⟨Or.inl (by assumption), by assumption⟩ | omega) | decide | exact ⟨Or.inl (by assumption), by assumption⟩ | exact ⟨by assumption, by assumption⟩ | omega) (Nat.le_of_ble_eq_true rfl) (c_howMany h (I1, M.2) hc e3) ?_
                      refine pr_seqT (pc' := 60) 2 rfl ⟨⟨trivial, trivial⟩, trivial⟩ ?_
                      try simp only [r9, r0, r1, r2, r3, s1, s2, q0, q1, rc, q3, q4, q5, q6, q7, q8, v2, pr_8_m2, pr_i_0, pr_i_1, pr_i_3, pr_i_m1]
                      refine pr_ifT rfl (fun h60 => ?_) (fun h60 => ?_)
                      · simp only [ab_cmp, pr_8_m2, pr_i_0, pr_i_1, pr_i_3, pr_i_m1] at h60
                        first
                        | contradiction
                        | exact absurd trivial h60
                        | exact absurd h60 (by decide)
                        | exact absurd (Classical.not_not.mp h60) (by decide)
                        | skip
                          refine pr_seqT (pc' := 71) 4 rfl ⟨⟨⟨⟨trivial, trivial⟩, trivial⟩, trivial⟩, trivial⟩ ?_
                          try simp only [r9, r0, r1, r2, r3, s1, s2, q0, q1, rc, q3, q4, q5, q6, q7, q8, v2, pr_8_m2, pr_i_0, pr_i_1, pr_i_3, pr_i_m1]
                          exact loop X.1.2.1.length 0 (by omega) I1 (cs_same e4) e3
                      · simp only [ab_cmp, pr_8_m2, pr_i_0, pr_i_1, pr_i_3, pr_i_m1] at h60
                        first
                        | contradiction
                        | exact absurd trivial h60
                        | exact absurd h60 (by decide)
                        | exact absurd (Classical.not_not.mp h60) (by decide)
                        | skip
                          refine pr_seqT (pc' := 64) 1 rfl ⟨trivial, trivial⟩ ?_
                          try simp only [r9, r0, r1, r2, r3, s1, s2, q0, q1, rc, q3, q4, q5, q6, q7, q8, v2, pr_8_m2, pr_i_0, pr_i_1, pr_i_3, pr_i_m1]
                          fail
                  · simp only [ab_cmp, pr_8_m2, pr_i_0, pr_i_1, pr_i_3, pr_i_m1] at h21
                    first
                    | contradiction
                    | exact absurd trivial h21
                    | exact absurd h21 (by decide)
                    | exact absurd (Classical.not_not.mp h21) (by decide)
                    | skip
                      refine pr_seqT (pc' := 31) 3 rfl ⟨⟨⟨trivial, (by first | assumption | (simp only [r9, r0, r1, r2, r3, s1, s2, q0, q1, rc, q3, q4, q5, q6, q7, q8, v2, pr_8_m2, pr_i_0, pr_i_1, pr_i_3, pr_i_m1]; first | assumption | decide | exact ⟨by assumption, by assumption⟩ | exact ⟨Or.inl (by assumption), by assumption⟩ | omega) | decide | exact ⟨Or.inl (by assumption), by assumption⟩ | exact ⟨by assumption, by assumption⟩ | omega)⟩, (by first | assumption | (simp only [r9, r0, r1, r2, r3, s1, s2, q0, q1, rc, q3, q4, q5, q6, q7, q8, v2, pr_8_m2, pr_i_0, pr_i_1, pr_i_3, pr_i_m1]; first | assumption | decide | exact ⟨by assumption, by assumption⟩ | exact ⟨Or.inl (by assumption), by assumption⟩ | omega) | decide | exact ⟨Or.inl (by assumption), by assumption⟩ | exact ⟨by assumption, by assumption⟩ | omega)⟩, (by first | assumption | (simp only [r9, r0, r1, r2, r3, s1, s2, q0, q1, rc, q3, q4, q5, q6, q7, q8, v2, pr_8_m2, pr_i_0, pr_i_1, pr_i_3, pr_i_m1]; first | assumption | decide | exact ⟨by assumption, by assumption⟩ | exact ⟨Or.inl (by assumption), by assumption⟩ | omega) | decide | exact ⟨Or.inl (by assumption), by assumption⟩ | exact ⟨by assumption, by assumption⟩ | omega)⟩ ?_
                      try simp only [r9, r0, r1, r2, r3, s1, s2, q0, q1, rc, q3, q4, q5, q6, q7, q8, v2, pr_8_m2, pr_i_0, pr_i_1, pr_i_3, pr_i_m1]
                      refine pr_ifT rfl (fun h31 => ?_) (fun h31 => ?_)
                      · simp only [ab_cmp, pr_8_m2, pr_i_0, pr_i_1, pr_i_3, pr_i_m1] at h31
                        first
                        | contradiction
                        | exact absurd trivial h31
                        | exact absurd h31 (by decide)
                        | exact absurd (Classical.not_not.mp h31) (by decide)
                        | skip
                          refine pr_seqT (pc' := 48) 5 rfl ⟨⟨⟨⟨⟨trivial, (by first | assumption | (simp only [r9, r0, r1, r2, r3, s1, s2, q0, q1, rc, q3, q4, q5, q6, q7, q8, v2, pr_8_m2, pr_i_0, pr_i_1, pr_i_3, pr_i_m1]; first | assumption | decide | exact ⟨by assumption, by assumption⟩ | exact ⟨Or.inl (by assumption), by assumption⟩ | omega) | decide | exact ⟨Or.inl (by assumption), by assumption⟩ | exact ⟨by assumption, by assumption⟩ | omega)⟩, (by first | assumption | (simp only [r9, r0, r1, r2, r3, s1, s2, q0, q1, rc, q3, q4, q5, q6, q7, q8, v2, pr_8_m2, pr_i_0, pr_i_1, pr_i_3, pr_i_m1]; first | assumption | decide | exact ⟨by assumption, by assumption⟩ | exact ⟨Or.inl (by assumption), by assumption⟩ | omega) | decide | exact ⟨Or.inl (by assumption), by assumption⟩ | exact ⟨by assumption, by assumption⟩ | omega)⟩, (by first | assumption | (simp only [r9, r0, r1, r2, r3, s1, s2, q0, q1, rc, q3, q4, q5, q6, q7, q8, v2, pr_8_m2, pr_i_0, pr_i_1, pr_i_3, pr_i_m1]; first | assumption | decide | exact ⟨by assumption, by assumption⟩ | exact ⟨Or.inl (by assumption), by assumption⟩ | omega) | decide | exact ⟨Or.inl (by assumption), by assumption⟩ | exact ⟨by assumption, by assumption⟩ | omega)⟩, (by first | assumption | (simp only [r9, r0, r1, r2, r3, s1, s2, q0, q1, rc, q3, q4, q5, q6, q7, q8, v2, pr_8_m2, pr_i_0, pr_i_1, pr_i_3, pr_i_m1]; first | assumption | decide | exact ⟨by assumption, by assumption⟩ | exact ⟨Or.inl (by assumption), by assumption⟩ | omega) | decide | exact ⟨Or.inl (by assumption), by assumption⟩ | exact ⟨by assumption, by assumption⟩ | omega)⟩, (by first | assumption | (simp only [r9, r0, r1, r2, r3, s1, s2, q0, q1, rc, q3, q4, q5, q6, q7, q8, v2, pr_8_m2, pr_i_0, pr_i_1, pr_i_3, pr_i_m1]; first | assumption | decide | exact ⟨by assumption, by assumption⟩ | exact ⟨Or.inl (by assumption), by assumption⟩ | omega) | decide | exact ⟨Or.inl (by assumption), by assumption⟩ | exact ⟨by assumption, by assumption⟩ | omega)⟩ ?_
                          try simp only [r9, r0, r1, r2, r3, s1, s2, q0, q1, rc, q3, q4, q5, q6, q7, q8, v2, pr_8_m2, pr_i_0, pr_i_1, pr_i_3, pr_i_m1]
                          refine pr_cvX [_] rfl rfl rfl rfl rfl (Nat.le_of_ble_eq_true rfl) (by first | assumption | (simp only [r9, r0, r1, r2, r3, s1, s2, q0, q1, rc, q3, q4, q5, q6, q7, q8, v2, pr_8_m2, pr_i_0, pr_i_1, pr_i_3, pr_i_m1]; first | assumption | decide | exact ⟨by assumption, by assumption⟩ | exact ⟨Or.inl (by assumption), by assumption⟩ | omega) | decide | exact ⟨Or.inl (by assumption), by assumption⟩ | exact ⟨by assumption, by assumption⟩ | omega) (Nat.le_of_ble_eq_true rfl) (c_take h M hc hg hb hd) (fun v48 M48 q48 => ?_)
                          obtain ⟨rfl, e2, e3, e4⟩ := q48
                          obtain ⟨I1, Z1⟩ := M48
                          dsimp only at e2 e3 e4
                          subst e2
                          refine pr_seqT (pc' := 55) 2 rfl ⟨⟨trivial, (by first | assumption | (simp only [r9, r0, r1, r2, r3, s1, s2, q0, q1, rc, q3, q4, q5, q6, q7, q8, v2, pr_8_m2, pr_i_0, pr_i_1, pr_i_3, pr_i_m1]; first | assumption | decide | exact ⟨by assumption, by assumption⟩ | exact ⟨Or.inl (by assumption), by assumption⟩ | omega) | decide | exact ⟨Or.inl (by assumption), by assumption⟩ | exact ⟨by assumption, by assumption⟩ | omega)⟩, (by first | assumption | (simp only [r9, r0, r1, r2, r3, s1, s2, q0, q1, rc, q3, q4, q5, q6, q7, q8, v2, pr_8_m2, pr_i_0, pr_i_1, pr_i_3, pr_i_m1]; first | assumption | decide | exact ⟨by assumption, by assumption⟩ | exact ⟨Or.inl (by assumption), by assumption⟩ | omega) | decide | exact ⟨Or.inl (by assumption), by assumption⟩ | exact ⟨by assumption, by assumption⟩ | omega)⟩ ?_
                          try simp only [r9, r0, r1, r2, r3, s1, s2, q0, q1, rc, q3, q4, q5, q6, q7, q8, v2, pr_8_m2, pr_i_0, pr_i_1, pr_i_3, pr_i_m1]
                          refine pr_cvT [] rfl rfl rfl rfl rfl (Nat.le_of_ble_eq_true rfl) (by first | assumption | (simp only [r9, r0, r1, r2, r3, s1, s2, q0, q1, rc, q3, q4, q5, q6, q7, q8, v2, pr_8_m2, pr_i_0, pr_i_1, pr_i_3, pr_i_m1]; first | assumption | decide | exact ⟨by assumption, by assumption⟩ | exact ⟨Or.inl (by assumption), by assumption⟩ | omega) | decide | exact ⟨Or.inl (by assumption), by assumption⟩ | exact ⟨by assumption, by assumption⟩ | omega) (Nat.le_of_ble_eq_true rfl) (c_howMany h (I1, M.2) hc e3) ?_
                          refine pr_seqT (pc' := 60) 2 rfl ⟨⟨trivial, trivial⟩, trivial⟩ ?_
                          try simp only [r9, r0, r1, r2, r3, s1, s2, q0, q1, rc, q3, q4, q5, q6, q7, q8, v2, pr_8_m2, pr_i_0, pr_i_1, pr_i_3, pr_i_m1]
                          refine pr_ifT rfl (fun h60 => ?_) (fun h60 => ?_)
                          · simp only [ab_cmp, pr_8_m2, pr_i_0, pr_i_1, pr_i_3, pr_i_m1] at h60
                            first
                            | contradiction
                            | exact absurd trivial h60
                            | exact absurd h60 (by decide)
                            | exact absurd (Classical.not_not.mp h60) (by decide)
                            | skip
                              refine pr_seqT (pc' := 71) 4 rfl ⟨⟨⟨⟨trivial, trivial⟩, trivial⟩, trivial⟩, trivial⟩ ?_
                              try simp only [r9, r0, r1, r2, r3, s1, s2, q0, q1, rc, q3, q4, q5, q6, q7, q8, v2, pr_8_m2, pr_i_0, pr_i_1, pr_i_3, pr_i_m1]
                              exact loop X.1.2.1.length 0 (by omega) I1 (cs_same e4) e3
                          · simp only [ab_cmp, pr_8_m2, pr_i_0, pr_i_1, pr_i_3, pr_i_m1] at h60
                            first
                            | contradiction
                            | exact absurd trivial h60
                            | exact absurd h60 (by decide)
                            | exact absurd (Classical.not_not.mp h60) (by decide)
                            | skip
                              refine pr_seqT (pc' := 64) 1 rfl ⟨trivial, trivial⟩ ?_
                              try simp only [r9, r0, r1, r2, r3, s1, s2, q0, q1, rc, q3, q4, q5, q6, q7, q8, v2, pr_8_m2, pr_i_0, pr_i_1, pr_i_3, pr_i_m1]
                              fail
                      · simp only [ab_cmp, pr_8_m2, pr_i_0, pr_i_1, pr_i_3, pr_i_m1] at h31
                        first
                        | contradiction
                        | exact absurd trivial h31
                        | exact absurd h31 (by decide)
                        | exact absurd (Classical.not_not.mp h31) (by decide)
                        | skip
                          refine pr_seqT (pc' := 36) 1 rfl ⟨trivial, trivial⟩ ?_
                          try simp only [r9, r0, r1, r2, r3, s1, s2, q0, q1, rc, q3, q4, q5, q6, q7, q8, v2, pr_8_m2, pr_i_0, pr_i_1, pr_i_3, pr_i_m1]
                          exact pr_irT rfl trivial (by first | rfl | (simp only [r9, r0, r1, r2, r3, s1, s2, q0, q1, rc, q3, q4, q5, q6, q7, q8, v2, pr_8_m2, pr_i_0, pr_i_1, pr_i_3, pr_i_m1]; done) | (simp [pr_b, pr_8_m2, pr_i_0, pr_i_1, pr_i_3, pr_i_m1, *]; done) | (simp_all [pr_b, pr_8_m2, pr_i_0, pr_i_1, pr_i_3, pr_i_m1]; done))
              · simp only [ab_cmp, pr_8_m2, pr_i_0, pr_i_1, pr_i_3, pr_i_m1] at h15
                first
                | contradiction
                | exact absurd trivial h15
                | exact absurd h15 (by decide)
                | exact absurd (Classical.not_not.mp h15) (by decide)
                | skip
                  refine pr_seqT (pc' := 19) 1 rfl ⟨trivial, trivial⟩ ?_
                  try simp only [r9, r0, r1, r2, r3, s1, s2, q0, q1, rc, q3, q4, q5, q6, q7, q8, v2, pr_8_m2, pr_i_0, pr_i_1, pr_i_3, pr_i_m1]
                  exact pr_irT rfl trivial (by first | rfl | (simp only [r9, r0, r1, r2, r3, s1, s2, q0, q1, rc, q3, q4, q5, q6, q7, q8, v2, pr_8_m2, pr_i_0, pr_i_1, pr_i_3, pr_i_m1]; done) | (simp [pr_b, pr_8_m2, pr_i_0, pr_i_1, pr_i_3, pr_i_m1, *]; done) | (simp_all [pr_b, pr_8_m2, pr_i_0, pr_i_1, pr_i_3, pr_i_m1]; done))
