
/-! ===== rid ===== -/
theorem ccc_skip (X : St) (p a : Nat) : ∀ d, (∀ k, a ≤ k → k < a + d → ¬ x_dl X p k < 100000) → ccc X p (a + d) = ccc X p a
  | 0, _ => rfl
  | d + 1, h => by
    rw [show a + (d + 1) = (a + d) + 1 by omega, ccc, if_neg (h (a + d) (by omega) (by omega))]
    exact ccc_skip X p a d (fun k h1 h2 => h k h1 (by omega))
theorem ccc_lt (X : St) (p : Nat) : ∀ k b w, ccc X p k = some (b, w) → w < k
  | 0, b, w, h => by cases h
  | k + 1, b, w, h => by
    unfold ccc at h
    by_cases c : x_dl X p k < 100000
    · rw [if_pos c] at h
      cases hc : ccc X p k with
      | none => rw [hc] at h; cases h; omega
      | some v =>
        obtain ⟨b', w'⟩ := v
        have := ccc_lt X p k b' w' hc
        rw [hc] at h
        dsimp only at h
        by_cases q : b' < x_rv X p k
        · rw [if_pos q] at h; cases h; omega
        · rw [if_neg q] at h; cases h; omega
    · rw [if_neg c] at h
      have := ccc_lt X p k b w h
      omega
theorem ccc_low {X : St} {p low high : Nat} (h20 : (x_nm X p).length ≤ 20) (h : ∀ s, (s < low ∨ high < s) → dE (x_c X p) (x_sh X p) (x_nm X p).length s = none) : ccc X p low = none := by
  have := ccc_skip X p 0 low (fun k a1 a2 c => by
    have h1 := rch_some h20 c
    rw [h k (Or.inl (by omega))] at h1
    cases h1)
  rw [Nat.zero_add] at this
  exact this
theorem va_up_id {α : Type} (f : Nat → α) (p q : Nat) : va_up f p (f p) q = f q := by
  by_cases e : q = p
  · subst e; rw [va_up_at]
  · rw [va_up_n e]
set_option maxHeartbeats 4000000 in
theorem p_rid {b : Bool} {X : St} (x w : Int32) (h : ab_H) (M : ab_M) (hl : Lay h M.2.2 b) (hv : cl_v M.1 b X) : pr_X pX10_rid [.ref 1, .int x, .int w] h M (cp h M (f_rid X x w, X)) := by
  obtain ⟨k1, q0, q1, rc, q3, q4, q5, q6, q7, q8, r9⟩ := id hl.1
  have ht := ly_told hl
  obtain ⟨t0, t1, r0, r1, r2, r3, hg, ⟨ka, kb⟩, ⟨kc, kd⟩, ⟨ke, kf⟩, hnm⟩ := id ht
  obtain ⟨g0, g1, s1, s2, m1, m2, ⟨m3, m4⟩, hon⟩ := id hg
  obtain ⟨hT, hIm, hSh, hTp, hFa, hTo⟩ := id hv
  obtain ⟨hd, v2, v3, v4, v5, v6, v7⟩ := id hT
  obtain ⟨d1, d2, d3, d4, d5, d6, d7, d8⟩ := id hd
  have b0 := tB_ne b
  have hc := hl.2.2.2.2.2.1
  have hb : 49 + 5 < tB b + 1 ∨ tB b + 1 + 27 ≤ 49 := by cases b <;> decide
  have hb2 : 63 < tB b ∧ tB b + 43 ≤ 110 ∨ 5 < tB b ∧ tB b + 43 ≤ 49 := by cases b <;> decide
  have c1 := hc.2.1
  unfold f_rid
  have hra : pr_Ra h M.2.2 := hl.2.2.2.2.2.2.1
  have k55 := hra.1
  have n55 : (55 : Nat) ≠ 0 := by decide
  have hp := o_isOne x h M hl hv
  have hw := c_within w 0 2 h M
  rcases pr_ix x (show X.1.1.2.1.length ≤ 1000000 by omega) with q | ⟨p, hj, rfl, q⟩
  · rw [q] at hp
    rw [show ixb x (x_n X) = false from q]
    refine pr_seqT (pc' := 2) 2 rfl ⟨⟨trivial, (by first | assumption | (simp only [r9, r0, r1, r2, r3, s1, s2, q0, q1, rc, q3, q4, q5, q6, q7, q8, pr_8_m4, pr_i_0, pr_i_1, pr_i_2, pr_i_m1]; first | assumption | decide | exact ⟨by assumption, by assumption⟩ | exact ⟨Or.inl (by assumption), by assumption⟩ | omega) | decide | exact ⟨Or.inl (by assumption), by assumption⟩ | exact ⟨by assumption, by assumption⟩ | omega)⟩, trivial⟩ ?_
    try simp only [r9, r0, r1, r2, r3, s1, s2, q0, q1, rc, q3, q4, q5, q6, q7, q8, pr_8_m4, pr_i_0, pr_i_1, pr_i_2, pr_i_m1]
    refine pr_cvT [_] rfl rfl rfl rfl rfl (Nat.le_of_ble_eq_true rfl) (by first | assumption | (simp only [r9, r0, r1, r2, r3, s1, s2, q0, q1, rc, q3, q4, q5, q6, q7, q8, pr_8_m4, pr_i_0, pr_i_1, pr_i_2, pr_i_m1]; first | assumption | decide | exact ⟨by assumption, by assumption⟩ | exact ⟨Or.inl (by assumption), by assumption⟩ | omega) | decide | exact ⟨Or.inl (by assumption), by assumption⟩ | exact ⟨by assumption, by assumption⟩ | omega) (Nat.le_of_ble_eq_true rfl) (hp) ?_
    refine pr_ifT rfl (fun h5 => ?_) (fun h5 => ?_)
    · simp only [ab_cmp, pr_8_m4, pr_i_0, pr_i_1, pr_i_2, pr_i_m1] at h5
      first
      | contradiction
      | exact absurd trivial h5
      | exact absurd h5 (by decide)
      | exact absurd (Classical.not_not.mp h5) (by decide)
      | skip
        refine pr_seqT (pc' := 18) 1 rfl ⟨trivial, trivial⟩ ?_
        try simp only [r9, r0, r1, r2, r3, s1, s2, q0, q1, rc, q3, q4, q5, q6, q7, q8, pr_8_m4, pr_i_0, pr_i_1, pr_i_2, pr_i_m1]
        exact pr_irT rfl trivial (by exact cp_s hl hv)
    · simp only [ab_cmp, pr_8_m4, pr_i_0, pr_i_1, pr_i_2, pr_i_m1] at h5
      first
      | contradiction
      | exact absurd trivial h5
      | exact absurd h5 (by decide)
      | exact absurd (Classical.not_not.mp h5) (by decide)
      | skip
        refine pr_seqT (pc' := 11) 3 rfl ⟨⟨⟨trivial, trivial⟩, trivial⟩, trivial⟩ ?_
        try simp only [r9, r0, r1, r2, r3, s1, s2, q0, q1, rc, q3, q4, q5, q6, q7, q8, pr_8_m4, pr_i_0, pr_i_1, pr_i_2, pr_i_m1]
        fail "no call@11 yX10_within"
  · rw [q] at hp
    rw [show ixb (nI p) (x_n X) = true from q]
    rcases pr_rg w 2 2 rfl (by decide) with q' | ⟨k, hk, rfl, q'⟩
    · rw [q'] at hw ⊢
      refine pr_seqT (pc' := 2) 2 rfl ⟨⟨trivial, (by first | assumption | (simp only [r9, r0, r1, r2, r3, s1, s2, q0, q1, rc, q3, q4, q5, q6, q7, q8, pr_8_m4, pr_i_0, pr_i_1, pr_i_2, pr_i_m1]; first | assumption | decide | exact ⟨by assumption, by assumption⟩ | exact ⟨Or.inl (by assumption), by assumption⟩ | omega) | decide | exact ⟨Or.inl (by assumption), by assumption⟩ | exact ⟨by assumption, by assumption⟩ | omega)⟩, trivial⟩ ?_
      try simp only [r9, r0, r1, r2, r3, s1, s2, q0, q1, rc, q3, q4, q5, q6, q7, q8, pr_8_m4, pr_i_0, pr_i_1, pr_i_2, pr_i_m1]
      refine pr_cvT [_] rfl rfl rfl rfl rfl (Nat.le_of_ble_eq_true rfl) (by first | assumption | (simp only [r9, r0, r1, r2, r3, s1, s2, q0, q1, rc, q3, q4, q5, q6, q7, q8, pr_8_m4, pr_i_0, pr_i_1, pr_i_2, pr_i_m1]; first | assumption | decide | exact ⟨by assumption, by assumption⟩ | exact ⟨Or.inl (by assumption), by assumption⟩ | omega) | decide | exact ⟨Or.inl (by assumption), by assumption⟩ | exact ⟨by assumption, by assumption⟩ | omega) (Nat.le_of_ble_eq_true rfl) (hp) ?_
      refine pr_ifT rfl (fun h5 => ?_) (fun h5 => ?_)
      · simp only [ab_cmp, pr_8_m4, pr_i_0, pr_i_1, pr_i_2, pr_i_m1] at h5
        first
        | contradiction
        | exact absurd trivial h5
        | exact absurd h5 (by decide)
        | exact absurd (Classical.not_not.mp h5) (by decide)
        | skip
          refine pr_seqT (pc' := 18) 1 rfl ⟨trivial, trivial⟩ ?_
          try simp only [r9, r0, r1, r2, r3, s1, s2, q0, q1, rc, q3, q4, q5, q6, q7, q8, pr_8_m4, pr_i_0, pr_i_1, pr_i_2, pr_i_m1]
          exact pr_irT rfl trivial (by exact cp_s hl hv)
      · simp only [ab_cmp, pr_8_m4, pr_i_0, pr_i_1, pr_i_2, pr_i_m1] at h5
        first
        | contradiction
        | exact absurd trivial h5
        | exact absurd h5 (by decide)
        | exact absurd (Classical.not_not.mp h5) (by decide)
        | skip
          refine pr_seqT (pc' := 11) 3 rfl ⟨⟨⟨trivial, trivial⟩, trivial⟩, trivial⟩ ?_
          try simp only [r9, r0, r1, r2, r3, s1, s2, q0, q1, rc, q3, q4, q5, q6, q7, q8, pr_8_m4, pr_i_0, pr_i_1, pr_i_2, pr_i_m1]
          refine pr_csT [_, _, _] rfl rfl rfl rfl rfl (Nat.le_of_ble_eq_true rfl) (Nat.le_of_ble_eq_true rfl) (hw) ?_
          refine pr_ifT rfl (fun h14 => ?_) (fun h14 => ?_)
          · simp only [ab_cmp, pr_8_m4, pr_i_0, pr_i_1, pr_i_2, pr_i_m1] at h14
            first
            | contradiction
            | exact absurd trivial h14
            | exact absurd h14 (by decide)
            | exact absurd (Classical.not_not.mp h14) (by decide)
            | skip
              refine pr_seqT (pc' := 42) 11 rfl ⟨⟨⟨⟨⟨⟨⟨⟨⟨⟨⟨trivial, (by first | assumption | (simp only [r9, r0, r1, r2, r3, s1, s2, q0, q1, rc, q3, q4, q5, q6, q7, q8, pr_8_m4, pr_i_0, pr_i_1, pr_i_2, pr_i_m1]; first | assumption | decide | exact ⟨by assumption, by assumption⟩ | exact ⟨Or.inl (by assumption), by assumption⟩ | omega) | decide | exact ⟨Or.inl (by assumption), by assumption⟩ | exact ⟨by assumption, by assumption⟩ | omega)⟩, (by first | assumption | (simp only [r9, r0, r1, r2, r3, s1, s2, q0, q1, rc, q3, q4, q5, q6, q7, q8, pr_8_m4, pr_i_0, pr_i_1, pr_i_2, pr_i_m1]; first | assumption | decide | exact ⟨by assumption, by assumption⟩ | exact ⟨Or.inl (by assumption), by assumption⟩ | omega) | decide | exact ⟨Or.inl (by assumption), by assumption⟩ | exact ⟨by assumption, by assumption⟩ | omega)⟩, (by first | assumption | (simp only [r9, r0, r1, r2, r3, s1, s2, q0, q1, rc, q3, q4, q5, q6, q7, q8, pr_8_m4, pr_i_0, pr_i_1, pr_i_2, pr_i_m1]; first | assumption | decide | exact ⟨by assumption, by assumption⟩ | exact ⟨Or.inl (by assumption), by assumption⟩ | omega) | decide | exact ⟨Or.inl (by assumption), by assumption⟩ | exact ⟨by assumption, by assumption⟩ | omega)⟩, (by first | assumption | (simp only [r9, r0, r1, r2, r3, s1, s2, q0, q1, rc, q3, q4, q5, q6, q7, q8, pr_8_m4, pr_i_0, pr_i_1, pr_i_2, pr_i_m1]; first | assumption | decide | exact ⟨by assumption, by assumption⟩ | exact ⟨Or.inl (by assumption), by assumption⟩ | omega) | decide | exact ⟨Or.inl (by assumption), by assumption⟩ | exact ⟨by assumption, by assumption⟩ | omega)⟩, (by first | assumption | (simp only [r9, r0, r1, r2, r3, s1, s2, q0, q1, rc, q3, q4, q5, q6, q7, q8, pr_8_m4, pr_i_0, pr_i_1, pr_i_2, pr_i_m1]; first | assumption | decide | exact ⟨by assumption, by assumption⟩ | exact ⟨Or.inl (by assumption), by assumption⟩ | omega) | decide | exact ⟨Or.inl (by assumption), by assumption⟩ | exact ⟨by assumption, by assumption⟩ | omega)⟩, (by first | assumption | (simp only [r9, r0, r1, r2, r3, s1, s2, q0, q1, rc, q3, q4, q5, q6, q7, q8, pr_8_m4, pr_i_0, pr_i_1, pr_i_2, pr_i_m1]; first | assumption | decide | exact ⟨by assumption, by assumption⟩ | exact ⟨Or.inl (by assumption), by assumption⟩ | omega) | decide | exact ⟨Or.inl (by assumption), by assumption⟩ | exact ⟨by assumption, by assumption⟩ | omega)⟩, (by first | assumption | (simp only [r9, r0, r1, r2, r3, s1, s2, q0, q1, rc, q3, q4, q5, q6, q7, q8, pr_8_m4, pr_i_0, pr_i_1, pr_i_2, pr_i_m1]; first | assumption | decide | exact ⟨by assumption, by assumption⟩ | exact ⟨Or.inl (by assumption), by assumption⟩ | omega) | decide | exact ⟨Or.inl (by assumption), by assumption⟩ | exact ⟨by assumption, by assumption⟩ | omega)⟩, (by first | assumption | (simp only [r9, r0, r1, r2, r3, s1, s2, q0, q1, rc, q3, q4, q5, q6, q7, q8, pr_8_m4, pr_i_0, pr_i_1, pr_i_2, pr_i_m1]; first | assumption | decide | exact ⟨by assumption, by assumption⟩ | exact ⟨Or.inl (by assumption), by assumption⟩ | omega) | decide | exact ⟨Or.inl (by assumption), by assumption⟩ | exact ⟨by assumption, by assumption⟩ | omega)⟩, (by first | assumption | (simp only [r9, r0, r1, r2, r3, s1, s2, q0, q1, rc, q3, q4, q5, q6, q7, q8, pr_8_m4, pr_i_0, pr_i_1, pr_i_2, pr_i_m1]; first | assumption | decide | exact ⟨by assumption, by assumption⟩ | exact ⟨Or.inl (by assumption), by assumption⟩ | omega) | decide | exact ⟨Or.inl (by assumption), by assumption⟩ | exact ⟨by assumption, by assumption⟩ | omega)⟩, trivial⟩, (by first | assumption | (simp only [r9, r0, r1, r2, r3, s1, s2, q0, q1, rc, q3, q4, q5, q6, q7, q8, pr_8_m4, pr_i_0, pr_i_1, pr_i_2, pr_i_m1]; first | assumption | decide | exact ⟨by assumption, by assumption⟩ | exact ⟨Or.inl (by assumption), by assumption⟩ | omega) | decide | exact ⟨Or.inl (by assumption), by assumption⟩ | exact ⟨by assumption, by assumption⟩ | omega)⟩ ?_
              try simp only [r9, r0, r1, r2, r3, s1, s2, q0, q1, rc, q3, q4, q5, q6, q7, q8, pr_8_m4, pr_i_0, pr_i_1, pr_i_2, pr_i_m1]
              fail "no call@42 yX5_find"
          · simp only [ab_cmp, pr_8_m4, pr_i_0, pr_i_1, pr_i_2, pr_i_m1] at h14
            first
            | contradiction
            | exact absurd trivial h14
            | exact absurd h14 (by decide)
            | exact absurd (Classical.not_not.mp h14) (by decide)
            | skip
              refine pr_seqT (pc' := 18) 1 rfl ⟨trivial, trivial⟩ ?_
              try simp only [r9, r0, r1, r2, r3, s1, s2, q0, q1, rc, q3, q4, q5, q6, q7, q8, pr_8_m4, pr_i_0, pr_i_1, pr_i_2, pr_i_m1]
              exact pr_irT rfl trivial (by exact cp_s hl hv)
    · rw [q'] at hw ⊢
      have e3 : (nI p).toNatClampNeg = p := nI_clamp (by omega)
      rw [if_pos (show (true && true) = true from rfl), e3]
      obtain ⟨y1, y2⟩ := hon p (by omega)
      obtain ⟨o1, o2, o3, o4⟩ := id y2
      have hon' := d8 p _ (d_pn_at hj)
      have h20 : (x_nm X p).length ≤ 20 := hon'.2.2.2.2.2.2.2.1
      have hpn : p < x_n X := hj
      have vi : (24 ≤ ab_k h (tB b + 1 + 2) ∧ ab_k h (tB b + 1 + 2) ≤ 27) ∧ vp_in (nI p) (ab_n h (tB b + 1 + 2)) := ⟨by rw [m3]; decide, by rw [m4]; exact vp_in_nI (by omega) (by decide)⟩
      have hfi := c_rfind h M hra hg hd y2 hon' (by omega) (by omega)
      obtain ⟨c0, -, cr0, -, -, -, -, ⟨ca, cb⟩, -⟩ := id hc
      have cr0 : M.2.2 49 0 = 50 := cr0
      have ca : ab_k h 50 = 20 := ca
      have wi : vp_in (nI p) (ab_n h 50) := by rw [show ab_n h 50 = 28 from cb]; exact vp_in_nI (by omega) (by decide)
      have loop : ∀ (J : Nat → Nat → Int64) (low high : Nat), low ≤ high → high ≤ 8400 → ∀ dd s, s + dd = high + 1 → ∀ (I : Nat → Nat → Int32) (z : Int32) (o7 o8 : Option Value), cl_same M.1 I → ra_v I J low high high (dE (x_c X p) (x_sh X p) (x_nm X p).length) → cs_v I 49 (x_n X) (va_up (x_S X) p z) (x_K X) (x_D X) (x_W X) → pr_T pX10_rid 77 [some (.ref 1), some (.int (nI p)), some (.int (nI k)), some (.int (c3b (ccc X p s))), some (.int (c3s (ccc X p s))), some (.int (c3f X p (ccc X p s))), some (.int (nI s)), o7, o8] [] h (I, J, M.2.2) (cp h M (if nI k = 0 then c3b (ccc X p 8401) else if nI k = 1 then c3s (ccc X p 8401) else c3f X p (ccc X p 8401), X)) := by
        intro J low high hlh hh8 dd
        induction dd with
        | zero =>
          intro s hs I z o7 o8 hsm hrv hcv
          obtain rfl : s = high + 1 := by omega
          have x1 := hrv.2.1
          have e1 : nI high < nI (high + 1) := (nI_ltI (by omega) (by omega)).mpr (by omega)
          have em : ccc X p 8401 = ccc X p (high + 1) := by
            have := ccc_skip X p (high + 1) (8400 - high) (fun k a1 a2 c => by
              have h1 := rch_some h20 c
              rw [hrv.2.2.2.2.2.1 k (Or.inr (by omega))] at h1
              cases h1)
            rw [show high + 1 + (8400 - high) = 8401 by omega] at this
            exact this
          rw [em]
          have done : ∀ v : Int32, cp h M (v, X) (some (.int v)) (I, J, M.2.2) := fun v => cp_q hl hv rfl hsm
          rcases (show k = 0 ∨ k = 1 ∨ k = 2 by omega) with rfl | rfl | rfl
          · rw [if_pos (show nI 0 = 0 from rfl)]
            refine pr_seqT (pc' := 86) 4 rfl ⟨⟨⟨⟨trivial, trivial⟩, (by first | assumption | (simp only [r9, r0, r1, r2, r3, s1, s2, q0, q1, rc, q3, q4, q5, q6, q7, q8, x1, pr_8_m4, pr_i_0, pr_i_1, pr_i_2, pr_i_m1]; first | assumption | decide | exact ⟨by assumption, by assumption⟩ | exact ⟨Or.inl (by assumption), by assumption⟩ | omega) | decide | exact ⟨Or.inl (by assumption), by assumption⟩ | exact ⟨by assumption, by assumption⟩ | omega)⟩, (by first | assumption | (simp only [r9, r0, r1, r2, r3, s1, s2, q0, q1, rc, q3, q4, q5, q6, q7, q8, x1, pr_8_m4, pr_i_0, pr_i_1, pr_i_2, pr_i_m1]; first | assumption | decide | exact ⟨by assumption, by assumption⟩ | exact ⟨Or.inl (by assumption), by assumption⟩ | omega) | decide | exact ⟨Or.inl (by assumption), by assumption⟩ | exact ⟨by assumption, by assumption⟩ | omega)⟩, (by first | assumption | (simp only [r9, r0, r1, r2, r3, s1, s2, q0, q1, rc, q3, q4, q5, q6, q7, q8, x1, pr_8_m4, pr_i_0, pr_i_1, pr_i_2, pr_i_m1]; first | assumption | decide | exact ⟨by assumption, by assumption⟩ | exact ⟨Or.inl (by assumption), by assumption⟩ | omega) | decide | exact ⟨Or.inl (by assumption), by assumption⟩ | exact ⟨by assumption, by assumption⟩ | omega)⟩ ?_
            try simp only [r9, r0, r1, r2, r3, s1, s2, q0, q1, rc, q3, q4, q5, q6, q7, q8, x1, pr_8_m4, pr_i_0, pr_i_1, pr_i_2, pr_i_m1]
            refine pr_icT rfl (fun h86 => ?_) (fun h86 => ?_)
            · simp only [ab_cmp, pr_8_m4, pr_i_0, pr_i_1, pr_i_2, pr_i_m1] at h86
              first
              | contradiction
              | exact absurd trivial h86
              | exact absurd h86 (by decide)
              | exact absurd (Classical.not_not.mp h86) (by decide)
              | exact absurd rfl h86
              | skip
                refine pr_seqT (pc' := 178) 1 rfl ⟨trivial, trivial⟩ ?_
                try simp only [r9, r0, r1, r2, r3, s1, s2, q0, q1, rc, q3, q4, q5, q6, q7, q8, x1, pr_8_m4, pr_i_0, pr_i_1, pr_i_2, pr_i_m1]
                refine pr_ifT rfl (fun h178 => ?_) (fun h178 => ?_)
                · simp only [ab_cmp, pr_8_m4, pr_i_0, pr_i_1, pr_i_2, pr_i_m1] at h178
                  first
                  | contradiction
                  | exact absurd trivial h178
                  | exact absurd h178 (by decide)
                  | exact absurd (Classical.not_not.mp h178) (by decide)
                  | exact absurd rfl h178
                  | skip
                    refine pr_seqT (pc' := 187) 2 rfl ⟨⟨trivial, trivial⟩, trivial⟩ ?_
                    try simp only [r9, r0, r1, r2, r3, s1, s2, q0, q1, rc, q3, q4, q5, q6, q7, q8, x1, pr_8_m4, pr_i_0, pr_i_1, pr_i_2, pr_i_m1]
                    refine pr_icT rfl (fun h187 => ?_) (fun h187 => ?_)
                    · simp only [ab_cmp, pr_8_m4, pr_i_0, pr_i_1, pr_i_2, pr_i_m1] at h187
                      first
                      | contradiction
                      | exact absurd trivial h187
                      | exact absurd h187 (by decide)
                      | exact absurd (Classical.not_not.mp h187) (by decide)
                      | exact absurd rfl h187
                      | skip
                        refine pr_seqT (pc' := 197) 1 rfl ⟨trivial, trivial⟩ ?_
                        try simp only [r9, r0, r1, r2, r3, s1, s2, q0, q1, rc, q3, q4, q5, q6, q7, q8, x1, pr_8_m4, pr_i_0, pr_i_1, pr_i_2, pr_i_m1]
                        exact pr_irT rfl trivial (done _)
                    · simp only [ab_cmp, pr_8_m4, pr_i_0, pr_i_1, pr_i_2, pr_i_m1] at h187
                      first
                      | contradiction
                      | exact absurd trivial h187
                      | exact absurd h187 (by decide)
                      | exact absurd (Classical.not_not.mp h187) (by decide)
                      | exact absurd rfl h187
                      | skip
                        refine pr_seqT (pc' := 197) 2 rfl ⟨⟨trivial, trivial⟩, trivial⟩ ?_
                        try simp only [r9, r0, r1, r2, r3, s1, s2, q0, q1, rc, q3, q4, q5, q6, q7, q8, x1, pr_8_m4, pr_i_0, pr_i_1, pr_i_2, pr_i_m1]
                        exact pr_irT rfl trivial (done _)
                · simp only [ab_cmp, pr_8_m4, pr_i_0, pr_i_1, pr_i_2, pr_i_m1] at h178
                  first
                  | contradiction
                  | exact absurd trivial h178
                  | exact absurd h178 (by decide)
                  | exact absurd (Classical.not_not.mp h178) (by decide)
                  | exact absurd rfl h178
                  | skip
                    refine pr_seqT (pc' := 197) 2 rfl ⟨⟨trivial, trivial⟩, trivial⟩ ?_
                    try simp only [r9, r0, r1, r2, r3, s1, s2, q0, q1, rc, q3, q4, q5, q6, q7, q8, x1, pr_8_m4, pr_i_0, pr_i_1, pr_i_2, pr_i_m1]
                    exact pr_irT rfl trivial (done _)
            · simp only [ab_cmp, pr_8_m4, pr_i_0, pr_i_1, pr_i_2, pr_i_m1] at h86
              first
              | contradiction
              | exact absurd trivial h86
              | exact absurd h86 (by decide)
              | exact absurd (Classical.not_not.mp h86) (by decide)
              | exact absurd rfl h86
              | skip
                fail
          · rw [if_neg (show ¬ nI 1 = 0 by decide), if_pos (show nI 1 = 1 from rfl)]
            refine pr_seqT (pc' := 86) 4 rfl ⟨⟨⟨⟨trivial, trivial⟩, (by first | assumption | (simp only [r9, r0, r1, r2, r3, s1, s2, q0, q1, rc, q3, q4, q5, q6, q7, q8, x1, pr_8_m4, pr_i_0, pr_i_1, pr_i_2, pr_i_m1]; first | assumption | decide | exact ⟨by assumption, by assumption⟩ | exact ⟨Or.inl (by assumption), by assumption⟩ | omega) | decide | exact ⟨Or.inl (by assumption), by assumption⟩ | exact ⟨by assumption, by assumption⟩ | omega)⟩, (by first | assumption | (simp only [r9, r0, r1, r2, r3, s1, s2, q0, q1, rc, q3, q4, q5, q6, q7, q8, x1, pr_8_m4, pr_i_0, pr_i_1, pr_i_2, pr_i_m1]; first | assumption | decide | exact ⟨by assumption, by assumption⟩ | exact ⟨Or.inl (by assumption), by assumption⟩ | omega) | decide | exact ⟨Or.inl (by assumption), by assumption⟩ | exact ⟨by assumption, by assumption⟩ | omega)⟩, (by first | assumption | (simp only [r9, r0, r1, r2, r3, s1, s2, q0, q1, rc, q3, q4, q5, q6, q7, q8, x1, pr_8_m4, pr_i_0, pr_i_1, pr_i_2, pr_i_m1]; first | assumption | decide | exact ⟨by assumption, by assumption⟩ | exact ⟨Or.inl (by assumption), by assumption⟩ | omega) | decide | exact ⟨Or.inl (by assumption), by assumption⟩ | exact ⟨by assumption, by assumption⟩ | omega)⟩ ?_
            try simp only [r9, r0, r1, r2, r3, s1, s2, q0, q1, rc, q3, q4, q5, q6, q7, q8, x1, pr_8_m4, pr_i_0, pr_i_1, pr_i_2, pr_i_m1]
            refine pr_icT rfl (fun h86 => ?_) (fun h86 => ?_)
            · simp only [ab_cmp, pr_8_m4, pr_i_0, pr_i_1, pr_i_2, pr_i_m1] at h86
              first
              | contradiction
              | exact absurd trivial h86
              | exact absurd h86 (by decide)
              | exact absurd (Classical.not_not.mp h86) (by decide)
              | exact absurd rfl h86
              | skip
                refine pr_seqT (pc' := 178) 1 rfl ⟨trivial, trivial⟩ ?_
                try simp only [r9, r0, r1, r2, r3, s1, s2, q0, q1, rc, q3, q4, q5, q6, q7, q8, x1, pr_8_m4, pr_i_0, pr_i_1, pr_i_2, pr_i_m1]
                refine pr_ifT rfl (fun h178 => ?_) (fun h178 => ?_)
                · simp only [ab_cmp, pr_8_m4, pr_i_0, pr_i_1, pr_i_2, pr_i_m1] at h178
                  first
                  | contradiction
                  | exact absurd trivial h178
                  | exact absurd h178 (by decide)
                  | exact absurd (Classical.not_not.mp h178) (by decide)
                  | exact absurd rfl h178
                  | skip
                    refine pr_seqT (pc' := 187) 2 rfl ⟨⟨trivial, trivial⟩, trivial⟩ ?_
                    try simp only [r9, r0, r1, r2, r3, s1, s2, q0, q1, rc, q3, q4, q5, q6, q7, q8, x1, pr_8_m4, pr_i_0, pr_i_1, pr_i_2, pr_i_m1]
                    refine pr_icT rfl (fun h187 => ?_) (fun h187 => ?_)
                    · simp only [ab_cmp, pr_8_m4, pr_i_0, pr_i_1, pr_i_2, pr_i_m1] at h187
                      first
                      | contradiction
                      | exact absurd trivial h187
                      | exact absurd h187 (by decide)
                      | exact absurd (Classical.not_not.mp h187) (by decide)
                      | exact absurd rfl h187
                      | skip
                        refine pr_seqT (pc' := 197) 1 rfl ⟨trivial, trivial⟩ ?_
                        try simp only [r9, r0, r1, r2, r3, s1, s2, q0, q1, rc, q3, q4, q5, q6, q7, q8, x1, pr_8_m4, pr_i_0, pr_i_1, pr_i_2, pr_i_m1]
                        exact pr_irT rfl trivial (done _)
                    · simp only [ab_cmp, pr_8_m4, pr_i_0, pr_i_1, pr_i_2, pr_i_m1] at h187
                      first
                      | contradiction
                      | exact absurd trivial h187
                      | exact absurd h187 (by decide)
                      | exact absurd (Classical.not_not.mp h187) (by decide)
                      | exact absurd rfl h187
                      | skip
                        refine pr_seqT (pc' := 197) 2 rfl ⟨⟨trivial, trivial⟩, trivial⟩ ?_
                        try simp only [r9, r0, r1, r2, r3, s1, s2, q0, q1, rc, q3, q4, q5, q6, q7, q8, x1, pr_8_m4, pr_i_0, pr_i_1, pr_i_2, pr_i_m1]
                        exact pr_irT rfl trivial (done _)
                · simp only [ab_cmp, pr_8_m4, pr_i_0, pr_i_1, pr_i_2, pr_i_m1] at h178
                  first
                  | contradiction
                  | exact absurd trivial h178
                  | exact absurd h178 (by decide)
                  | exact absurd (Classical.not_not.mp h178) (by decide)
                  | exact absurd rfl h178
                  | skip
                    refine pr_seqT (pc' := 197) 2 rfl ⟨⟨trivial, trivial⟩, trivial⟩ ?_
                    try simp only [r9, r0, r1, r2, r3, s1, s2, q0, q1, rc, q3, q4, q5, q6, q7, q8, x1, pr_8_m4, pr_i_0, pr_i_1, pr_i_2, pr_i_m1]
                    exact pr_irT rfl trivial (done _)
            · simp only [ab_cmp, pr_8_m4, pr_i_0, pr_i_1, pr_i_2, pr_i_m1] at h86
              first
              | contradiction
              | exact absurd trivial h86
              | exact absurd h86 (by decide)
              | exact absurd (Classical.not_not.mp h86) (by decide)
              | exact absurd rfl h86
              | skip
                fail
          · rw [if_neg (show ¬ nI 2 = 0 by decide), if_neg (show ¬ nI 2 = 1 by decide)]
            refine pr_seqT (pc' := 86) 4 rfl ⟨⟨⟨⟨trivial, trivial⟩, (by first | assumption | (simp only [r9, r0, r1, r2, r3, s1, s2, q0, q1, rc, q3, q4, q5, q6, q7, q8, x1, pr_8_m4, pr_i_0, pr_i_1, pr_i_2, pr_i_m1]; first | assumption | decide | exact ⟨by assumption, by assumption⟩ | exact ⟨Or.inl (by assumption), by assumption⟩ | omega) | decide | exact ⟨Or.inl (by assumption), by assumption⟩ | exact ⟨by assumption, by assumption⟩ | omega)⟩, (by first | assumption | (simp only [r9, r0, r1, r2, r3, s1, s2, q0, q1, rc, q3, q4, q5, q6, q7, q8, x1, pr_8_m4, pr_i_0, pr_i_1, pr_i_2, pr_i_m1]; first | assumption | decide | exact ⟨by assumption, by assumption⟩ | exact ⟨Or.inl (by assumption), by assumption⟩ | omega) | decide | exact ⟨Or.inl (by assumption), by assumption⟩ | exact ⟨by assumption, by assumption⟩ | omega)⟩, (by first | assumption | (simp only [r9, r0, r1, r2, r3, s1, s2, q0, q1, rc, q3, q4, q5, q6, q7, q8, x1, pr_8_m4, pr_i_0, pr_i_1, pr_i_2, pr_i_m1]; first | assumption | decide | exact ⟨by assumption, by assumption⟩ | exact ⟨Or.inl (by assumption), by assumption⟩ | omega) | decide | exact ⟨Or.inl (by assumption), by assumption⟩ | exact ⟨by assumption, by assumption⟩ | omega)⟩ ?_
            try simp only [r9, r0, r1, r2, r3, s1, s2, q0, q1, rc, q3, q4, q5, q6, q7, q8, x1, pr_8_m4, pr_i_0, pr_i_1, pr_i_2, pr_i_m1]
            refine pr_icT rfl (fun h86 => ?_) (fun h86 => ?_)
            · simp only [ab_cmp, pr_8_m4, pr_i_0, pr_i_1, pr_i_2, pr_i_m1] at h86
              first
              | contradiction
              | exact absurd trivial h86
              | exact absurd h86 (by decide)
              | exact absurd (Classical.not_not.mp h86) (by decide)
              | skip
                refine pr_seqT (pc' := 178) 1 rfl ⟨trivial, trivial⟩ ?_
                try simp only [r9, r0, r1, r2, r3, s1, s2, q0, q1, rc, q3, q4, q5, q6, q7, q8, x1, pr_8_m4, pr_i_0, pr_i_1, pr_i_2, pr_i_m1]
                refine pr_ifT rfl (fun h178 => ?_) (fun h178 => ?_)
                · simp only [ab_cmp, pr_8_m4, pr_i_0, pr_i_1, pr_i_2, pr_i_m1] at h178
                  first
                  | contradiction
                  | exact absurd trivial h178
                  | exact absurd h178 (by decide)
                  | exact absurd (Classical.not_not.mp h178) (by decide)
                  | skip
                    refine pr_seqT (pc' := 187) 2 rfl ⟨⟨trivial, trivial⟩, trivial⟩ ?_
                    try simp only [r9, r0, r1, r2, r3, s1, s2, q0, q1, rc, q3, q4, q5, q6, q7, q8, x1, pr_8_m4, pr_i_0, pr_i_1, pr_i_2, pr_i_m1]
                    refine pr_icT rfl (fun h187 => ?_) (fun h187 => ?_)
                    · simp only [ab_cmp, pr_8_m4, pr_i_0, pr_i_1, pr_i_2, pr_i_m1] at h187
                      first
                      | contradiction
                      | exact absurd trivial h187
                      | exact absurd h187 (by decide)
                      | exact absurd (Classical.not_not.mp h187) (by decide)
                      | skip
                        refine pr_seqT (pc' := 197) 1 rfl ⟨trivial, trivial⟩ ?_
                        try simp only [r9, r0, r1, r2, r3, s1, s2, q0, q1, rc, q3, q4, q5, q6, q7, q8, x1, pr_8_m4, pr_i_0, pr_i_1, pr_i_2, pr_i_m1]
                        exact pr_irT rfl trivial (done _)
                    · simp only [ab_cmp, pr_8_m4, pr_i_0, pr_i_1, pr_i_2, pr_i_m1] at h187
                      first
                      | contradiction
                      | exact absurd trivial h187
                      | exact absurd h187 (by decide)
                      | exact absurd (Classical.not_not.mp h187) (by decide)
                      | skip
                        refine pr_seqT (pc' := 197) 2 rfl ⟨⟨trivial, trivial⟩, trivial⟩ ?_
                        try simp only [r9, r0, r1, r2, r3, s1, s2, q0, q1, rc, q3, q4, q5, q6, q7, q8, x1, pr_8_m4, pr_i_0, pr_i_1, pr_i_2, pr_i_m1]
                        exact pr_irT rfl trivial (done _)
                · simp only [ab_cmp, pr_8_m4, pr_i_0, pr_i_1, pr_i_2, pr_i_m1] at h178
                  first
                  | contradiction
                  | exact absurd trivial h178
                  | exact absurd h178 (by decide)
                  | exact absurd (Classical.not_not.mp h178) (by decide)
                  | skip
                    refine pr_seqT (pc' := 197) 2 rfl ⟨⟨trivial, trivial⟩, trivial⟩ ?_
                    try simp only [r9, r0, r1, r2, r3, s1, s2, q0, q1, rc, q3, q4, q5, q6, q7, q8, x1, pr_8_m4, pr_i_0, pr_i_1, pr_i_2, pr_i_m1]
                    exact pr_irT rfl trivial (done _)
            · simp only [ab_cmp, pr_8_m4, pr_i_0, pr_i_1, pr_i_2, pr_i_m1] at h86
              first
              | contradiction
              | exact absurd trivial h86
              | exact absurd h86 (by decide)
              | exact absurd (Classical.not_not.mp h86) (by decide)
              | skip
                fail
        | succ dd ih =>
          intro s hs I z o7 o8 hsm hrv hcv
          have x1 := hrv.2.1
          have e1 : ¬ nI high < nI s := fun q => by
            have := (nI_ltI (by omega) (by omega)).mp q
            omega
          have hre := c_reach (nI s) h (I, J, M.2.2) hra hrv (fun t _ h1 _ => h1)
          rw [rch_n (by omega)] at hre
          have hh := ih (s + 1) (by omega)
          rw [← nI_1] at hh
          by_cases c : x_dl X p s < 100000
          · have hE := rch_some h20 c
            have g3 := x_gr_le h20 c
            rw [hE, show (some (x_dl X p s * 2 ^ 40 + lo (x_gr X p s) (x_nm X p).length 0)).isSome = true from rfl] at hre
            have hlf := c_leastFor h (I, J, M.2.2) hra hrv hE
            rw [dec_T h20 g3] at hlf
            have ef : I (tB b + 1) 4 = nI X.1.1.2.2.2 := by rw [hsm _ (by omega)]; exact d5
            have em : nI X.1.1.2.2.2 * nI (x_dl X p s) = nI (X.1.1.2.2.2 * x_dl X p s) := nI_mul _ _
            have hcv2 : cs_v (ab_u I 50 p (nI s)) 49 (x_n X) (va_up (x_S X) p (nI s)) (x_K X) (x_D X) (x_W X) := cs_v_ext (cs_set (p := p) (nI s) hcv) (fun q hq => ⟨by
              by_cases e : q = p
              · subst e; rw [va_up_at, va_up_at]
              · rw [va_up_n e, va_up_n e, va_up_n e], rfl, rfl, rfl⟩)
            have hwh := c_worthHaving h (ab_u I 50 p (nI s), J, M.2.2) hc hcv2 hpn
            have hsm2 : cl_same M.1 (ab_u I 50 p (nI s)) := fun a ha => by rw [ab_u_ne (by omega)]; exact hsm a ha
            have hrv2 : ra_v (ab_u I 50 p (nI s)) J low high high (dE (x_c X p) (x_sh X p) (x_nm X p).length) := ⟨by rw [ab_u_ne (by decide)]; exact hrv.1, by rw [ab_u_ne (by decide)]; exact hrv.2.1, hrv.2.2⟩
            have ev : a_wh (al (va_up (x_S X) p (nI s)) (x_K X) p) (x_W X) (x_D X) (x_n X) - nI (X.1.1.2.2.2 * x_dl X p s) = x_rv X p s := rfl
            have hh := fun o7 o8 => hh (ab_u I 50 p (nI s)) (nI s) o7 o8 hsm2 hrv2 hcv2
            rw [ccc, if_pos c] at hh
            cases hc3 : ccc X p s with
            | none =>
              rw [hc3] at hh
              show pr_T pX10_rid 77 [some (.ref 1), some (.int (nI p)), some (.int (nI k)), some (.int 0), some (.int (-4)), some (.int 0), some (.int (nI s)), o7, o8] [] h (I, J, M.2.2) _
              refine pr_seqT (pc' := 86) 4 rfl ⟨⟨⟨⟨trivial, trivial⟩, (by first | assumption | (simp only [r9, r0, r1, r2, r3, s1, s2, q0, q1, rc, q3, q4, q5, q6, q7, q8, x1, ef, em, cr0, e3, ev, pr_8_m4, pr_i_0, pr_i_1, pr_i_2, pr_i_m1]; first | assumption | decide | exact ⟨by assumption, by assumption⟩ | exact ⟨Or.inl (by assumption), by assumption⟩ | omega) | decide | exact ⟨Or.inl (by assumption), by assumption⟩ | exact ⟨by assumption, by assumption⟩ | omega)⟩, (by first | assumption | (simp only [r9, r0, r1, r2, r3, s1, s2, q0, q1, rc, q3, q4, q5, q6, q7, q8, x1, ef, em, cr0, e3, ev, pr_8_m4, pr_i_0, pr_i_1, pr_i_2, pr_i_m1]; first | assumption | decide | exact ⟨by assumption, by assumption⟩ | exact ⟨Or.inl (by assumption), by assumption⟩ | omega) | decide | exact ⟨Or.inl (by assumption), by assumption⟩ | exact ⟨by assumption, by assumption⟩ | omega)⟩, (by first | assumption | (simp only [r9, r0, r1, r2, r3, s1, s2, q0, q1, rc, q3, q4, q5, q6, q7, q8, x1, ef, em, cr0, e3, ev, pr_8_m4, pr_i_0, pr_i_1, pr_i_2, pr_i_m1]; first | assumption | decide | exact ⟨by assumption, by assumption⟩ | exact ⟨Or.inl (by assumption), by assumption⟩ | omega) | decide | exact ⟨Or.inl (by assumption), by assumption⟩ | exact ⟨by assumption, by assumption⟩ | omega)⟩ ?_
              try simp only [r9, r0, r1, r2, r3, s1, s2, q0, q1, rc, q3, q4, q5, q6, q7, q8, x1, ef, em, cr0, e3, ev, pr_8_m4, pr_i_0, pr_i_1, pr_i_2, pr_i_m1]
              refine pr_icT rfl (fun h86 => ?_) (fun h86 => ?_)
              · simp only [ab_cmp, pr_8_m4, pr_i_0, pr_i_1, pr_i_2, pr_i_m1] at h86
                first
                | contradiction
                | exact absurd trivial h86
                | exact absurd h86 (by decide)
                | exact absurd (Classical.not_not.mp h86) (by decide)
                | skip
                  fail
              · simp only [ab_cmp, pr_8_m4, pr_i_0, pr_i_1, pr_i_2, pr_i_m1] at h86
                first
                | contradiction
                | exact absurd trivial h86
                | exact absurd h86 (by decide)
                | exact absurd (Classical.not_not.mp h86) (by decide)
                | skip
                  refine pr_seqT (pc' := 95) 3 rfl ⟨⟨⟨trivial, (by first | assumption | (simp only [r9, r0, r1, r2, r3, s1, s2, q0, q1, rc, q3, q4, q5, q6, q7, q8, x1, ef, em, cr0, e3, ev, pr_8_m4, pr_i_0, pr_i_1, pr_i_2, pr_i_m1]; first | assumption | decide | exact ⟨by assumption, by assumption⟩ | exact ⟨Or.inl (by assumption), by assumption⟩ | omega) | decide | exact ⟨Or.inl (by assumption), by assumption⟩ | exact ⟨by assumption, by assumption⟩ | omega)⟩, (by first | assumption | (simp only [r9, r0, r1, r2, r3, s1, s2, q0, q1, rc, q3, q4, q5, q6, q7, q8, x1, ef, em, cr0, e3, ev, pr_8_m4, pr_i_0, pr_i_1, pr_i_2, pr_i_m1]; first | assumption | decide | exact ⟨by assumption, by assumption⟩ | exact ⟨Or.inl (by assumption), by assumption⟩ | omega) | decide | exact ⟨Or.inl (by assumption), by assumption⟩ | exact ⟨by assumption, by assumption⟩ | omega)⟩, trivial⟩ ?_
                  try simp only [r9, r0, r1, r2, r3, s1, s2, q0, q1, rc, q3, q4, q5, q6, q7, q8, x1, ef, em, cr0, e3, ev, pr_8_m4, pr_i_0, pr_i_1, pr_i_2, pr_i_m1]
                  refine pr_cvT [_] rfl rfl rfl rfl rfl (Nat.le_of_ble_eq_true rfl) (by first | assumption | (simp only [r9, r0, r1, r2, r3, s1, s2, q0, q1, rc, q3, q4, q5, q6, q7, q8, x1, ef, em, cr0, e3, ev, pr_8_m4, pr_i_0, pr_i_1, pr_i_2, pr_i_m1]; first | assumption | decide | exact ⟨by assumption, by assumption⟩ | exact ⟨Or.inl (by assumption), by assumption⟩ | omega) | decide | exact ⟨Or.inl (by assumption), by assumption⟩ | exact ⟨by assumption, by assumption⟩ | omega) (Nat.le_of_ble_eq_true rfl) (hre) ?_
                  refine pr_ifT rfl (fun h98 => ?_) (fun h98 => ?_)
                  · simp only [ab_cmp, pr_8_m4, pr_i_0, pr_i_1, pr_i_2, pr_i_m1] at h98
                    first
                    | contradiction
                    | exact absurd trivial h98
                    | exact absurd h98 (by decide)
                    | exact absurd (Classical.not_not.mp h98) (by decide)
                    | skip
                      refine pr_seqT (pc' := 77) 2 rfl ⟨⟨trivial, trivial⟩, trivial⟩ ?_
                      try simp only [r9, r0, r1, r2, r3, s1, s2, q0, q1, rc, q3, q4, q5, q6, q7, q8, x1, ef, em, cr0, e3, ev, pr_8_m4, pr_i_0, pr_i_1, pr_i_2, pr_i_m1]
                      exact hh _ _
                  · simp only [ab_cmp, pr_8_m4, pr_i_0, pr_i_1, pr_i_2, pr_i_m1] at h98
                    first
                    | contradiction
                    | exact absurd trivial h98
                    | exact absurd h98 (by decide)
                    | exact absurd (Classical.not_not.mp h98) (by decide)
                    | skip
                      refine pr_seqT (pc' := 117) 7 rfl ⟨⟨⟨⟨⟨⟨⟨trivial, (by first | assumption | (simp only [r9, r0, r1, r2, r3, s1, s2, q0, q1, rc, q3, q4, q5, q6, q7, q8, x1, ef, em, cr0, e3, ev, pr_8_m4, pr_i_0, pr_i_1, pr_i_2, pr_i_m1]; first | assumption | decide | exact ⟨by assumption, by assumption⟩ | exact ⟨Or.inl (by assumption), by assumption⟩ | omega) | decide | exact ⟨Or.inl (by assumption), by assumption⟩ | exact ⟨by assumption, by assumption⟩ | omega)⟩, (by first | assumption | (simp only [r9, r0, r1, r2, r3, s1, s2, q0, q1, rc, q3, q4, q5, q6, q7, q8, x1, ef, em, cr0, e3, ev, pr_8_m4, pr_i_0, pr_i_1, pr_i_2, pr_i_m1]; first | assumption | decide | exact ⟨by assumption, by assumption⟩ | exact ⟨Or.inl (by assumption), by assumption⟩ | omega) | decide | exact ⟨Or.inl (by assumption), by assumption⟩ | exact ⟨by assumption, by assumption⟩ | omega)⟩, (by first | assumption | (simp only [r9, r0, r1, r2, r3, s1, s2, q0, q1, rc, q3, q4, q5, q6, q7, q8, x1, ef, em, cr0, e3, ev, pr_8_m4, pr_i_0, pr_i_1, pr_i_2, pr_i_m1]; first | assumption | decide | exact ⟨by assumption, by assumption⟩ | exact ⟨Or.inl (by assumption), by assumption⟩ | omega) | decide | exact ⟨Or.inl (by assumption), by assumption⟩ | exact ⟨by assumption, by assumption⟩ | omega)⟩, (by first | assumption | (simp only [r9, r0, r1, r2, r3, s1, s2, q0, q1, rc, q3, q4, q5, q6, q7, q8, x1, ef, em, cr0, e3, ev, pr_8_m4, pr_i_0, pr_i_1, pr_i_2, pr_i_m1]; first | assumption | decide | exact ⟨by assumption, by assumption⟩ | exact ⟨Or.inl (by assumption), by assumption⟩ | omega) | decide | exact ⟨Or.inl (by assumption), by assumption⟩ | exact ⟨by assumption, by assumption⟩ | omega)⟩, (by first | assumption | (simp only [r9, r0, r1, r2, r3, s1, s2, q0, q1, rc, q3, q4, q5, q6, q7, q8, x1, ef, em, cr0, e3, ev, pr_8_m4, pr_i_0, pr_i_1, pr_i_2, pr_i_m1]; first | assumption | decide | exact ⟨by assumption, by assumption⟩ | exact ⟨Or.inl (by assumption), by assumption⟩ | omega) | decide | exact ⟨Or.inl (by assumption), by assumption⟩ | exact ⟨by assumption, by assumption⟩ | omega)⟩, (by first | assumption | (simp only [r9, r0, r1, r2, r3, s1, s2, q0, q1, rc, q3, q4, q5, q6, q7, q8, x1, ef, em, cr0, e3, ev, pr_8_m4, pr_i_0, pr_i_1, pr_i_2, pr_i_m1]; first | assumption | decide | exact ⟨by assumption, by assumption⟩ | exact ⟨Or.inl (by assumption), by assumption⟩ | omega) | decide | exact ⟨Or.inl (by assumption), by assumption⟩ | exact ⟨by assumption, by assumption⟩ | omega)⟩, trivial⟩ ?_
                      try simp only [r9, r0, r1, r2, r3, s1, s2, q0, q1, rc, q3, q4, q5, q6, q7, q8, x1, ef, em, cr0, e3, ev, pr_8_m4, pr_i_0, pr_i_1, pr_i_2, pr_i_m1]
                      refine pr_cvT [_] rfl rfl rfl rfl rfl (Nat.le_of_ble_eq_true rfl) (by first | assumption | (simp only [r9, r0, r1, r2, r3, s1, s2, q0, q1, rc, q3, q4, q5, q6, q7, q8, x1, ef, em, cr0, e3, ev, pr_8_m4, pr_i_0, pr_i_1, pr_i_2, pr_i_m1]; first | assumption | decide | exact ⟨by assumption, by assumption⟩ | exact ⟨Or.inl (by assumption), by assumption⟩ | omega) | decide | exact ⟨Or.inl (by assumption), by assumption⟩ | exact ⟨by assumption, by assumption⟩ | omega) (Nat.le_of_ble_eq_true rfl) (hlf) ?_
                      refine pr_seqT (pc' := 139) 11 rfl ⟨⟨⟨⟨⟨⟨⟨⟨⟨⟨⟨trivial, trivial⟩, trivial⟩, (by first | assumption | (simp only [r9, r0, r1, r2, r3, s1, s2, q0, q1, rc, q3, q4, q5, q6, q7, q8, x1, ef, em, cr0, e3, ev, pr_8_m4, pr_i_0, pr_i_1, pr_i_2, pr_i_m1]; first | assumption | decide | exact ⟨by assumption, by assumption⟩ | exact ⟨Or.inl (by assumption), by assumption⟩ | omega) | decide | exact ⟨Or.inl (by assumption), by assumption⟩ | exact ⟨by assumption, by assumption⟩ | omega)⟩, (by first | assumption | (simp only [r9, r0, r1, r2, r3, s1, s2, q0, q1, rc, q3, q4, q5, q6, q7, q8, x1, ef, em, cr0, e3, ev, pr_8_m4, pr_i_0, pr_i_1, pr_i_2, pr_i_m1]; first | assumption | decide | exact ⟨by assumption, by assumption⟩ | exact ⟨Or.inl (by assumption), by assumption⟩ | omega) | decide | exact ⟨Or.inl (by assumption), by assumption⟩ | exact ⟨by assumption, by assumption⟩ | omega)⟩, (by first | assumption | (simp only [r9, r0, r1, r2, r3, s1, s2, q0, q1, rc, q3, q4, q5, q6, q7, q8, x1, ef, em, cr0, e3, ev, pr_8_m4, pr_i_0, pr_i_1, pr_i_2, pr_i_m1]; first | assumption | decide | exact ⟨by assumption, by assumption⟩ | exact ⟨Or.inl (by assumption), by assumption⟩ | omega) | decide | exact ⟨Or.inl (by assumption), by assumption⟩ | exact ⟨by assumption, by assumption⟩ | omega)⟩, trivial⟩, trivial⟩, (by first | assumption | (simp only [r9, r0, r1, r2, r3, s1, s2, q0, q1, rc, q3, q4, q5, q6, q7, q8, x1, ef, em, cr0, e3, ev, pr_8_m4, pr_i_0, pr_i_1, pr_i_2, pr_i_m1]; first | assumption | decide | exact ⟨by assumption, by assumption⟩ | exact ⟨Or.inl (by assumption), by assumption⟩ | omega) | decide | exact ⟨Or.inl (by assumption), by assumption⟩ | exact ⟨by assumption, by assumption⟩ | omega)⟩, (by first | assumption | (simp only [r9, r0, r1, r2, r3, s1, s2, q0, q1, rc, q3, q4, q5, q6, q7, q8, x1, ef, em, cr0, e3, ev, pr_8_m4, pr_i_0, pr_i_1, pr_i_2, pr_i_m1]; first | assumption | decide | exact ⟨by assumption, by assumption⟩ | exact ⟨Or.inl (by assumption), by assumption⟩ | omega) | decide | exact ⟨Or.inl (by assumption), by assumption⟩ | exact ⟨by assumption, by assumption⟩ | omega)⟩, (by first | assumption | (simp only [r9, r0, r1, r2, r3, s1, s2, q0, q1, rc, q3, q4, q5, q6, q7, q8, x1, ef, em, cr0, e3, ev, pr_8_m4, pr_i_0, pr_i_1, pr_i_2, pr_i_m1]; first | assumption | decide | exact ⟨by assumption, by assumption⟩ | exact ⟨Or.inl (by assumption), by assumption⟩ | omega) | decide | exact ⟨Or.inl (by assumption), by assumption⟩ | exact ⟨by assumption, by assumption⟩ | omega)⟩, trivial⟩ ?_
                      try simp only [r9, r0, r1, r2, r3, s1, s2, q0, q1, rc, q3, q4, q5, q6, q7, q8, x1, ef, em, cr0, e3, ev, pr_8_m4, pr_i_0, pr_i_1, pr_i_2, pr_i_m1]
                      refine pr_cvT [_] rfl rfl rfl rfl rfl (Nat.le_of_ble_eq_true rfl) (by first | assumption | (simp only [r9, r0, r1, r2, r3, s1, s2, q0, q1, rc, q3, q4, q5, q6, q7, q8, x1, ef, em, cr0, e3, ev, pr_8_m4, pr_i_0, pr_i_1, pr_i_2, pr_i_m1]; first | assumption | decide | exact ⟨by assumption, by assumption⟩ | exact ⟨Or.inl (by assumption), by assumption⟩ | omega) | decide | exact ⟨Or.inl (by assumption), by assumption⟩ | exact ⟨by assumption, by assumption⟩ | omega) (Nat.le_of_ble_eq_true rfl) (hwh) ?_
                      refine pr_seqT (pc' := 151) 5 rfl ⟨⟨⟨⟨⟨trivial, trivial⟩, trivial⟩, trivial⟩, trivial⟩, trivial⟩ ?_
                      try simp only [r9, r0, r1, r2, r3, s1, s2, q0, q1, rc, q3, q4, q5, q6, q7, q8, x1, ef, em, cr0, e3, ev, pr_8_m4, pr_i_0, pr_i_1, pr_i_2, pr_i_m1]
                      refine pr_icT rfl (fun h151 => ?_) (fun h151 => ?_)
                      · simp only [ab_cmp, pr_8_m4, pr_i_0, pr_i_1, pr_i_2, pr_i_m1] at h151
                        first
                        | contradiction
                        | exact absurd trivial h151
                        | exact absurd h151 (by decide)
                        | exact absurd (Classical.not_not.mp h151) (by decide)
                        | skip
                          refine pr_seqT (pc' := 77) 8 rfl ⟨⟨⟨⟨⟨⟨⟨⟨trivial, trivial⟩, trivial⟩, trivial⟩, trivial⟩, trivial⟩, trivial⟩, trivial⟩, trivial⟩ ?_
                          try simp only [r9, r0, r1, r2, r3, s1, s2, q0, q1, rc, q3, q4, q5, q6, q7, q8, x1, ef, em, cr0, e3, ev, pr_8_m4, pr_i_0, pr_i_1, pr_i_2, pr_i_m1]
                          exact hh _ _
                      · simp only [ab_cmp, pr_8_m4, pr_i_0, pr_i_1, pr_i_2, pr_i_m1] at h151
                        first
                        | contradiction
                        | exact absurd trivial h151
                        | exact absurd h151 (by decide)
                        | exact absurd (Classical.not_not.mp h151) (by decide)
                        | skip
                          fail
            | some v =>
              obtain ⟨bb, ww⟩ := v
              rw [hc3] at hh
              have hwl := ccc_lt X p s bb ww hc3
              have nw : ¬ nI ww = -4 := fun e => by
                have := congrArg Int32.toInt e
                rw [nI_toInt (by omega), show (-4 : Int32).toInt = -4 from rfl] at this
                omega
              dsimp only at hh
              show pr_T pX10_rid 77 [some (.ref 1), some (.int (nI p)), some (.int (nI k)), some (.int bb), some (.int (nI ww)), some (.int (nI (X.1.1.2.2.2 * x_dl X p ww))), some (.int (nI s)), o7, o8] [] h (I, J, M.2.2) _
              by_cases c2 : bb < x_rv X p s
              · have c3 : ¬ x_rv X p s ≤ bb := Int32.not_le.mpr c2
                rw [if_pos c2] at hh
                refine pr_seqT (pc' := 86) 4 rfl ⟨⟨⟨⟨trivial, trivial⟩, (by first | assumption | (simp only [r9, r0, r1, r2, r3, s1, s2, q0, q1, rc, q3, q4, q5, q6, q7, q8, x1, ef, em, cr0, e3, ev, pr_8_m4, pr_i_0, pr_i_1, pr_i_2, pr_i_m1]; first | assumption | decide | exact ⟨by assumption, by assumption⟩ | exact ⟨Or.inl (by assumption), by assumption⟩ | omega) | decide | exact ⟨Or.inl (by assumption), by assumption⟩ | exact ⟨by assumption, by assumption⟩ | omega)⟩, (by first | assumption | (simp only [r9, r0, r1, r2, r3, s1, s2, q0, q1, rc, q3, q4, q5, q6, q7, q8, x1, ef, em, cr0, e3, ev, pr_8_m4, pr_i_0, pr_i_1, pr_i_2, pr_i_m1]; first | assumption | decide | exact ⟨by assumption, by assumption⟩ | exact ⟨Or.inl (by assumption), by assumption⟩ | omega) | decide | exact ⟨Or.inl (by assumption), by assumption⟩ | exact ⟨by assumption, by assumption⟩ | omega)⟩, (by first | assumption | (simp only [r9, r0, r1, r2, r3, s1, s2, q0, q1, rc, q3, q4, q5, q6, q7, q8, x1, ef, em, cr0, e3, ev, pr_8_m4, pr_i_0, pr_i_1, pr_i_2, pr_i_m1]; first | assumption | decide | exact ⟨by assumption, by assumption⟩ | exact ⟨Or.inl (by assumption), by assumption⟩ | omega) | decide | exact ⟨Or.inl (by assumption), by assumption⟩ | exact ⟨by assumption, by assumption⟩ | omega)⟩ ?_
                try simp only [r9, r0, r1, r2, r3, s1, s2, q0, q1, rc, q3, q4, q5, q6, q7, q8, x1, ef, em, cr0, e3, ev, pr_8_m4, pr_i_0, pr_i_1, pr_i_2, pr_i_m1]
                refine pr_icT rfl (fun h86 => ?_) (fun h86 => ?_)
                · simp only [ab_cmp, pr_8_m4, pr_i_0, pr_i_1, pr_i_2, pr_i_m1] at h86
                  first
                  | contradiction
                  | exact absurd trivial h86
                  | exact absurd h86 (by decide)
                  | exact absurd (Classical.not_not.mp h86) (by decide)
                  | skip
                    fail
                · simp only [ab_cmp, pr_8_m4, pr_i_0, pr_i_1, pr_i_2, pr_i_m1] at h86
                  first
                  | contradiction
                  | exact absurd trivial h86
                  | exact absurd h86 (by decide)
                  | exact absurd (Classical.not_not.mp h86) (by decide)
                  | skip
                    refine pr_seqT (pc' := 95) 3 rfl ⟨⟨⟨trivial, (by first | assumption | (simp only [r9, r0, r1, r2, r3, s1, s2, q0, q1, rc, q3, q4, q5, q6, q7, q8, x1, ef, em, cr0, e3, ev, pr_8_m4, pr_i_0, pr_i_1, pr_i_2, pr_i_m1]; first | assumption | decide | exact ⟨by assumption, by assumption⟩ | exact ⟨Or.inl (by assumption), by assumption⟩ | omega) | decide | exact ⟨Or.inl (by assumption), by assumption⟩ | exact ⟨by assumption, by assumption⟩ | omega)⟩, (by first | assumption | (simp only [r9, r0, r1, r2, r3, s1, s2, q0, q1, rc, q3, q4, q5, q6, q7, q8, x1, ef, em, cr0, e3, ev, pr_8_m4, pr_i_0, pr_i_1, pr_i_2, pr_i_m1]; first | assumption | decide | exact ⟨by assumption, by assumption⟩ | exact ⟨Or.inl (by assumption), by assumption⟩ | omega) | decide | exact ⟨Or.inl (by assumption), by assumption⟩ | exact ⟨by assumption, by assumption⟩ | omega)⟩, trivial⟩ ?_
                    try simp only [r9, r0, r1, r2, r3, s1, s2, q0, q1, rc, q3, q4, q5, q6, q7, q8, x1, ef, em, cr0, e3, ev, pr_8_m4, pr_i_0, pr_i_1, pr_i_2, pr_i_m1]
                    refine pr_cvT [_] rfl rfl rfl rfl rfl (Nat.le_of_ble_eq_true rfl) (by first | assumption | (simp only [r9, r0, r1, r2, r3, s1, s2, q0, q1, rc, q3, q4, q5, q6, q7, q8, x1, ef, em, cr0, e3, ev, pr_8_m4, pr_i_0, pr_i_1, pr_i_2, pr_i_m1]; first | assumption | decide | exact ⟨by assumption, by assumption⟩ | exact ⟨Or.inl (by assumption), by assumption⟩ | omega) | decide | exact ⟨Or.inl (by assumption), by assumption⟩ | exact ⟨by assumption, by assumption⟩ | omega) (Nat.le_of_ble_eq_true rfl) (hre) ?_
                    refine pr_ifT rfl (fun h98 => ?_) (fun h98 => ?_)
                    · simp only [ab_cmp, pr_8_m4, pr_i_0, pr_i_1, pr_i_2, pr_i_m1] at h98
                      first
                      | contradiction
                      | exact absurd trivial h98
                      | exact absurd h98 (by decide)
                      | exact absurd (Classical.not_not.mp h98) (by decide)
                      | skip
                        refine pr_seqT (pc' := 77) 2 rfl ⟨⟨trivial, trivial⟩, trivial⟩ ?_
                        try simp only [r9, r0, r1, r2, r3, s1, s2, q0, q1, rc, q3, q4, q5, q6, q7, q8, x1, ef, em, cr0, e3, ev, pr_8_m4, pr_i_0, pr_i_1, pr_i_2, pr_i_m1]
                        exact hh _ _
                    · simp only [ab_cmp, pr_8_m4, pr_i_0, pr_i_1, pr_i_2, pr_i_m1] at h98
                      first
                      | contradiction
                      | exact absurd trivial h98
                      | exact absurd h98 (by decide)
                      | exact absurd (Classical.not_not.mp h98) (by decide)
                      | skip
                        refine pr_seqT (pc' := 117) 7 rfl ⟨⟨⟨⟨⟨⟨⟨trivial, (by first | assumption | (simp only [r9, r0, r1, r2, r3, s1, s2, q0, q1, rc, q3, q4, q5, q6, q7, q8, x1, ef, em, cr0, e3, ev, pr_8_m4, pr_i_0, pr_i_1, pr_i_2, pr_i_m1]; first | assumption | decide | exact ⟨by assumption, by assumption⟩ | exact ⟨Or.inl (by assumption), by assumption⟩ | omega) | decide | exact ⟨Or.inl (by assumption), by assumption⟩ | exact ⟨by assumption, by assumption⟩ | omega)⟩, (by first | assumption | (simp only [r9, r0, r1, r2, r3, s1, s2, q0, q1, rc, q3, q4, q5, q6, q7, q8, x1, ef, em, cr0, e3, ev, pr_8_m4, pr_i_0, pr_i_1, pr_i_2, pr_i_m1]; first | assumption | decide | exact ⟨by assumption, by assumption⟩ | exact ⟨Or.inl (by assumption), by assumption⟩ | omega) | decide | exact ⟨Or.inl (by assumption), by assumption⟩ | exact ⟨by assumption, by assumption⟩ | omega)⟩, (by first | assumption | (simp only [r9, r0, r1, r2, r3, s1, s2, q0, q1, rc, q3, q4, q5, q6, q7, q8, x1, ef, em, cr0, e3, ev, pr_8_m4, pr_i_0, pr_i_1, pr_i_2, pr_i_m1]; first | assumption | decide | exact ⟨by assumption, by assumption⟩ | exact ⟨Or.inl (by assumption), by assumption⟩ | omega) | decide | exact ⟨Or.inl (by assumption), by assumption⟩ | exact ⟨by assumption, by assumption⟩ | omega)⟩, (by first | assumption | (simp only [r9, r0, r1, r2, r3, s1, s2, q0, q1, rc, q3, q4, q5, q6, q7, q8, x1, ef, em, cr0, e3, ev, pr_8_m4, pr_i_0, pr_i_1, pr_i_2, pr_i_m1]; first | assumption | decide | exact ⟨by assumption, by assumption⟩ | exact ⟨Or.inl (by assumption), by assumption⟩ | omega) | decide | exact ⟨Or.inl (by assumption), by assumption⟩ | exact ⟨by assumption, by assumption⟩ | omega)⟩, (by first | assumption | (simp only [r9, r0, r1, r2, r3, s1, s2, q0, q1, rc, q3, q4, q5, q6, q7, q8, x1, ef, em, cr0, e3, ev, pr_8_m4, pr_i_0, pr_i_1, pr_i_2, pr_i_m1]; first | assumption | decide | exact ⟨by assumption, by assumption⟩ | exact ⟨Or.inl (by assumption), by assumption⟩ | omega) | decide | exact ⟨Or.inl (by assumption), by assumption⟩ | exact ⟨by assumption, by assumption⟩ | omega)⟩, (by first | assumption | (simp only [r9, r0, r1, r2, r3, s1, s2, q0, q1, rc, q3, q4, q5, q6, q7, q8, x1, ef, em, cr0, e3, ev, pr_8_m4, pr_i_0, pr_i_1, pr_i_2, pr_i_m1]; first | assumption | decide | exact ⟨by assumption, by assumption⟩ | exact ⟨Or.inl (by assumption), by assumption⟩ | omega) | decide | exact ⟨Or.inl (by assumption), by assumption⟩ | exact ⟨by assumption, by assumption⟩ | omega)⟩, trivial⟩ ?_
                        try simp only [r9, r0, r1, r2, r3, s1, s2, q0, q1, rc, q3, q4, q5, q6, q7, q8, x1, ef, em, cr0, e3, ev, pr_8_m4, pr_i_0, pr_i_1, pr_i_2, pr_i_m1]
                        refine pr_cvT [_] rfl rfl rfl rfl rfl (Nat.le_of_ble_eq_true rfl) (by first | assumption | (simp only [r9, r0, r1, r2, r3, s1, s2, q0, q1, rc, q3, q4, q5, q6, q7, q8, x1, ef, em, cr0, e3, ev, pr_8_m4, pr_i_0, pr_i_1, pr_i_2, pr_i_m1]; first | assumption | decide | exact ⟨by assumption, by assumption⟩ | exact ⟨Or.inl (by assumption), by assumption⟩ | omega) | decide | exact ⟨Or.inl (by assumption), by assumption⟩ | exact ⟨by assumption, by assumption⟩ | omega) (Nat.le_of_ble_eq_true rfl) (hlf) ?_
                        refine pr_seqT (pc' := 139) 11 rfl ⟨⟨⟨⟨⟨⟨⟨⟨⟨⟨⟨trivial, trivial⟩, trivial⟩, (by first | assumption | (simp only [r9, r0, r1, r2, r3, s1, s2, q0, q1, rc, q3, q4, q5, q6, q7, q8, x1, ef, em, cr0, e3, ev, pr_8_m4, pr_i_0, pr_i_1, pr_i_2, pr_i_m1]; first | assumption | decide | exact ⟨by assumption, by assumption⟩ | exact ⟨Or.inl (by assumption), by assumption⟩ | omega) | decide | exact ⟨Or.inl (by assumption), by assumption⟩ | exact ⟨by assumption, by assumption⟩ | omega)⟩, (by first | assumption | (simp only [r9, r0, r1, r2, r3, s1, s2, q0, q1, rc, q3, q4, q5, q6, q7, q8, x1, ef, em, cr0, e3, ev, pr_8_m4, pr_i_0, pr_i_1, pr_i_2, pr_i_m1]; first | assumption | decide | exact ⟨by assumption, by assumption⟩ | exact ⟨Or.inl (by assumption), by assumption⟩ | omega) | decide | exact ⟨Or.inl (by assumption), by assumption⟩ | exact ⟨by assumption, by assumption⟩ | omega)⟩, (by first | assumption | (simp only [r9, r0, r1, r2, r3, s1, s2, q0, q1, rc, q3, q4, q5, q6, q7, q8, x1, ef, em, cr0, e3, ev, pr_8_m4, pr_i_0, pr_i_1, pr_i_2, pr_i_m1]; first | assumption | decide | exact ⟨by assumption, by assumption⟩ | exact ⟨Or.inl (by assumption), by assumption⟩ | omega) | decide | exact ⟨Or.inl (by assumption), by assumption⟩ | exact ⟨by assumption, by assumption⟩ | omega)⟩, trivial⟩, trivial⟩, (by first | assumption | (simp only [r9, r0, r1, r2, r3, s1, s2, q0, q1, rc, q3, q4, q5, q6, q7, q8, x1, ef, em, cr0, e3, ev, pr_8_m4, pr_i_0, pr_i_1, pr_i_2, pr_i_m1]; first | assumption | decide | exact ⟨by assumption, by assumption⟩ | exact ⟨Or.inl (by assumption), by assumption⟩ | omega) | decide | exact ⟨Or.inl (by assumption), by assumption⟩ | exact ⟨by assumption, by assumption⟩ | omega)⟩, (by first | assumption | (simp only [r9, r0, r1, r2, r3, s1, s2, q0, q1, rc, q3, q4, q5, q6, q7, q8, x1, ef, em, cr0, e3, ev, pr_8_m4, pr_i_0, pr_i_1, pr_i_2, pr_i_m1]; first | assumption | decide | exact ⟨by assumption, by assumption⟩ | exact ⟨Or.inl (by assumption), by assumption⟩ | omega) | decide | exact ⟨Or.inl (by assumption), by assumption⟩ | exact ⟨by assumption, by assumption⟩ | omega)⟩, (by first | assumption | (simp only [r9, r0, r1, r2, r3, s1, s2, q0, q1, rc, q3, q4, q5, q6, q7, q8, x1, ef, em, cr0, e3, ev, pr_8_m4, pr_i_0, pr_i_1, pr_i_2, pr_i_m1]; first | assumption | decide | exact ⟨by assumption, by assumption⟩ | exact ⟨Or.inl (by assumption), by assumption⟩ | omega) | decide | exact ⟨Or.inl (by assumption), by assumption⟩ | exact ⟨by assumption, by assumption⟩ | omega)⟩, trivial⟩ ?_
                        try simp only [r9, r0, r1, r2, r3, s1, s2, q0, q1, rc, q3, q4, q5, q6, q7, q8, x1, ef, em, cr0, e3, ev, pr_8_m4, pr_i_0, pr_i_1, pr_i_2, pr_i_m1]
                        refine pr_cvT [_] rfl rfl rfl rfl rfl (Nat.le_of_ble_eq_true rfl) (by first | assumption | (simp only [r9, r0, r1, r2, r3, s1, s2, q0, q1, rc, q3, q4, q5, q6, q7, q8, x1, ef, em, cr0, e3, ev, pr_8_m4, pr_i_0, pr_i_1, pr_i_2, pr_i_m1]; first | assumption | decide | exact ⟨by assumption, by assumption⟩ | exact ⟨Or.inl (by assumption), by assumption⟩ | omega) | decide | exact ⟨Or.inl (by assumption), by assumption⟩ | exact ⟨by assumption, by assumption⟩ | omega) (Nat.le_of_ble_eq_true rfl) (hwh) ?_
                        refine pr_seqT (pc' := 151) 5 rfl ⟨⟨⟨⟨⟨trivial, trivial⟩, trivial⟩, trivial⟩, trivial⟩, trivial⟩ ?_
                        try simp only [r9, r0, r1, r2, r3, s1, s2, q0, q1, rc, q3, q4, q5, q6, q7, q8, x1, ef, em, cr0, e3, ev, pr_8_m4, pr_i_0, pr_i_1, pr_i_2, pr_i_m1]
                        refine pr_icT rfl (fun h151 => ?_) (fun h151 => ?_)
                        · simp only [ab_cmp, pr_8_m4, pr_i_0, pr_i_1, pr_i_2, pr_i_m1] at h151
                          first
                          | contradiction
                          | exact absurd trivial h151
                          | exact absurd h151 (by decide)
                          | exact absurd (Classical.not_not.mp h151) (by decide)
                          | skip
                            refine pr_seqT (pc' := 77) 8 rfl ⟨⟨⟨⟨⟨⟨⟨⟨trivial, trivial⟩, trivial⟩, trivial⟩, trivial⟩, trivial⟩, trivial⟩, trivial⟩, trivial⟩ ?_
                            try simp only [r9, r0, r1, r2, r3, s1, s2, q0, q1, rc, q3, q4, q5, q6, q7, q8, x1, ef, em, cr0, e3, ev, pr_8_m4, pr_i_0, pr_i_1, pr_i_2, pr_i_m1]
                            exact hh _ _
                        · simp only [ab_cmp, pr_8_m4, pr_i_0, pr_i_1, pr_i_2, pr_i_m1] at h151
                          first
                          | contradiction
                          | exact absurd trivial h151
                          | exact absurd h151 (by decide)
                          | exact absurd (Classical.not_not.mp h151) (by decide)
                          | skip
                            refine pr_seqT (pc' := 157) 2 rfl ⟨⟨trivial, trivial⟩, trivial⟩ ?_
                            try simp only [r9, r0, r1, r2, r3, s1, s2, q0, q1, rc, q3, q4, q5, q6, q7, q8, x1, ef, em, cr0, e3, ev, pr_8_m4, pr_i_0, pr_i_1, pr_i_2, pr_i_m1]
                            refine pr_icT rfl (fun h157 => ?_) (fun h157 => ?_)
                            · simp only [ab_cmp, pr_8_m4, pr_i_0, pr_i_1, pr_i_2, pr_i_m1] at h157
                              first
                              | contradiction
                              | exact absurd trivial h157
                              | exact absurd h157 (by decide)
                              | exact absurd (Classical.not_not.mp h157) (by decide)
                              | skip
                                refine pr_seqT (pc' := 77) 2 rfl ⟨⟨trivial, trivial⟩, trivial⟩ ?_
                                try simp only [r9, r0, r1, r2, r3, s1, s2, q0, q1, rc, q3, q4, q5, q6, q7, q8, x1, ef, em, cr0, e3, ev, pr_8_m4, pr_i_0, pr_i_1, pr_i_2, pr_i_m1]
                                exact hh _ _
                            · simp only [ab_cmp, pr_8_m4, pr_i_0, pr_i_1, pr_i_2, pr_i_m1] at h157
                              first
                              | contradiction
                              | exact absurd trivial h157
                              | exact absurd h157 (by decide)
                              | exact absurd (Classical.not_not.mp h157) (by decide)
                              | skip
                                refine pr_seqT (pc' := 77) 8 rfl ⟨⟨⟨⟨⟨⟨⟨⟨trivial, trivial⟩, trivial⟩, trivial⟩, trivial⟩, trivial⟩, trivial⟩, trivial⟩, trivial⟩ ?_
                                try simp only [r9, r0, r1, r2, r3, s1, s2, q0, q1, rc, q3, q4, q5, q6, q7, q8, x1, ef, em, cr0, e3, ev, pr_8_m4, pr_i_0, pr_i_1, pr_i_2, pr_i_m1]
                                exact hh _ _
              · have c3 : x_rv X p s ≤ bb := Int32.not_lt.mp c2
                rw [if_neg c2] at hh
                refine pr_seqT (pc' := 86) 4 rfl ⟨⟨⟨⟨trivial, trivial⟩, (by first | assumption | (simp only [r9, r0, r1, r2, r3, s1, s2, q0, q1, rc, q3, q4, q5, q6, q7, q8, x1, ef, em, cr0, e3, ev, pr_8_m4, pr_i_0, pr_i_1, pr_i_2, pr_i_m1]; first | assumption | decide | exact ⟨by assumption, by assumption⟩ | exact ⟨Or.inl (by assumption), by assumption⟩ | omega) | decide | exact ⟨Or.inl (by assumption), by assumption⟩ | exact ⟨by assumption, by assumption⟩ | omega)⟩, (by first | assumption | (simp only [r9, r0, r1, r2, r3, s1, s2, q0, q1, rc, q3, q4, q5, q6, q7, q8, x1, ef, em, cr0, e3, ev, pr_8_m4, pr_i_0, pr_i_1, pr_i_2, pr_i_m1]; first | assumption | decide | exact ⟨by assumption, by assumption⟩ | exact ⟨Or.inl (by assumption), by assumption⟩ | omega) | decide | exact ⟨Or.inl (by assumption), by assumption⟩ | exact ⟨by assumption, by assumption⟩ | omega)⟩, (by first | assumption | (simp only [r9, r0, r1, r2, r3, s1, s2, q0, q1, rc, q3, q4, q5, q6, q7, q8, x1, ef, em, cr0, e3, ev, pr_8_m4, pr_i_0, pr_i_1, pr_i_2, pr_i_m1]; first | assumption | decide | exact ⟨by assumption, by assumption⟩ | exact ⟨Or.inl (by assumption), by assumption⟩ | omega) | decide | exact ⟨Or.inl (by assumption), by assumption⟩ | exact ⟨by assumption, by assumption⟩ | omega)⟩ ?_
                try simp only [r9, r0, r1, r2, r3, s1, s2, q0, q1, rc, q3, q4, q5, q6, q7, q8, x1, ef, em, cr0, e3, ev, pr_8_m4, pr_i_0, pr_i_1, pr_i_2, pr_i_m1]
                refine pr_icT rfl (fun h86 => ?_) (fun h86 => ?_)
                · simp only [ab_cmp, pr_8_m4, pr_i_0, pr_i_1, pr_i_2, pr_i_m1] at h86
                  first
                  | contradiction
                  | exact absurd trivial h86
                  | exact absurd h86 (by decide)
                  | exact absurd (Classical.not_not.mp h86) (by decide)
                  | skip
                    fail
                · simp only [ab_cmp, pr_8_m4, pr_i_0, pr_i_1, pr_i_2, pr_i_m1] at h86
                  first
                  | contradiction
                  | exact absurd trivial h86
                  | exact absurd h86 (by decide)
                  | exact absurd (Classical.not_not.mp h86) (by decide)
                  | skip
                    refine pr_seqT (pc' := 95) 3 rfl ⟨⟨⟨trivial, (by first | assumption | (simp only [r9, r0, r1, r2, r3, s1, s2, q0, q1, rc, q3, q4, q5, q6, q7, q8, x1, ef, em, cr0, e3, ev, pr_8_m4, pr_i_0, pr_i_1, pr_i_2, pr_i_m1]; first | assumption | decide | exact ⟨by assumption, by assumption⟩ | exact ⟨Or.inl (by assumption), by assumption⟩ | omega) | decide | exact ⟨Or.inl (by assumption), by assumption⟩ | exact ⟨by assumption, by assumption⟩ | omega)⟩, (by first | assumption | (simp only [r9, r0, r1, r2, r3, s1, s2, q0, q1, rc, q3, q4, q5, q6, q7, q8, x1, ef, em, cr0, e3, ev, pr_8_m4, pr_i_0, pr_i_1, pr_i_2, pr_i_m1]; first | assumption | decide | exact ⟨by assumption, by assumption⟩ | exact ⟨Or.inl (by assumption), by assumption⟩ | omega) | decide | exact ⟨Or.inl (by assumption), by assumption⟩ | exact ⟨by assumption, by assumption⟩ | omega)⟩, trivial⟩ ?_
                    try simp only [r9, r0, r1, r2, r3, s1, s2, q0, q1, rc, q3, q4, q5, q6, q7, q8, x1, ef, em, cr0, e3, ev, pr_8_m4, pr_i_0, pr_i_1, pr_i_2, pr_i_m1]
                    refine pr_cvT [_] rfl rfl rfl rfl rfl (Nat.le_of_ble_eq_true rfl) (by first | assumption | (simp only [r9, r0, r1, r2, r3, s1, s2, q0, q1, rc, q3, q4, q5, q6, q7, q8, x1, ef, em, cr0, e3, ev, pr_8_m4, pr_i_0, pr_i_1, pr_i_2, pr_i_m1]; first | assumption | decide | exact ⟨by assumption, by assumption⟩ | exact ⟨Or.inl (by assumption), by assumption⟩ | omega) | decide | exact ⟨Or.inl (by assumption), by assumption⟩ | exact ⟨by assumption, by assumption⟩ | omega) (Nat.le_of_ble_eq_true rfl) (hre) ?_
                    refine pr_ifT rfl (fun h98 => ?_) (fun h98 => ?_)
                    · simp only [ab_cmp, pr_8_m4, pr_i_0, pr_i_1, pr_i_2, pr_i_m1] at h98
                      first
                      | contradiction
                      | exact absurd trivial h98
                      | exact absurd h98 (by decide)
                      | exact absurd (Classical.not_not.mp h98) (by decide)
                      | skip
                        refine pr_seqT (pc' := 77) 2 rfl ⟨⟨trivial, trivial⟩, trivial⟩ ?_
                        try simp only [r9, r0, r1, r2, r3, s1, s2, q0, q1, rc, q3, q4, q5, q6, q7, q8, x1, ef, em, cr0, e3, ev, pr_8_m4, pr_i_0, pr_i_1, pr_i_2, pr_i_m1]
                        exact hh _ _
                    · simp only [ab_cmp, pr_8_m4, pr_i_0, pr_i_1, pr_i_2, pr_i_m1] at h98
                      first
                      | contradiction
                      | exact absurd trivial h98
                      | exact absurd h98 (by decide)
                      | exact absurd (Classical.not_not.mp h98) (by decide)
                      | skip
                        refine pr_seqT (pc' := 117) 7 rfl ⟨⟨⟨⟨⟨⟨⟨trivial, (by first | assumption | (simp only [r9, r0, r1, r2, r3, s1, s2, q0, q1, rc, q3, q4, q5, q6, q7, q8, x1, ef, em, cr0, e3, ev, pr_8_m4, pr_i_0, pr_i_1, pr_i_2, pr_i_m1]; first | assumption | decide | exact ⟨by assumption, by assumption⟩ | exact ⟨Or.inl (by assumption), by assumption⟩ | omega) | decide | exact ⟨Or.inl (by assumption), by assumption⟩ | exact ⟨by assumption, by assumption⟩ | omega)⟩, (by first | assumption | (simp only [r9, r0, r1, r2, r3, s1, s2, q0, q1, rc, q3, q4, q5, q6, q7, q8, x1, ef, em, cr0, e3, ev, pr_8_m4, pr_i_0, pr_i_1, pr_i_2, pr_i_m1]; first | assumption | decide | exact ⟨by assumption, by assumption⟩ | exact ⟨Or.inl (by assumption), by assumption⟩ | omega) | decide | exact ⟨Or.inl (by assumption), by assumption⟩ | exact ⟨by assumption, by assumption⟩ | omega)⟩, (by first | assumption | (simp only [r9, r0, r1, r2, r3, s1, s2, q0, q1, rc, q3, q4, q5, q6, q7, q8, x1, ef, em, cr0, e3, ev, pr_8_m4, pr_i_0, pr_i_1, pr_i_2, pr_i_m1]; first | assumption | decide | exact ⟨by assumption, by assumption⟩ | exact ⟨Or.inl (by assumption), by assumption⟩ | omega) | decide | exact ⟨Or.inl (by assumption), by assumption⟩ | exact ⟨by assumption, by assumption⟩ | omega)⟩, (by first | assumption | (simp only [r9, r0, r1, r2, r3, s1, s2, q0, q1, rc, q3, q4, q5, q6, q7, q8, x1, ef, em, cr0, e3, ev, pr_8_m4, pr_i_0, pr_i_1, pr_i_2, pr_i_m1]; first | assumption | decide | exact ⟨by assumption, by assumption⟩ | exact ⟨Or.inl (by assumption), by assumption⟩ | omega) | decide | exact ⟨Or.inl (by assumption), by assumption⟩ | exact ⟨by assumption, by assumption⟩ | omega)⟩, (by first | assumption | (simp only [r9, r0, r1, r2, r3, s1, s2, q0, q1, rc, q3, q4, q5, q6, q7, q8, x1, ef, em, cr0, e3, ev, pr_8_m4, pr_i_0, pr_i_1, pr_i_2, pr_i_m1]; first | assumption | decide | exact ⟨by assumption, by assumption⟩ | exact ⟨Or.inl (by assumption), by assumption⟩ | omega) | decide | exact ⟨Or.inl (by assumption), by assumption⟩ | exact ⟨by assumption, by assumption⟩ | omega)⟩, (by first | assumption | (simp only [r9, r0, r1, r2, r3, s1, s2, q0, q1, rc, q3, q4, q5, q6, q7, q8, x1, ef, em, cr0, e3, ev, pr_8_m4, pr_i_0, pr_i_1, pr_i_2, pr_i_m1]; first | assumption | decide | exact ⟨by assumption, by assumption⟩ | exact ⟨Or.inl (by assumption), by assumption⟩ | omega) | decide | exact ⟨Or.inl (by assumption), by assumption⟩ | exact ⟨by assumption, by assumption⟩ | omega)⟩, trivial⟩ ?_
                        try simp only [r9, r0, r1, r2, r3, s1, s2, q0, q1, rc, q3, q4, q5, q6, q7, q8, x1, ef, em, cr0, e3, ev, pr_8_m4, pr_i_0, pr_i_1, pr_i_2, pr_i_m1]
                        refine pr_cvT [_] rfl rfl rfl rfl rfl (Nat.le_of_ble_eq_true rfl) (by first | assumption | (simp only [r9, r0, r1, r2, r3, s1, s2, q0, q1, rc, q3, q4, q5, q6, q7, q8, x1, ef, em, cr0, e3, ev, pr_8_m4, pr_i_0, pr_i_1, pr_i_2, pr_i_m1]; first | assumption | decide | exact ⟨by assumption, by assumption⟩ | exact ⟨Or.inl (by assumption), by assumption⟩ | omega) | decide | exact ⟨Or.inl (by assumption), by assumption⟩ | exact ⟨by assumption, by assumption⟩ | omega) (Nat.le_of_ble_eq_true rfl) (hlf) ?_
                        refine pr_seqT (pc' := 139) 11 rfl ⟨⟨⟨⟨⟨⟨⟨⟨⟨⟨⟨trivial, trivial⟩, trivial⟩, (by first | assumption | (simp only [r9, r0, r1, r2, r3, s1, s2, q0, q1, rc, q3, q4, q5, q6, q7, q8, x1, ef, em, cr0, e3, ev, pr_8_m4, pr_i_0, pr_i_1, pr_i_2, pr_i_m1]; first | assumption | decide | exact ⟨by assumption, by assumption⟩ | exact ⟨Or.inl (by assumption), by assumption⟩ | omega) | decide | exact ⟨Or.inl (by assumption), by assumption⟩ | exact ⟨by assumption, by assumption⟩ | omega)⟩, (by first | assumption | (simp only [r9, r0, r1, r2, r3, s1, s2, q0, q1, rc, q3, q4, q5, q6, q7, q8, x1, ef, em, cr0, e3, ev, pr_8_m4, pr_i_0, pr_i_1, pr_i_2, pr_i_m1]; first | assumption | decide | exact ⟨by assumption, by assumption⟩ | exact ⟨Or.inl (by assumption), by assumption⟩ | omega) | decide | exact ⟨Or.inl (by assumption), by assumption⟩ | exact ⟨by assumption, by assumption⟩ | omega)⟩, (by first | assumption | (simp only [r9, r0, r1, r2, r3, s1, s2, q0, q1, rc, q3, q4, q5, q6, q7, q8, x1, ef, em, cr0, e3, ev, pr_8_m4, pr_i_0, pr_i_1, pr_i_2, pr_i_m1]; first | assumption | decide | exact ⟨by assumption, by assumption⟩ | exact ⟨Or.inl (by assumption), by assumption⟩ | omega) | decide | exact ⟨Or.inl (by assumption), by assumption⟩ | exact ⟨by assumption, by assumption⟩ | omega)⟩, trivial⟩, trivial⟩, (by first | assumption | (simp only [r9, r0, r1, r2, r3, s1, s2, q0, q1, rc, q3, q4, q5, q6, q7, q8, x1, ef, em, cr0, e3, ev, pr_8_m4, pr_i_0, pr_i_1, pr_i_2, pr_i_m1]; first | assumption | decide | exact ⟨by assumption, by assumption⟩ | exact ⟨Or.inl (by assumption), by assumption⟩ | omega) | decide | exact ⟨Or.inl (by assumption), by assumption⟩ | exact ⟨by assumption, by assumption⟩ | omega)⟩, (by first | assumption | (simp only [r9, r0, r1, r2, r3, s1, s2, q0, q1, rc, q3, q4, q5, q6, q7, q8, x1, ef, em, cr0, e3, ev, pr_8_m4, pr_i_0, pr_i_1, pr_i_2, pr_i_m1]; first | assumption | decide | exact ⟨by assumption, by assumption⟩ | exact ⟨Or.inl (by assumption), by assumption⟩ | omega) | decide | exact ⟨Or.inl (by assumption), by assumption⟩ | exact ⟨by assumption, by assumption⟩ | omega)⟩, (by first | assumption | (simp only [r9, r0, r1, r2, r3, s1, s2, q0, q1, rc, q3, q4, q5, q6, q7, q8, x1, ef, em, cr0, e3, ev, pr_8_m4, pr_i_0, pr_i_1, pr_i_2, pr_i_m1]; first | assumption | decide | exact ⟨by assumption, by assumption⟩ | exact ⟨Or.inl (by assumption), by assumption⟩ | omega) | decide | exact ⟨Or.inl (by assumption), by assumption⟩ | exact ⟨by assumption, by assumption⟩ | omega)⟩, trivial⟩ ?_
                        try simp only [r9, r0, r1, r2, r3, s1, s2, q0, q1, rc, q3, q4, q5, q6, q7, q8, x1, ef, em, cr0, e3, ev, pr_8_m4, pr_i_0, pr_i_1, pr_i_2, pr_i_m1]
                        refine pr_cvT [_] rfl rfl rfl rfl rfl (Nat.le_of_ble_eq_true rfl) (by first | assumption | (simp only [r9, r0, r1, r2, r3, s1, s2, q0, q1, rc, q3, q4, q5, q6, q7, q8, x1, ef, em, cr0, e3, ev, pr_8_m4, pr_i_0, pr_i_1, pr_i_2, pr_i_m1]; first | assumption | decide | exact ⟨by assumption, by assumption⟩ | exact ⟨Or.inl (by assumption), by assumption⟩ | omega) | decide | exact ⟨Or.inl (by assumption), by assumption⟩ | exact ⟨by assumption, by assumption⟩ | omega) (Nat.le_of_ble_eq_true rfl) (hwh) ?_
                        refine pr_seqT (pc' := 151) 5 rfl ⟨⟨⟨⟨⟨trivial, trivial⟩, trivial⟩, trivial⟩, trivial⟩, trivial⟩ ?_
                        try simp only [r9, r0, r1, r2, r3, s1, s2, q0, q1, rc, q3, q4, q5, q6, q7, q8, x1, ef, em, cr0, e3, ev, pr_8_m4, pr_i_0, pr_i_1, pr_i_2, pr_i_m1]
                        refine pr_icT rfl (fun h151 => ?_) (fun h151 => ?_)
                        · simp only [ab_cmp, pr_8_m4, pr_i_0, pr_i_1, pr_i_2, pr_i_m1] at h151
                          first
                          | contradiction
                          | exact absurd trivial h151
                          | exact absurd h151 (by decide)
                          | exact absurd (Classical.not_not.mp h151) (by decide)
                          | skip
                            fail
                        · simp only [ab_cmp, pr_8_m4, pr_i_0, pr_i_1, pr_i_2, pr_i_m1] at h151
                          first
                          | contradiction
                          | exact absurd trivial h151
                          | exact absurd h151 (by decide)
                          | exact absurd (Classical.not_not.mp h151) (by decide)
                          | skip
                            refine pr_seqT (pc' := 157) 2 rfl ⟨⟨trivial, trivial⟩, trivial⟩ ?_
                            try simp only [r9, r0, r1, r2, r3, s1, s2, q0, q1, rc, q3, q4, q5, q6, q7, q8, x1, ef, em, cr0, e3, ev, pr_8_m4, pr_i_0, pr_i_1, pr_i_2, pr_i_m1]
                            refine pr_icT rfl (fun h157 => ?_) (fun h157 => ?_)
                            · simp only [ab_cmp, pr_8_m4, pr_i_0, pr_i_1, pr_i_2, pr_i_m1] at h157
                              first
                              | contradiction
                              | exact absurd trivial h157
                              | exact absurd h157 (by decide)
                              | exact absurd (Classical.not_not.mp h157) (by decide)
                              | skip
                                refine pr_seqT (pc' := 77) 2 rfl ⟨⟨trivial, trivial⟩, trivial⟩ ?_
                                try simp only [r9, r0, r1, r2, r3, s1, s2, q0, q1, rc, q3, q4, q5, q6, q7, q8, x1, ef, em, cr0, e3, ev, pr_8_m4, pr_i_0, pr_i_1, pr_i_2, pr_i_m1]
                                exact hh _ _
                            · simp only [ab_cmp, pr_8_m4, pr_i_0, pr_i_1, pr_i_2, pr_i_m1] at h157
                              first
                              | contradiction
                              | exact absurd trivial h157
                              | exact absurd h157 (by decide)
                              | exact absurd (Classical.not_not.mp h157) (by decide)
                              | skip
                                fail
          · have hE := rch_none h20 c
            rw [hE, show (none : Option Nat).isSome = false from rfl] at hre
            have hh := fun o7 o8 => hh I z o7 o8 hsm hrv hcv
            rw [ccc, if_neg c] at hh
            refine pr_seqT (pc' := 86) 4 rfl ⟨⟨⟨⟨trivial, trivial⟩, (by first | assumption | (simp only [r9, r0, r1, r2, r3, s1, s2, q0, q1, rc, q3, q4, q5, q6, q7, q8, x1, pr_8_m4, pr_i_0, pr_i_1, pr_i_2, pr_i_m1]; first | assumption | decide | exact ⟨by assumption, by assumption⟩ | exact ⟨Or.inl (by assumption), by assumption⟩ | omega) | decide | exact ⟨Or.inl (by assumption), by assumption⟩ | exact ⟨by assumption, by assumption⟩ | omega)⟩, (by first | assumption | (simp only [r9, r0, r1, r2, r3, s1, s2, q0, q1, rc, q3, q4, q5, q6, q7, q8, x1, pr_8_m4, pr_i_0, pr_i_1, pr_i_2, pr_i_m1]; first | assumption | decide | exact ⟨by assumption, by assumption⟩ | exact ⟨Or.inl (by assumption), by assumption⟩ | omega) | decide | exact ⟨Or.inl (by assumption), by assumption⟩ | exact ⟨by assumption, by assumption⟩ | omega)⟩, (by first | assumption | (simp only [r9, r0, r1, r2, r3, s1, s2, q0, q1, rc, q3, q4, q5, q6, q7, q8, x1, pr_8_m4, pr_i_0, pr_i_1, pr_i_2, pr_i_m1]; first | assumption | decide | exact ⟨by assumption, by assumption⟩ | exact ⟨Or.inl (by assumption), by assumption⟩ | omega) | decide | exact ⟨Or.inl (by assumption), by assumption⟩ | exact ⟨by assumption, by assumption⟩ | omega)⟩ ?_
            try simp only [r9, r0, r1, r2, r3, s1, s2, q0, q1, rc, q3, q4, q5, q6, q7, q8, x1, pr_8_m4, pr_i_0, pr_i_1, pr_i_2, pr_i_m1]
            refine pr_icT rfl (fun h86 => ?_) (fun h86 => ?_)
            · simp only [ab_cmp, pr_8_m4, pr_i_0, pr_i_1, pr_i_2, pr_i_m1] at h86
              first
              | contradiction
              | exact absurd trivial h86
              | exact absurd h86 (by decide)
              | exact absurd (Classical.not_not.mp h86) (by decide)
              | skip
                fail
            · simp only [ab_cmp, pr_8_m4, pr_i_0, pr_i_1, pr_i_2, pr_i_m1] at h86
              first
              | contradiction
              | exact absurd trivial h86
              | exact absurd h86 (by decide)
              | exact absurd (Classical.not_not.mp h86) (by decide)
              | skip
                refine pr_seqT (pc' := 95) 3 rfl ⟨⟨⟨trivial, (by first | assumption | (simp only [r9, r0, r1, r2, r3, s1, s2, q0, q1, rc, q3, q4, q5, q6, q7, q8, x1, pr_8_m4, pr_i_0, pr_i_1, pr_i_2, pr_i_m1]; first | assumption | decide | exact ⟨by assumption, by assumption⟩ | exact ⟨Or.inl (by assumption), by assumption⟩ | omega) | decide | exact ⟨Or.inl (by assumption), by assumption⟩ | exact ⟨by assumption, by assumption⟩ | omega)⟩, (by first | assumption | (simp only [r9, r0, r1, r2, r3, s1, s2, q0, q1, rc, q3, q4, q5, q6, q7, q8, x1, pr_8_m4, pr_i_0, pr_i_1, pr_i_2, pr_i_m1]; first | assumption | decide | exact ⟨by assumption, by assumption⟩ | exact ⟨Or.inl (by assumption), by assumption⟩ | omega) | decide | exact ⟨Or.inl (by assumption), by assumption⟩ | exact ⟨by assumption, by assumption⟩ | omega)⟩, trivial⟩ ?_
                try simp only [r9, r0, r1, r2, r3, s1, s2, q0, q1, rc, q3, q4, q5, q6, q7, q8, x1, pr_8_m4, pr_i_0, pr_i_1, pr_i_2, pr_i_m1]
                refine pr_cvT [_] rfl rfl rfl rfl rfl (Nat.le_of_ble_eq_true rfl) (by first | assumption | (simp only [r9, r0, r1, r2, r3, s1, s2, q0, q1, rc, q3, q4, q5, q6, q7, q8, x1, pr_8_m4, pr_i_0, pr_i_1, pr_i_2, pr_i_m1]; first | assumption | decide | exact ⟨by assumption, by assumption⟩ | exact ⟨Or.inl (by assumption), by assumption⟩ | omega) | decide | exact ⟨Or.inl (by assumption), by assumption⟩ | exact ⟨by assumption, by assumption⟩ | omega) (Nat.le_of_ble_eq_true rfl) (hre) ?_
                refine pr_ifT rfl (fun h98 => ?_) (fun h98 => ?_)
                · simp only [ab_cmp, pr_8_m4, pr_i_0, pr_i_1, pr_i_2, pr_i_m1] at h98
                  first
                  | contradiction
                  | exact absurd trivial h98
                  | exact absurd h98 (by decide)
                  | exact absurd (Classical.not_not.mp h98) (by decide)
                  | skip
                    refine pr_seqT (pc' := 77) 2 rfl ⟨⟨trivial, trivial⟩, trivial⟩ ?_
                    try simp only [r9, r0, r1, r2, r3, s1, s2, q0, q1, rc, q3, q4, q5, q6, q7, q8, x1, pr_8_m4, pr_i_0, pr_i_1, pr_i_2, pr_i_m1]
                    exact hh _ _
                · simp only [ab_cmp, pr_8_m4, pr_i_0, pr_i_1, pr_i_2, pr_i_m1] at h98
                  first
                  | contradiction
                  | exact absurd trivial h98
                  | exact absurd h98 (by decide)
                  | exact absurd (Classical.not_not.mp h98) (by decide)
                  | skip
                    fail
      refine pr_seqT (pc' := 2) 2 rfl ⟨⟨trivial, (by first | assumption | (simp only [r9, r0, r1, r2, r3, s1, s2, q0, q1, rc, q3, q4, q5, q6, q7, q8, e3, y1, pr_8_m4, pr_i_0, pr_i_1, pr_i_2, pr_i_m1]; first | assumption | decide | exact ⟨by assumption, by assumption⟩ | exact ⟨Or.inl (by assumption), by assumption⟩ | omega) | decide | exact ⟨Or.inl (by assumption), by assumption⟩ | exact ⟨by assumption, by assumption⟩ | omega)⟩, trivial⟩ ?_
      try simp only [r9, r0, r1, r2, r3, s1, s2, q0, q1, rc, q3, q4, q5, q6, q7, q8, e3, y1, pr_8_m4, pr_i_0, pr_i_1, pr_i_2, pr_i_m1]
      refine pr_cvT [_] rfl rfl rfl rfl rfl (Nat.le_of_ble_eq_true rfl) (by first | assumption | (simp only [r9, r0, r1, r2, r3, s1, s2, q0, q1, rc, q3, q4, q5, q6, q7, q8, e3, y1, pr_8_m4, pr_i_0, pr_i_1, pr_i_2, pr_i_m1]; first | assumption | decide | exact ⟨by assumption, by assumption⟩ | exact ⟨Or.inl (by assumption), by assumption⟩ | omega) | decide | exact ⟨Or.inl (by assumption), by assumption⟩ | exact ⟨by assumption, by assumption⟩ | omega) (Nat.le_of_ble_eq_true rfl) (hp) ?_
      refine pr_ifT rfl (fun h5 => ?_) (fun h5 => ?_)
      · simp only [ab_cmp, pr_8_m4, pr_i_0, pr_i_1, pr_i_2, pr_i_m1] at h5
        first
        | contradiction
        | exact absurd trivial h5
        | exact absurd h5 (by decide)
        | exact absurd (Classical.not_not.mp h5) (by decide)
        | skip
          refine pr_seqT (pc' := 18) 1 rfl ⟨trivial, trivial⟩ ?_
          try simp only [r9, r0, r1, r2, r3, s1, s2, q0, q1, rc, q3, q4, q5, q6, q7, q8, e3, y1, pr_8_m4, pr_i_0, pr_i_1, pr_i_2, pr_i_m1]
          exact pr_irT rfl trivial (by first | rfl | (simp only [r9, r0, r1, r2, r3, s1, s2, q0, q1, rc, q3, q4, q5, q6, q7, q8, e3, y1, pr_8_m4, pr_i_0, pr_i_1, pr_i_2, pr_i_m1]; done) | (simp [pr_b, pr_8_m4, pr_i_0, pr_i_1, pr_i_2, pr_i_m1, *]; done) | (simp_all [pr_b, pr_8_m4, pr_i_0, pr_i_1, pr_i_2, pr_i_m1]; done))
      · simp only [ab_cmp, pr_8_m4, pr_i_0, pr_i_1, pr_i_2, pr_i_m1] at h5
        first
        | contradiction
        | exact absurd trivial h5
        | exact absurd h5 (by decide)
        | exact absurd (Classical.not_not.mp h5) (by decide)
        | skip
          refine pr_seqT (pc' := 11) 3 rfl ⟨⟨⟨trivial, trivial⟩, trivial⟩, trivial⟩ ?_
          try simp only [r9, r0, r1, r2, r3, s1, s2, q0, q1, rc, q3, q4, q5, q6, q7, q8, e3, y1, pr_8_m4, pr_i_0, pr_i_1, pr_i_2, pr_i_m1]
          refine pr_csT [_, _, _] rfl rfl rfl rfl rfl (Nat.le_of_ble_eq_true rfl) (Nat.le_of_ble_eq_true rfl) (hw) ?_
          refine pr_ifT rfl (fun h14 => ?_) (fun h14 => ?_)
          · simp only [ab_cmp, pr_8_m4, pr_i_0, pr_i_1, pr_i_2, pr_i_m1] at h14
            first
            | contradiction
            | exact absurd trivial h14
            | exact absurd h14 (by decide)
            | exact absurd (Classical.not_not.mp h14) (by decide)
            | skip
              refine pr_seqT (pc' := 42) 11 rfl ⟨⟨⟨⟨⟨⟨⟨⟨⟨⟨⟨trivial, (by first | assumption | (simp only [r9, r0, r1, r2, r3, s1, s2, q0, q1, rc, q3, q4, q5, q6, q7, q8, e3, y1, pr_8_m4, pr_i_0, pr_i_1, pr_i_2, pr_i_m1]; first | assumption | decide | exact ⟨by assumption, by assumption⟩ | exact ⟨Or.inl (by assumption), by assumption⟩ | omega) | decide | exact ⟨Or.inl (by assumption), by assumption⟩ | exact ⟨by assumption, by assumption⟩ | omega)⟩, (by first | assumption | (simp only [r9, r0, r1, r2, r3, s1, s2, q0, q1, rc, q3, q4, q5, q6, q7, q8, e3, y1, pr_8_m4, pr_i_0, pr_i_1, pr_i_2, pr_i_m1]; first | assumption | decide | exact ⟨by assumption, by assumption⟩ | exact ⟨Or.inl (by assumption), by assumption⟩ | omega) | decide | exact ⟨Or.inl (by assumption), by assumption⟩ | exact ⟨by assumption, by assumption⟩ | omega)⟩, (by first | assumption | (simp only [r9, r0, r1, r2, r3, s1, s2, q0, q1, rc, q3, q4, q5, q6, q7, q8, e3, y1, pr_8_m4, pr_i_0, pr_i_1, pr_i_2, pr_i_m1]; first | assumption | decide | exact ⟨by assumption, by assumption⟩ | exact ⟨Or.inl (by assumption), by assumption⟩ | omega) | decide | exact ⟨Or.inl (by assumption), by assumption⟩ | exact ⟨by assumption, by assumption⟩ | omega)⟩, (by first | assumption | (simp only [r9, r0, r1, r2, r3, s1, s2, q0, q1, rc, q3, q4, q5, q6, q7, q8, e3, y1, pr_8_m4, pr_i_0, pr_i_1, pr_i_2, pr_i_m1]; first | assumption | decide | exact ⟨by assumption, by assumption⟩ | exact ⟨Or.inl (by assumption), by assumption⟩ | omega) | decide | exact ⟨Or.inl (by assumption), by assumption⟩ | exact ⟨by assumption, by assumption⟩ | omega)⟩, (by first | assumption | (simp only [r9, r0, r1, r2, r3, s1, s2, q0, q1, rc, q3, q4, q5, q6, q7, q8, e3, y1, pr_8_m4, pr_i_0, pr_i_1, pr_i_2, pr_i_m1]; first | assumption | decide | exact ⟨by assumption, by assumption⟩ | exact ⟨Or.inl (by assumption), by assumption⟩ | omega) | decide | exact ⟨Or.inl (by assumption), by assumption⟩ | exact ⟨by assumption, by assumption⟩ | omega)⟩, (by first | assumption | (simp only [r9, r0, r1, r2, r3, s1, s2, q0, q1, rc, q3, q4, q5, q6, q7, q8, e3, y1, pr_8_m4, pr_i_0, pr_i_1, pr_i_2, pr_i_m1]; first | assumption | decide | exact ⟨by assumption, by assumption⟩ | exact ⟨Or.inl (by assumption), by assumption⟩ | omega) | decide | exact ⟨Or.inl (by assumption), by assumption⟩ | exact ⟨by assumption, by assumption⟩ | omega)⟩, (by first | assumption | (simp only [r9, r0, r1, r2, r3, s1, s2, q0, q1, rc, q3, q4, q5, q6, q7, q8, e3, y1, pr_8_m4, pr_i_0, pr_i_1, pr_i_2, pr_i_m1]; first | assumption | decide | exact ⟨by assumption, by assumption⟩ | exact ⟨Or.inl (by assumption), by assumption⟩ | omega) | decide | exact ⟨Or.inl (by assumption), by assumption⟩ | exact ⟨by assumption, by assumption⟩ | omega)⟩, (by first | assumption | (simp only [r9, r0, r1, r2, r3, s1, s2, q0, q1, rc, q3, q4, q5, q6, q7, q8, e3, y1, pr_8_m4, pr_i_0, pr_i_1, pr_i_2, pr_i_m1]; first | assumption | decide | exact ⟨by assumption, by assumption⟩ | exact ⟨Or.inl (by assumption), by assumption⟩ | omega) | decide | exact ⟨Or.inl (by assumption), by assumption⟩ | exact ⟨by assumption, by assumption⟩ | omega)⟩, (by first | assumption | (simp only [r9, r0, r1, r2, r3, s1, s2, q0, q1, rc, q3, q4, q5, q6, q7, q8, e3, y1, pr_8_m4, pr_i_0, pr_i_1, pr_i_2, pr_i_m1]; first | assumption | decide | exact ⟨by assumption, by assumption⟩ | exact ⟨Or.inl (by assumption), by assumption⟩ | omega) | decide | exact ⟨Or.inl (by assumption), by assumption⟩ | exact ⟨by assumption, by assumption⟩ | omega)⟩, trivial⟩, (by first | assumption | (simp only [r9, r0, r1, r2, r3, s1, s2, q0, q1, rc, q3, q4, q5, q6, q7, q8, e3, y1, pr_8_m4, pr_i_0, pr_i_1, pr_i_2, pr_i_m1]; first | assumption | decide | exact ⟨by assumption, by assumption⟩ | exact ⟨Or.inl (by assumption), by assumption⟩ | omega) | decide | exact ⟨Or.inl (by assumption), by assumption⟩ | exact ⟨by assumption, by assumption⟩ | omega)⟩ ?_
              try simp only [r9, r0, r1, r2, r3, s1, s2, q0, q1, rc, q3, q4, q5, q6, q7, q8, e3, y1, pr_8_m4, pr_i_0, pr_i_1, pr_i_2, pr_i_m1]
              refine pr_cvX [_, _] rfl rfl rfl rfl rfl (Nat.le_of_ble_eq_true rfl) (by first | assumption | (simp only [r9, r0, r1, r2, r3, s1, s2, q0, q1, rc, q3, q4, q5, q6, q7, q8, e3, y1, pr_8_m4, pr_i_0, pr_i_1, pr_i_2, pr_i_m1]; first | assumption | decide | exact ⟨by assumption, by assumption⟩ | exact ⟨Or.inl (by assumption), by assumption⟩ | omega) | decide | exact ⟨Or.inl (by assumption), by assumption⟩ | exact ⟨by assumption, by assumption⟩ | omega) (Nat.le_of_ble_eq_true rfl) (hfi) (fun v42 M42 q42 => ?_)
              obtain ⟨rfl, z2, ⟨low, high, z3⟩, z4⟩ := q42
              obtain ⟨I1, J1, Z1⟩ := M42
              dsimp only at z2 z3 z4
              subst z2
              have z3 : ra_v I1 J1 low high high (dE (x_c X p) (x_sh X p) (x_nm X p).length) := z3
              refine pr_seqT (pc' := 56) 5 rfl ⟨⟨⟨⟨⟨trivial, (by first | assumption | (simp only [r9, r0, r1, r2, r3, s1, s2, q0, q1, rc, q3, q4, q5, q6, q7, q8, e3, y1, pr_8_m4, pr_i_0, pr_i_1, pr_i_2, pr_i_m1]; first | assumption | decide | exact ⟨by assumption, by assumption⟩ | exact ⟨Or.inl (by assumption), by assumption⟩ | omega) | decide | exact ⟨Or.inl (by assumption), by assumption⟩ | exact ⟨by assumption, by assumption⟩ | omega)⟩, (by first | assumption | (simp only [r9, r0, r1, r2, r3, s1, s2, q0, q1, rc, q3, q4, q5, q6, q7, q8, e3, y1, pr_8_m4, pr_i_0, pr_i_1, pr_i_2, pr_i_m1]; first | assumption | decide | exact ⟨by assumption, by assumption⟩ | exact ⟨Or.inl (by assumption), by assumption⟩ | omega) | decide | exact ⟨Or.inl (by assumption), by assumption⟩ | exact ⟨by assumption, by assumption⟩ | omega)⟩, (by first | assumption | (simp only [r9, r0, r1, r2, r3, s1, s2, q0, q1, rc, q3, q4, q5, q6, q7, q8, e3, y1, pr_8_m4, pr_i_0, pr_i_1, pr_i_2, pr_i_m1]; first | assumption | decide | exact ⟨by assumption, by assumption⟩ | exact ⟨Or.inl (by assumption), by assumption⟩ | omega) | decide | exact ⟨Or.inl (by assumption), by assumption⟩ | exact ⟨by assumption, by assumption⟩ | omega)⟩, (by first | assumption | (simp only [r9, r0, r1, r2, r3, s1, s2, q0, q1, rc, q3, q4, q5, q6, q7, q8, e3, y1, pr_8_m4, pr_i_0, pr_i_1, pr_i_2, pr_i_m1]; first | assumption | decide | exact ⟨by assumption, by assumption⟩ | exact ⟨Or.inl (by assumption), by assumption⟩ | omega) | decide | exact ⟨Or.inl (by assumption), by assumption⟩ | exact ⟨by assumption, by assumption⟩ | omega)⟩, (by first | assumption | (simp only [r9, r0, r1, r2, r3, s1, s2, q0, q1, rc, q3, q4, q5, q6, q7, q8, e3, y1, pr_8_m4, pr_i_0, pr_i_1, pr_i_2, pr_i_m1]; first | assumption | decide | exact ⟨by assumption, by assumption⟩ | exact ⟨Or.inl (by assumption), by assumption⟩ | omega) | decide | exact ⟨Or.inl (by assumption), by assumption⟩ | exact ⟨by assumption, by assumption⟩ | omega)⟩ ?_
              try simp only [r9, r0, r1, r2, r3, s1, s2, q0, q1, rc, q3, q4, q5, q6, q7, q8, e3, y1, pr_8_m4, pr_i_0, pr_i_1, pr_i_2, pr_i_m1]
              refine pr_cvX [_] rfl rfl rfl rfl rfl (Nat.le_of_ble_eq_true rfl) (by first | assumption | (simp only [r9, r0, r1, r2, r3, s1, s2, q0, q1, rc, q3, q4, q5, q6, q7, q8, e3, y1, pr_8_m4, pr_i_0, pr_i_1, pr_i_2, pr_i_m1]; first | assumption | decide | exact ⟨by assumption, by assumption⟩ | exact ⟨Or.inl (by assumption), by assumption⟩ | omega) | decide | exact ⟨Or.inl (by assumption), by assumption⟩ | exact ⟨by assumption, by assumption⟩ | omega) (Nat.le_of_ble_eq_true rfl) (c_take h (I1, J1, M.2.2) hc hg hb (ld_v_congr (fun a _ _ => z4 a (by omega)) hd)) (fun v56 M56 q56 => ?_)
              obtain ⟨rfl, e2', e3', e4'⟩ := q56
              obtain ⟨I2, Z2⟩ := M56
              dsimp only at e2' e3' e4'
              subst e2'
              have w3 : I2 55 3 = nI low := by rw [e4' 55 (by omega)]; exact z3.1
              have hrv2 : ra_v I2 J1 low high high (dE (x_c X p) (x_sh X p) (x_nm X p).length) := ⟨w3, by rw [e4' 55 (by omega)]; exact z3.2.1, z3.2.2⟩
              have em : ccc X p low = none := ccc_low h20 z3.2.2.2.2.2.1
              have hcv2 : cs_v I2 49 (x_n X) (va_up (x_S X) p (x_S X p)) (x_K X) (x_D X) (x_W X) := cs_v_ext e3' (fun q hq => ⟨va_up_id _ _ _, rfl, rfl, rfl⟩)
              have h0 := loop J1 low high z3.2.2.1 z3.2.2.2.1 (high + 1 - low) low (by have := z3.2.2.1; omega) I2 _ none none (fun a ha => by rw [e4' a (by omega)]; exact z4 a (by omega)) hrv2 hcv2
              rw [em] at h0
              refine pr_seqT (pc' := 77) 10 rfl ⟨⟨⟨⟨⟨⟨⟨⟨⟨⟨trivial, trivial⟩, trivial⟩, trivial⟩, trivial⟩, trivial⟩, trivial⟩, (by first | assumption | (simp only [r9, r0, r1, r2, r3, s1, s2, q0, q1, rc, q3, q4, q5, q6, q7, q8, e3, y1, pr_8_m4, pr_i_0, pr_i_1, pr_i_2, pr_i_m1]; first | assumption | decide | exact ⟨by assumption, by assumption⟩ | exact ⟨Or.inl (by assumption), by assumption⟩ | omega) | decide | exact ⟨Or.inl (by assumption), by assumption⟩ | exact ⟨by assumption, by assumption⟩ | omega)⟩, (by first | assumption | (simp only [r9, r0, r1, r2, r3, s1, s2, q0, q1, rc, q3, q4, q5, q6, q7, q8, e3, y1, pr_8_m4, pr_i_0, pr_i_1, pr_i_2, pr_i_m1]; first | assumption | decide | exact ⟨by assumption, by assumption⟩ | exact ⟨Or.inl (by assumption), by assumption⟩ | omega) | decide | exact ⟨Or.inl (by assumption), by assumption⟩ | exact ⟨by assumption, by assumption⟩ | omega)⟩, (by first | assumption | (simp only [r9, r0, r1, r2, r3, s1, s2, q0, q1, rc, q3, q4, q5, q6, q7, q8, e3, y1, pr_8_m4, pr_i_0, pr_i_1, pr_i_2, pr_i_m1]; first | assumption | decide | exact ⟨by assumption, by assumption⟩ | exact ⟨Or.inl (by assumption), by assumption⟩ | omega) | decide | exact ⟨Or.inl (by assumption), by assumption⟩ | exact ⟨by assumption, by assumption⟩ | omega)⟩, trivial⟩ ?_
              try simp only [r9, r0, r1, r2, r3, s1, s2, q0, q1, rc, q3, q4, q5, q6, q7, q8, e3, y1, pr_8_m4, pr_i_0, pr_i_1, pr_i_2, pr_i_m1]
              simp only [w3]
              exact h0
          · simp only [ab_cmp, pr_8_m4, pr_i_0, pr_i_1, pr_i_2, pr_i_m1] at h14
            first
            | contradiction
            | exact absurd trivial h14
            | exact absurd h14 (by decide)
            | exact absurd (Classical.not_not.mp h14) (by decide)
            | skip
              refine pr_seqT (pc' := 18) 1 rfl ⟨trivial, trivial⟩ ?_
              try simp only [r9, r0, r1, r2, r3, s1, s2, q0, q1, rc, q3, q4, q5, q6, q7, q8, e3, y1, pr_8_m4, pr_i_0, pr_i_1, pr_i_2, pr_i_m1]
              exact pr_irT rfl trivial (by first | rfl | (simp only [r9, r0, r1, r2, r3, s1, s2, q0, q1, rc, q3, q4, q5, q6, q7, q8, e3, y1, pr_8_m4, pr_i_0, pr_i_1, pr_i_2, pr_i_m1]; done) | (simp [pr_b, pr_8_m4, pr_i_0, pr_i_1, pr_i_2, pr_i_m1, *]; done) | (simp_all [pr_b, pr_8_m4, pr_i_0, pr_i_1, pr_i_2, pr_i_m1]; done))
