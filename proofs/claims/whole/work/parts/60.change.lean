
/-! ===== change, rid ===== -/
theorem x_c_le (X : St) (p i : Nat) : x_c X p i ≤ 4 := rC_le _ _
theorem x_gr_le {X : St} {p s : Nat} (hn : (x_nm X p).length ≤ 20) (h : x_dl X p s < 100000) : ∀ k, k < (x_nm X p).length → x_gr X p s k ≤ 3 := fun k hk => by
  have h1 := (gEnd h).2.2 k (by omega) (by omega)
  have h2 := x_c_le X p k
  show gR _ _ _ _ _ ≤ 3
  omega
theorem rch_some {X : St} {p s : Nat} (hn : (x_nm X p).length ≤ 20) (h : x_dl X p s < 100000) : dE (x_c X p) (x_sh X p) (x_nm X p).length s = some (x_dl X p s * 2 ^ 40 + lo (x_gr X p s) (x_nm X p).length 0) := dE_some (x_c_le X p) hn h
theorem rch_none {X : St} {p s : Nat} (hn : (x_nm X p).length ≤ 20) (h : ¬ x_dl X p s < 100000) : dE (x_c X p) (x_sh X p) (x_nm X p).length s = none := dE_none (x_c_le X p) hn h
theorem ra_same {I I' : Nat → Nat → Int32} (h : ∀ a, (a < 55 ∨ 57 < a) → I' a = I a) : cl_same I I' := fun a ha => h a (by omega)
set_option maxHeartbeats 4000000 in
theorem p_change {b : Bool} {X : St} (x y w : Int32) (h : ab_H) (M : ab_M) (hl : Lay h M.2.2 b) (hv : cl_v M.1 b X) : pr_X pX10_change [.ref 1, .int x, .int y, .int w] h M (cp h M (f_change X x y w, X)) := by
  obtain ⟨k1, q0, q1, rc, q3, q4, q5, q6, q7, q8, r9⟩ := id hl.1
  have ht := ly_told hl
  obtain ⟨t0, t1, r0, r1, r2, r3, hg, ⟨ka, kb⟩, ⟨kc, kd⟩, ⟨ke, kf⟩, hnm⟩ := id ht
  obtain ⟨g0, g1, s1, s2, m1, m2, ⟨m3, m4⟩, hon⟩ := id hg
  obtain ⟨hT, hIm, hSh, hTp, hFa, hTo⟩ := id hv
  obtain ⟨hd, v2, v3, v4, v5, v6, v7⟩ := id hT
  obtain ⟨d1, d2, d3, d4, d5, d6, d7, d8⟩ := id hd
  have b0 := tB_ne b
  have hc := hl.2.2.2.2.2.1
  have hb : 49 + 5 < tB b + 1 ∨ tB b + 1 + 27 ≤ 49 := by cases b <;> decide
  have hb2 : 63 < tB b ∧ tB b + 43 ≤ 110 ∨ 5 < tB b ∧ tB b + 43 ≤ 49 := by cases b <;> decide
  have c1 := hc.2.1
  unfold f_change
  have hra : pr_Ra h M.2.2 := hl.2.2.2.2.2.2.1
  have k55 := hra.1
  have n55 : (55 : Nat) ≠ 0 := by decide
  have hp := o_isOne x h M hl hv
  have hw := c_within y 0 9999 h M
  rcases pr_ix x (show X.1.1.2.1.length ≤ 1000000 by omega) with q | ⟨p, hj, rfl, q⟩
  · rw [q] at hp
    rw [show ixb x (x_n X) = false from q]
    refine pr_seqT (pc' := 2) 2 rfl ⟨⟨trivial, (by first | assumption | (simp only [r9, r0, r1, r2, r3, s1, s2, q0, q1, rc, q3, q4, q5, q6, q7, q8, pr_16_9999, pr_8_10, pr_8_m4, pr_i_0, pr_i_m1]; first | assumption | decide | exact ⟨by assumption, by assumption⟩ | exact ⟨Or.inl (by assumption), by assumption⟩ | omega) | decide | exact ⟨Or.inl (by assumption), by assumption⟩ | exact ⟨by assumption, by assumption⟩ | omega)⟩, trivial⟩ ?_
    try simp only [r9, r0, r1, r2, r3, s1, s2, q0, q1, rc, q3, q4, q5, q6, q7, q8, pr_16_9999, pr_8_10, pr_8_m4, pr_i_0, pr_i_m1]
    refine pr_cvT [_] rfl rfl rfl rfl rfl (Nat.le_of_ble_eq_true rfl) (by first | assumption | (simp only [r9, r0, r1, r2, r3, s1, s2, q0, q1, rc, q3, q4, q5, q6, q7, q8, pr_16_9999, pr_8_10, pr_8_m4, pr_i_0, pr_i_m1]; first | assumption | decide | exact ⟨by assumption, by assumption⟩ | exact ⟨Or.inl (by assumption), by assumption⟩ | omega) | decide | exact ⟨Or.inl (by assumption), by assumption⟩ | exact ⟨by assumption, by assumption⟩ | omega) (Nat.le_of_ble_eq_true rfl) (hp) ?_
    refine pr_ifT rfl (fun h5 => ?_) (fun h5 => ?_)
    · simp only [ab_cmp, pr_16_9999, pr_8_10, pr_8_m4, pr_i_0, pr_i_m1] at h5
      first
      | contradiction
      | exact absurd trivial h5
      | exact absurd h5 (by decide)
      | exact absurd (Classical.not_not.mp h5) (by decide)
      | skip
        refine pr_seqT (pc' := 20) 1 rfl ⟨trivial, trivial⟩ ?_
        try simp only [r9, r0, r1, r2, r3, s1, s2, q0, q1, rc, q3, q4, q5, q6, q7, q8, pr_16_9999, pr_8_10, pr_8_m4, pr_i_0, pr_i_m1]
        exact pr_irT rfl trivial (by exact cp_s hl hv)
    · simp only [ab_cmp, pr_16_9999, pr_8_10, pr_8_m4, pr_i_0, pr_i_m1] at h5
      first
      | contradiction
      | exact absurd trivial h5
      | exact absurd h5 (by decide)
      | exact absurd (Classical.not_not.mp h5) (by decide)
      | skip
        refine pr_seqT (pc' := 13) 3 rfl ⟨⟨⟨trivial, trivial⟩, trivial⟩, trivial⟩ ?_
        try simp only [r9, r0, r1, r2, r3, s1, s2, q0, q1, rc, q3, q4, q5, q6, q7, q8, pr_16_9999, pr_8_10, pr_8_m4, pr_i_0, pr_i_m1]
        fail "no call@13 yX10_within"
  · rw [q] at hp
    rw [show ixb (nI p) (x_n X) = true from q]
    rcases pr_rg y 9999 9999 rfl (by decide) with q' | ⟨s, hs, rfl, q'⟩
    · rw [q'] at hw ⊢
      refine pr_seqT (pc' := 2) 2 rfl ⟨⟨trivial, (by first | assumption | (simp only [r9, r0, r1, r2, r3, s1, s2, q0, q1, rc, q3, q4, q5, q6, q7, q8, pr_16_9999, pr_8_10, pr_8_m4, pr_i_0, pr_i_m1]; first | assumption | decide | exact ⟨by assumption, by assumption⟩ | exact ⟨Or.inl (by assumption), by assumption⟩ | omega) | decide | exact ⟨Or.inl (by assumption), by assumption⟩ | exact ⟨by assumption, by assumption⟩ | omega)⟩, trivial⟩ ?_
      try simp only [r9, r0, r1, r2, r3, s1, s2, q0, q1, rc, q3, q4, q5, q6, q7, q8, pr_16_9999, pr_8_10, pr_8_m4, pr_i_0, pr_i_m1]
      refine pr_cvT [_] rfl rfl rfl rfl rfl (Nat.le_of_ble_eq_true rfl) (by first | assumption | (simp only [r9, r0, r1, r2, r3, s1, s2, q0, q1, rc, q3, q4, q5, q6, q7, q8, pr_16_9999, pr_8_10, pr_8_m4, pr_i_0, pr_i_m1]; first | assumption | decide | exact ⟨by assumption, by assumption⟩ | exact ⟨Or.inl (by assumption), by assumption⟩ | omega) | decide | exact ⟨Or.inl (by assumption), by assumption⟩ | exact ⟨by assumption, by assumption⟩ | omega) (Nat.le_of_ble_eq_true rfl) (hp) ?_
      refine pr_ifT rfl (fun h5 => ?_) (fun h5 => ?_)
      · simp only [ab_cmp, pr_16_9999, pr_8_10, pr_8_m4, pr_i_0, pr_i_m1] at h5
        first
        | contradiction
        | exact absurd trivial h5
        | exact absurd h5 (by decide)
        | exact absurd (Classical.not_not.mp h5) (by decide)
        | skip
          refine pr_seqT (pc' := 20) 1 rfl ⟨trivial, trivial⟩ ?_
          try simp only [r9, r0, r1, r2, r3, s1, s2, q0, q1, rc, q3, q4, q5, q6, q7, q8, pr_16_9999, pr_8_10, pr_8_m4, pr_i_0, pr_i_m1]
          exact pr_irT rfl trivial (by exact cp_s hl hv)
      · simp only [ab_cmp, pr_16_9999, pr_8_10, pr_8_m4, pr_i_0, pr_i_m1] at h5
        first
        | contradiction
        | exact absurd trivial h5
        | exact absurd h5 (by decide)
        | exact absurd (Classical.not_not.mp h5) (by decide)
        | skip
          refine pr_seqT (pc' := 13) 3 rfl ⟨⟨⟨trivial, trivial⟩, trivial⟩, trivial⟩ ?_
          try simp only [r9, r0, r1, r2, r3, s1, s2, q0, q1, rc, q3, q4, q5, q6, q7, q8, pr_16_9999, pr_8_10, pr_8_m4, pr_i_0, pr_i_m1]
          refine pr_csT [_, _, _] rfl rfl rfl rfl rfl (Nat.le_of_ble_eq_true rfl) (Nat.le_of_ble_eq_true rfl) (hw) ?_
          refine pr_ifT rfl (fun h16 => ?_) (fun h16 => ?_)
          · simp only [ab_cmp, pr_16_9999, pr_8_10, pr_8_m4, pr_i_0, pr_i_m1] at h16
            first
            | contradiction
            | exact absurd trivial h16
            | exact absurd h16 (by decide)
            | exact absurd (Classical.not_not.mp h16) (by decide)
            | skip
              refine pr_seqT (pc' := 42) 12 rfl ⟨⟨⟨⟨⟨⟨⟨⟨⟨⟨⟨⟨trivial, (by first | assumption | (simp only [r9, r0, r1, r2, r3, s1, s2, q0, q1, rc, q3, q4, q5, q6, q7, q8, pr_16_9999, pr_8_10, pr_8_m4, pr_i_0, pr_i_m1]; first | assumption | decide | exact ⟨by assumption, by assumption⟩ | exact ⟨Or.inl (by assumption), by assumption⟩ | omega) | decide | exact ⟨Or.inl (by assumption), by assumption⟩ | exact ⟨by assumption, by assumption⟩ | omega)⟩, (by first | assumption | (simp only [r9, r0, r1, r2, r3, s1, s2, q0, q1, rc, q3, q4, q5, q6, q7, q8, pr_16_9999, pr_8_10, pr_8_m4, pr_i_0, pr_i_m1]; first | assumption | decide | exact ⟨by assumption, by assumption⟩ | exact ⟨Or.inl (by assumption), by assumption⟩ | omega) | decide | exact ⟨Or.inl (by assumption), by assumption⟩ | exact ⟨by assumption, by assumption⟩ | omega)⟩, (by first | assumption | (simp only [r9, r0, r1, r2, r3, s1, s2, q0, q1, rc, q3, q4, q5, q6, q7, q8, pr_16_9999, pr_8_10, pr_8_m4, pr_i_0, pr_i_m1]; first | assumption | decide | exact ⟨by assumption, by assumption⟩ | exact ⟨Or.inl (by assumption), by assumption⟩ | omega) | decide | exact ⟨Or.inl (by assumption), by assumption⟩ | exact ⟨by assumption, by assumption⟩ | omega)⟩, (by first | assumption | (simp only [r9, r0, r1, r2, r3, s1, s2, q0, q1, rc, q3, q4, q5, q6, q7, q8, pr_16_9999, pr_8_10, pr_8_m4, pr_i_0, pr_i_m1]; first | assumption | decide | exact ⟨by assumption, by assumption⟩ | exact ⟨Or.inl (by assumption), by assumption⟩ | omega) | decide | exact ⟨Or.inl (by assumption), by assumption⟩ | exact ⟨by assumption, by assumption⟩ | omega)⟩, trivial⟩, (by first | assumption | (simp only [r9, r0, r1, r2, r3, s1, s2, q0, q1, rc, q3, q4, q5, q6, q7, q8, pr_16_9999, pr_8_10, pr_8_m4, pr_i_0, pr_i_m1]; first | assumption | decide | exact ⟨by assumption, by assumption⟩ | exact ⟨Or.inl (by assumption), by assumption⟩ | omega) | decide | exact ⟨Or.inl (by assumption), by assumption⟩ | exact ⟨by assumption, by assumption⟩ | omega)⟩, (by first | assumption | (simp only [r9, r0, r1, r2, r3, s1, s2, q0, q1, rc, q3, q4, q5, q6, q7, q8, pr_16_9999, pr_8_10, pr_8_m4, pr_i_0, pr_i_m1]; first | assumption | decide | exact ⟨by assumption, by assumption⟩ | exact ⟨Or.inl (by assumption), by assumption⟩ | omega) | decide | exact ⟨Or.inl (by assumption), by assumption⟩ | exact ⟨by assumption, by assumption⟩ | omega)⟩, trivial⟩, trivial⟩, trivial⟩, trivial⟩, trivial⟩ ?_
              try simp only [r9, r0, r1, r2, r3, s1, s2, q0, q1, rc, q3, q4, q5, q6, q7, q8, pr_16_9999, pr_8_10, pr_8_m4, pr_i_0, pr_i_m1]
              refine pr_ifT rfl (fun h42 => ?_) (fun h42 => ?_)
              · simp only [ab_cmp, pr_16_9999, pr_8_10, pr_8_m4, pr_i_0, pr_i_m1] at h42
                first
                | contradiction
                | exact absurd trivial h42
                | exact absurd h42 (by decide)
                | exact absurd (Classical.not_not.mp h42) (by decide)
                | skip
                  refine pr_seqT (pc' := 73) 6 rfl ⟨⟨⟨⟨⟨⟨trivial, (by first | assumption | (simp only [r9, r0, r1, r2, r3, s1, s2, q0, q1, rc, q3, q4, q5, q6, q7, q8, pr_16_9999, pr_8_10, pr_8_m4, pr_i_0, pr_i_m1]; first | assumption | decide | exact ⟨by assumption, by assumption⟩ | exact ⟨Or.inl (by assumption), by assumption⟩ | omega) | decide | exact ⟨Or.inl (by assumption), by assumption⟩ | exact ⟨by assumption, by assumption⟩ | omega)⟩, (by first | assumption | (simp only [r9, r0, r1, r2, r3, s1, s2, q0, q1, rc, q3, q4, q5, q6, q7, q8, pr_16_9999, pr_8_10, pr_8_m4, pr_i_0, pr_i_m1]; first | assumption | decide | exact ⟨by assumption, by assumption⟩ | exact ⟨Or.inl (by assumption), by assumption⟩ | omega) | decide | exact ⟨Or.inl (by assumption), by assumption⟩ | exact ⟨by assumption, by assumption⟩ | omega)⟩, (by first | assumption | (simp only [r9, r0, r1, r2, r3, s1, s2, q0, q1, rc, q3, q4, q5, q6, q7, q8, pr_16_9999, pr_8_10, pr_8_m4, pr_i_0, pr_i_m1]; first | assumption | decide | exact ⟨by assumption, by assumption⟩ | exact ⟨Or.inl (by assumption), by assumption⟩ | omega) | decide | exact ⟨Or.inl (by assumption), by assumption⟩ | exact ⟨by assumption, by assumption⟩ | omega)⟩, (by first | assumption | (simp only [r9, r0, r1, r2, r3, s1, s2, q0, q1, rc, q3, q4, q5, q6, q7, q8, pr_16_9999, pr_8_10, pr_8_m4, pr_i_0, pr_i_m1]; first | assumption | decide | exact ⟨by assumption, by assumption⟩ | exact ⟨Or.inl (by assumption), by assumption⟩ | omega) | decide | exact ⟨Or.inl (by assumption), by assumption⟩ | exact ⟨by assumption, by assumption⟩ | omega)⟩, (by first | assumption | (simp only [r9, r0, r1, r2, r3, s1, s2, q0, q1, rc, q3, q4, q5, q6, q7, q8, pr_16_9999, pr_8_10, pr_8_m4, pr_i_0, pr_i_m1]; first | assumption | decide | exact ⟨by assumption, by assumption⟩ | exact ⟨Or.inl (by assumption), by assumption⟩ | omega) | decide | exact ⟨Or.inl (by assumption), by assumption⟩ | exact ⟨by assumption, by assumption⟩ | omega)⟩, (by first | assumption | (simp only [r9, r0, r1, r2, r3, s1, s2, q0, q1, rc, q3, q4, q5, q6, q7, q8, pr_16_9999, pr_8_10, pr_8_m4, pr_i_0, pr_i_m1]; first | assumption | decide | exact ⟨by assumption, by assumption⟩ | exact ⟨Or.inl (by assumption), by assumption⟩ | omega) | decide | exact ⟨Or.inl (by assumption), by assumption⟩ | exact ⟨by assumption, by assumption⟩ | omega)⟩ ?_
                  try simp only [r9, r0, r1, r2, r3, s1, s2, q0, q1, rc, q3, q4, q5, q6, q7, q8, pr_16_9999, pr_8_10, pr_8_m4, pr_i_0, pr_i_m1]
                  fail "no call@73 yX5_find"
              · simp only [ab_cmp, pr_16_9999, pr_8_10, pr_8_m4, pr_i_0, pr_i_m1] at h42
                first
                | contradiction
                | exact absurd trivial h42
                | exact absurd h42 (by decide)
                | exact absurd (Classical.not_not.mp h42) (by decide)
                | skip
                  refine pr_seqT (pc' := 52) 3 rfl ⟨⟨⟨trivial, (by first | assumption | (simp only [r9, r0, r1, r2, r3, s1, s2, q0, q1, rc, q3, q4, q5, q6, q7, q8, pr_16_9999, pr_8_10, pr_8_m4, pr_i_0, pr_i_m1]; first | assumption | decide | exact ⟨by assumption, by assumption⟩ | exact ⟨Or.inl (by assumption), by assumption⟩ | omega) | decide | exact ⟨Or.inl (by assumption), by assumption⟩ | exact ⟨by assumption, by assumption⟩ | omega)⟩, (by first | assumption | (simp only [r9, r0, r1, r2, r3, s1, s2, q0, q1, rc, q3, q4, q5, q6, q7, q8, pr_16_9999, pr_8_10, pr_8_m4, pr_i_0, pr_i_m1]; first | assumption | decide | exact ⟨by assumption, by assumption⟩ | exact ⟨Or.inl (by assumption), by assumption⟩ | omega) | decide | exact ⟨Or.inl (by assumption), by assumption⟩ | exact ⟨by assumption, by assumption⟩ | omega)⟩, trivial⟩ ?_
                  try simp only [r9, r0, r1, r2, r3, s1, s2, q0, q1, rc, q3, q4, q5, q6, q7, q8, pr_16_9999, pr_8_10, pr_8_m4, pr_i_0, pr_i_m1]
                  fail "no call@52 yX2_hasPlace"
          · simp only [ab_cmp, pr_16_9999, pr_8_10, pr_8_m4, pr_i_0, pr_i_m1] at h16
            first
            | contradiction
            | exact absurd trivial h16
            | exact absurd h16 (by decide)
            | exact absurd (Classical.not_not.mp h16) (by decide)
            | skip
              refine pr_seqT (pc' := 20) 1 rfl ⟨trivial, trivial⟩ ?_
              try simp only [r9, r0, r1, r2, r3, s1, s2, q0, q1, rc, q3, q4, q5, q6, q7, q8, pr_16_9999, pr_8_10, pr_8_m4, pr_i_0, pr_i_m1]
              exact pr_irT rfl trivial (by exact cp_s hl hv)
    · rw [q'] at hw ⊢
      have e3 : (nI p).toNatClampNeg = p := nI_clamp (by omega)
      have e4 : (nI s).toNatClampNeg = s := nI_clamp (by omega)
      rw [if_pos (show (true && true) = true from rfl), e3, e4]
      obtain ⟨y1, y2⟩ := hon p (by omega)
      obtain ⟨o1, o2, o3, o4⟩ := id y2
      have n1 := o4.2.1
      have n0 := o4.1
      have hon' := d8 p _ (d_pn_at hj)
      obtain ⟨u1, u2, u3, u4, u5, u6, u7⟩ := id hon'
      have vi : (24 ≤ ab_k h (tB b + 1 + 2) ∧ ab_k h (tB b + 1 + 2) ≤ 27) ∧ vp_in (nI p) (ab_n h (tB b + 1 + 2)) := ⟨by rw [m3]; decide, by rw [m4]; exact vp_in_nI (by omega) (by decide)⟩
      have hpl := c_hasPlace (tB b + 1 + 3 + 3 * p + 1) (w - 10) h M n1 n0
      rw [u7.1] at hpl
      have hpl : pr_C pX2_hasPlace [.ref (tB b + 1 + 3 + 3 * p + 1), .int (w - 10)] h M (some (.int (pr_b (ixb (w - 10) (x_nm X p).length)))) h M := hpl
      have hfi := c_rfind h M hra hg hd y2 hon' (by omega) (by omega)
      have h20 : (x_nm X p).length ≤ 20 := u7.2.1
      -- what follows the search
      have key : ∀ (I : Nat → Nat → Int32) (J : Nat → Nat → Int64), (∃ low high, ra_v I J low high high (dE (x_c X p) (x_sh X p) (x_nm X p).length)) → (∀ a, (a < 55 ∨ 57 < a) → I a = M.1 a) → (w = 0 ∨ ¬ w = 0 ∧ ixb (w - 10) (x_nm X p).length = true) → pr_T pX10_change 76 [some (.ref 1), some (.int (nI p)), some (.int (nI s)), some (.int w), some (.ref (tB b + 1 + 3 + 3 * p)), some (.int (w - 10))] [] h (I, J, M.2.2) (cp h M (if x_dl X p s < 100000 then (if w = 0 then nI (X.1.1.2.2.2 * x_dl X p s) else nI ((x_nm X p).getD (w - 10).toNatClampNeg 0 + x_gr X p s (w - 10).toNatClampNeg)) else -4, X)) := by
        intro I J hr hf hww
        obtain ⟨low, high, hr⟩ := hr
        have hsame : cl_same M.1 I := ra_same hf
        have hre := c_reach (nI s) h (I, J, M.2.2) hra hr (fun t _ h1 _ => h1)
        rw [rch_n (by omega)] at hre
        by_cases c : x_dl X p s < 100000
        · have hE := rch_some h20 c
          have g3 := x_gr_le h20 c
          rw [hE, show (some (x_dl X p s * 2 ^ 40 + lo (x_gr X p s) (x_nm X p).length 0)).isSome = true from rfl] at hre
          rw [if_pos c]
          rcases hww with rfl | ⟨w0, hw1⟩
          · rw [if_pos rfl]
            have hlf := c_leastFor h (I, J, M.2.2) hra hr hE
            rw [dec_T h20 g3] at hlf
            have ef : I (tB b + 1) 4 = nI X.1.1.2.2.2 := by rw [hf _ (by omega)]; exact d5
            rw [← nI_mul]
            refine pr_seqT (pc' := 81) 3 rfl ⟨⟨⟨trivial, (by first | assumption | (simp only [r9, r0, r1, r2, r3, s1, s2, q0, q1, rc, q3, q4, q5, q6, q7, q8, ef, pr_16_9999, pr_8_10, pr_8_m4, pr_i_0, pr_i_m1]; first | assumption | decide | exact ⟨by assumption, by assumption⟩ | exact ⟨Or.inl (by assumption), by assumption⟩ | omega) | decide | exact ⟨Or.inl (by assumption), by assumption⟩ | exact ⟨by assumption, by assumption⟩ | omega)⟩, (by first | assumption | (simp only [r9, r0, r1, r2, r3, s1, s2, q0, q1, rc, q3, q4, q5, q6, q7, q8, ef, pr_16_9999, pr_8_10, pr_8_m4, pr_i_0, pr_i_m1]; first | assumption | decide | exact ⟨by assumption, by assumption⟩ | exact ⟨Or.inl (by assumption), by assumption⟩ | omega) | decide | exact ⟨Or.inl (by assumption), by assumption⟩ | exact ⟨by assumption, by assumption⟩ | omega)⟩, trivial⟩ ?_
            try simp only [r9, r0, r1, r2, r3, s1, s2, q0, q1, rc, q3, q4, q5, q6, q7, q8, ef, pr_16_9999, pr_8_10, pr_8_m4, pr_i_0, pr_i_m1]
            refine pr_cvT [_] rfl rfl rfl rfl rfl (Nat.le_of_ble_eq_true rfl) (by first | assumption | (simp only [r9, r0, r1, r2, r3, s1, s2, q0, q1, rc, q3, q4, q5, q6, q7, q8, ef, pr_16_9999, pr_8_10, pr_8_m4, pr_i_0, pr_i_m1]; first | assumption | decide | exact ⟨by assumption, by assumption⟩ | exact ⟨Or.inl (by assumption), by assumption⟩ | omega) | decide | exact ⟨Or.inl (by assumption), by assumption⟩ | exact ⟨by assumption, by assumption⟩ | omega) (Nat.le_of_ble_eq_true rfl) (hre) ?_
            refine pr_ifT rfl (fun h84 => ?_) (fun h84 => ?_)
            · simp only [ab_cmp, pr_16_9999, pr_8_10, pr_8_m4, pr_i_0, pr_i_m1] at h84
              first
              | contradiction
              | exact absurd trivial h84
              | exact absurd h84 (by decide)
              | exact absurd (Classical.not_not.mp h84) (by decide)
              | exact absurd rfl h84
              | skip
                refine pr_seqT (pc' := 91) 1 rfl ⟨trivial, trivial⟩ ?_
                try simp only [r9, r0, r1, r2, r3, s1, s2, q0, q1, rc, q3, q4, q5, q6, q7, q8, ef, pr_16_9999, pr_8_10, pr_8_m4, pr_i_0, pr_i_m1]
                refine pr_ifT rfl (fun h91 => ?_) (fun h91 => ?_)
                · simp only [ab_cmp, pr_16_9999, pr_8_10, pr_8_m4, pr_i_0, pr_i_m1] at h91
                  first
                  | contradiction
                  | exact absurd trivial h91
                  | exact absurd h91 (by decide)
                  | exact absurd (Classical.not_not.mp h91) (by decide)
                  | exact absurd rfl h91
                  | skip
                    fail
                · simp only [ab_cmp, pr_16_9999, pr_8_10, pr_8_m4, pr_i_0, pr_i_m1] at h91
                  first
                  | contradiction
                  | exact absurd trivial h91
                  | exact absurd h91 (by decide)
                  | exact absurd (Classical.not_not.mp h91) (by decide)
                  | exact absurd rfl h91
                  | skip
                    refine pr_seqT (pc' := 109) 7 rfl ⟨⟨⟨⟨⟨⟨⟨trivial, (by first | assumption | (simp only [r9, r0, r1, r2, r3, s1, s2, q0, q1, rc, q3, q4, q5, q6, q7, q8, ef, pr_16_9999, pr_8_10, pr_8_m4, pr_i_0, pr_i_m1]; first | assumption | decide | exact ⟨by assumption, by assumption⟩ | exact ⟨Or.inl (by assumption), by assumption⟩ | omega) | decide | exact ⟨Or.inl (by assumption), by assumption⟩ | exact ⟨by assumption, by assumption⟩ | omega)⟩, (by first | assumption | (simp only [r9, r0, r1, r2, r3, s1, s2, q0, q1, rc, q3, q4, q5, q6, q7, q8, ef, pr_16_9999, pr_8_10, pr_8_m4, pr_i_0, pr_i_m1]; first | assumption | decide | exact ⟨by assumption, by assumption⟩ | exact ⟨Or.inl (by assumption), by assumption⟩ | omega) | decide | exact ⟨Or.inl (by assumption), by assumption⟩ | exact ⟨by assumption, by assumption⟩ | omega)⟩, (by first | assumption | (simp only [r9, r0, r1, r2, r3, s1, s2, q0, q1, rc, q3, q4, q5, q6, q7, q8, ef, pr_16_9999, pr_8_10, pr_8_m4, pr_i_0, pr_i_m1]; first | assumption | decide | exact ⟨by assumption, by assumption⟩ | exact ⟨Or.inl (by assumption), by assumption⟩ | omega) | decide | exact ⟨Or.inl (by assumption), by assumption⟩ | exact ⟨by assumption, by assumption⟩ | omega)⟩, (by first | assumption | (simp only [r9, r0, r1, r2, r3, s1, s2, q0, q1, rc, q3, q4, q5, q6, q7, q8, ef, pr_16_9999, pr_8_10, pr_8_m4, pr_i_0, pr_i_m1]; first | assumption | decide | exact ⟨by assumption, by assumption⟩ | exact ⟨Or.inl (by assumption), by assumption⟩ | omega) | decide | exact ⟨Or.inl (by assumption), by assumption⟩ | exact ⟨by assumption, by assumption⟩ | omega)⟩, (by first | assumption | (simp only [r9, r0, r1, r2, r3, s1, s2, q0, q1, rc, q3, q4, q5, q6, q7, q8, ef, pr_16_9999, pr_8_10, pr_8_m4, pr_i_0, pr_i_m1]; first | assumption | decide | exact ⟨by assumption, by assumption⟩ | exact ⟨Or.inl (by assumption), by assumption⟩ | omega) | decide | exact ⟨Or.inl (by assumption), by assumption⟩ | exact ⟨by assumption, by assumption⟩ | omega)⟩, (by first | assumption | (simp only [r9, r0, r1, r2, r3, s1, s2, q0, q1, rc, q3, q4, q5, q6, q7, q8, ef, pr_16_9999, pr_8_10, pr_8_m4, pr_i_0, pr_i_m1]; first | assumption | decide | exact ⟨by assumption, by assumption⟩ | exact ⟨Or.inl (by assumption), by assumption⟩ | omega) | decide | exact ⟨Or.inl (by assumption), by assumption⟩ | exact ⟨by assumption, by assumption⟩ | omega)⟩, trivial⟩ ?_
                    try simp only [r9, r0, r1, r2, r3, s1, s2, q0, q1, rc, q3, q4, q5, q6, q7, q8, ef, pr_16_9999, pr_8_10, pr_8_m4, pr_i_0, pr_i_m1]
                    refine pr_cvT [_] rfl rfl rfl rfl rfl (Nat.le_of_ble_eq_true rfl) (by first | assumption | (simp only [r9, r0, r1, r2, r3, s1, s2, q0, q1, rc, q3, q4, q5, q6, q7, q8, ef, pr_16_9999, pr_8_10, pr_8_m4, pr_i_0, pr_i_m1]; first | assumption | decide | exact ⟨by assumption, by assumption⟩ | exact ⟨Or.inl (by assumption), by assumption⟩ | omega) | decide | exact ⟨Or.inl (by assumption), by assumption⟩ | exact ⟨by assumption, by assumption⟩ | omega) (Nat.le_of_ble_eq_true rfl) (hlf) ?_
                    refine pr_seqT (pc' := 113) 1 rfl ⟨trivial, trivial⟩ ?_
                    try simp only [r9, r0, r1, r2, r3, s1, s2, q0, q1, rc, q3, q4, q5, q6, q7, q8, ef, pr_16_9999, pr_8_10, pr_8_m4, pr_i_0, pr_i_m1]
                    exact pr_irT rfl trivial (by exact cp_q hl hv rfl hsame)
            · simp only [ab_cmp, pr_16_9999, pr_8_10, pr_8_m4, pr_i_0, pr_i_m1] at h84
              first
              | contradiction
              | exact absurd trivial h84
              | exact absurd h84 (by decide)
              | exact absurd (Classical.not_not.mp h84) (by decide)
              | exact absurd rfl h84
              | skip
                fail
          · rw [if_neg w0]
            rcases pr_ix (w - 10) (show (x_nm X p).length ≤ 1000000 by omega) with z | ⟨j, hj2, z1, z⟩
            · rw [show ixb (w - 10) (x_nm X p).length = false from z] at hw1; cases hw1
            · rw [z1, nI_clamp (show j < 2 ^ 31 by omega), ← nI_add]
              have u7' := nm_v_congr (hf (tB b + 1 + 3 + 3 * p + 1) (by omega)) (hf (tB b + 1 + 3 + 3 * p + 1 + 1) (by omega)) u7
              have hla := c_letterAt (nI j) h (I, J, M.2.2) o4 u7'
              rw [nm_q_in hj2 h20] at hla
              have hap := c_atPlace (j := j) h (I, J, M.2.2) hra hr hE (by omega)
              rw [dec_g h20 hj2 g3] at hap
              refine pr_seqT (pc' := 81) 3 rfl ⟨⟨⟨trivial, (by first | assumption | (simp only [r9, r0, r1, r2, r3, s1, s2, q0, q1, rc, q3, q4, q5, q6, q7, q8, o3, pr_16_9999, pr_8_10, pr_8_m4, pr_i_0, pr_i_m1]; first | assumption | decide | exact ⟨by assumption, by assumption⟩ | exact ⟨Or.inl (by assumption), by assumption⟩ | omega) | decide | exact ⟨Or.inl (by assumption), by assumption⟩ | exact ⟨by assumption, by assumption⟩ | omega)⟩, (by first | assumption | (simp only [r9, r0, r1, r2, r3, s1, s2, q0, q1, rc, q3, q4, q5, q6, q7, q8, o3, pr_16_9999, pr_8_10, pr_8_m4, pr_i_0, pr_i_m1]; first | assumption | decide | exact ⟨by assumption, by assumption⟩ | exact ⟨Or.inl (by assumption), by assumption⟩ | omega) | decide | exact ⟨Or.inl (by assumption), by assumption⟩ | exact ⟨by assumption, by assumption⟩ | omega)⟩, trivial⟩ ?_
              try simp only [r9, r0, r1, r2, r3, s1, s2, q0, q1, rc, q3, q4, q5, q6, q7, q8, o3, pr_16_9999, pr_8_10, pr_8_m4, pr_i_0, pr_i_m1]
              refine pr_cvT [_] rfl rfl rfl rfl rfl (Nat.le_of_ble_eq_true rfl) (by first | assumption | (simp only [r9, r0, r1, r2, r3, s1, s2, q0, q1, rc, q3, q4, q5, q6, q7, q8, o3, pr_16_9999, pr_8_10, pr_8_m4, pr_i_0, pr_i_m1]; first | assumption | decide | exact ⟨by assumption, by assumption⟩ | exact ⟨Or.inl (by assumption), by assumption⟩ | omega) | decide | exact ⟨Or.inl (by assumption), by assumption⟩ | exact ⟨by assumption, by assumption⟩ | omega) (Nat.le_of_ble_eq_true rfl) (hre) ?_
              refine pr_ifT rfl (fun h84 => ?_) (fun h84 => ?_)
              · simp only [ab_cmp, pr_16_9999, pr_8_10, pr_8_m4, pr_i_0, pr_i_m1] at h84
                first
                | contradiction
                | exact absurd trivial h84
                | exact absurd h84 (by decide)
                | exact absurd (Classical.not_not.mp h84) (by decide)
                | skip
                  refine pr_seqT (pc' := 91) 1 rfl ⟨trivial, trivial⟩ ?_
                  try simp only [r9, r0, r1, r2, r3, s1, s2, q0, q1, rc, q3, q4, q5, q6, q7, q8, o3, pr_16_9999, pr_8_10, pr_8_m4, pr_i_0, pr_i_m1]
                  refine pr_ifT rfl (fun h91 => ?_) (fun h91 => ?_)
                  · simp only [ab_cmp, pr_16_9999, pr_8_10, pr_8_m4, pr_i_0, pr_i_m1] at h91
                    first
                    | contradiction
                    | exact absurd trivial h91
                    | exact absurd h91 (by decide)
                    | exact absurd (Classical.not_not.mp h91) (by decide)
                    | skip
                      refine pr_seqT (pc' := 121) 3 rfl ⟨⟨⟨trivial, (by first | assumption | (simp only [r9, r0, r1, r2, r3, s1, s2, q0, q1, rc, q3, q4, q5, q6, q7, q8, o3, pr_16_9999, pr_8_10, pr_8_m4, pr_i_0, pr_i_m1]; first | assumption | decide | exact ⟨by assumption, by assumption⟩ | exact ⟨Or.inl (by assumption), by assumption⟩ | omega) | decide | exact ⟨Or.inl (by assumption), by assumption⟩ | exact ⟨by assumption, by assumption⟩ | omega)⟩, (by first | assumption | (simp only [r9, r0, r1, r2, r3, s1, s2, q0, q1, rc, q3, q4, q5, q6, q7, q8, o3, pr_16_9999, pr_8_10, pr_8_m4, pr_i_0, pr_i_m1]; first | assumption | decide | exact ⟨by assumption, by assumption⟩ | exact ⟨Or.inl (by assumption), by assumption⟩ | omega) | decide | exact ⟨Or.inl (by assumption), by assumption⟩ | exact ⟨by assumption, by assumption⟩ | omega)⟩, trivial⟩ ?_
                      try simp only [r9, r0, r1, r2, r3, s1, s2, q0, q1, rc, q3, q4, q5, q6, q7, q8, o3, pr_16_9999, pr_8_10, pr_8_m4, pr_i_0, pr_i_m1]
                      refine pr_cvT [_] rfl rfl rfl rfl rfl (Nat.le_of_ble_eq_true rfl) (by first | assumption | (simp only [r9, r0, r1, r2, r3, s1, s2, q0, q1, rc, q3, q4, q5, q6, q7, q8, o3, pr_16_9999, pr_8_10, pr_8_m4, pr_i_0, pr_i_m1]; first | assumption | decide | exact ⟨by assumption, by assumption⟩ | exact ⟨Or.inl (by assumption), by assumption⟩ | omega) | decide | exact ⟨Or.inl (by assumption), by assumption⟩ | exact ⟨by assumption, by assumption⟩ | omega) (Nat.le_of_ble_eq_true rfl) (hla) ?_
                      refine pr_seqT (pc' := 131) 4 rfl ⟨⟨⟨⟨trivial, (by first | assumption | (simp only [r9, r0, r1, r2, r3, s1, s2, q0, q1, rc, q3, q4, q5, q6, q7, q8, o3, pr_16_9999, pr_8_10, pr_8_m4, pr_i_0, pr_i_m1]; first | assumption | decide | exact ⟨by assumption, by assumption⟩ | exact ⟨Or.inl (by assumption), by assumption⟩ | omega) | decide | exact ⟨Or.inl (by assumption), by assumption⟩ | exact ⟨by assumption, by assumption⟩ | omega)⟩, (by first | assumption | (simp only [r9, r0, r1, r2, r3, s1, s2, q0, q1, rc, q3, q4, q5, q6, q7, q8, o3, pr_16_9999, pr_8_10, pr_8_m4, pr_i_0, pr_i_m1]; first | assumption | decide | exact ⟨by assumption, by assumption⟩ | exact ⟨Or.inl (by assumption), by assumption⟩ | omega) | decide | exact ⟨Or.inl (by assumption), by assumption⟩ | exact ⟨by assumption, by assumption⟩ | omega)⟩, trivial⟩, trivial⟩ ?_
                      try simp only [r9, r0, r1, r2, r3, s1, s2, q0, q1, rc, q3, q4, q5, q6, q7, q8, o3, pr_16_9999, pr_8_10, pr_8_m4, pr_i_0, pr_i_m1]
                      refine pr_cvT [_, _] rfl rfl rfl rfl rfl (Nat.le_of_ble_eq_true rfl) (by first | assumption | (simp only [r9, r0, r1, r2, r3, s1, s2, q0, q1, rc, q3, q4, q5, q6, q7, q8, o3, pr_16_9999, pr_8_10, pr_8_m4, pr_i_0, pr_i_m1]; first | assumption | decide | exact ⟨by assumption, by assumption⟩ | exact ⟨Or.inl (by assumption), by assumption⟩ | omega) | decide | exact ⟨Or.inl (by assumption), by assumption⟩ | exact ⟨by assumption, by assumption⟩ | omega) (Nat.le_of_ble_eq_true rfl) (hap) ?_
                      refine pr_seqT (pc' := 135) 1 rfl ⟨trivial, trivial⟩ ?_
                      try simp only [r9, r0, r1, r2, r3, s1, s2, q0, q1, rc, q3, q4, q5, q6, q7, q8, o3, pr_16_9999, pr_8_10, pr_8_m4, pr_i_0, pr_i_m1]
                      exact pr_irT rfl trivial (by exact cp_q hl hv rfl hsame)
                  · simp only [ab_cmp, pr_16_9999, pr_8_10, pr_8_m4, pr_i_0, pr_i_m1] at h91
                    first
                    | contradiction
                    | exact absurd trivial h91
                    | exact absurd h91 (by decide)
                    | exact absurd (Classical.not_not.mp h91) (by decide)
                    | skip
                      fail
              · simp only [ab_cmp, pr_16_9999, pr_8_10, pr_8_m4, pr_i_0, pr_i_m1] at h84
                first
                | contradiction
                | exact absurd trivial h84
                | exact absurd h84 (by decide)
                | exact absurd (Classical.not_not.mp h84) (by decide)
                | skip
                  fail
        · have hE := rch_none h20 c
          rw [hE, show (none : Option Nat).isSome = false from rfl] at hre
          rw [if_neg c]
          refine pr_seqT (pc' := 81) 3 rfl ⟨⟨⟨trivial, (by first | assumption | (simp only [r9, r0, r1, r2, r3, s1, s2, q0, q1, rc, q3, q4, q5, q6, q7, q8, pr_16_9999, pr_8_10, pr_8_m4, pr_i_0, pr_i_m1]; first | assumption | decide | exact ⟨by assumption, by assumption⟩ | exact ⟨Or.inl (by assumption), by assumption⟩ | omega) | decide | exact ⟨Or.inl (by assumption), by assumption⟩ | exact ⟨by assumption, by assumption⟩ | omega)⟩, (by first | assumption | (simp only [r9, r0, r1, r2, r3, s1, s2, q0, q1, rc, q3, q4, q5, q6, q7, q8, pr_16_9999, pr_8_10, pr_8_m4, pr_i_0, pr_i_m1]; first | assumption | decide | exact ⟨by assumption, by assumption⟩ | exact ⟨Or.inl (by assumption), by assumption⟩ | omega) | decide | exact ⟨Or.inl (by assumption), by assumption⟩ | exact ⟨by assumption, by assumption⟩ | omega)⟩, trivial⟩ ?_
          try simp only [r9, r0, r1, r2, r3, s1, s2, q0, q1, rc, q3, q4, q5, q6, q7, q8, pr_16_9999, pr_8_10, pr_8_m4, pr_i_0, pr_i_m1]
          refine pr_cvT [_] rfl rfl rfl rfl rfl (Nat.le_of_ble_eq_true rfl) (by first | assumption | (simp only [r9, r0, r1, r2, r3, s1, s2, q0, q1, rc, q3, q4, q5, q6, q7, q8, pr_16_9999, pr_8_10, pr_8_m4, pr_i_0, pr_i_m1]; first | assumption | decide | exact ⟨by assumption, by assumption⟩ | exact ⟨Or.inl (by assumption), by assumption⟩ | omega) | decide | exact ⟨Or.inl (by assumption), by assumption⟩ | exact ⟨by assumption, by assumption⟩ | omega) (Nat.le_of_ble_eq_true rfl) (hre) ?_
          refine pr_ifT rfl (fun h84 => ?_) (fun h84 => ?_)
          · simp only [ab_cmp, pr_16_9999, pr_8_10, pr_8_m4, pr_i_0, pr_i_m1] at h84
            first
            | contradiction
            | exact absurd trivial h84
            | exact absurd h84 (by decide)
            | exact absurd (Classical.not_not.mp h84) (by decide)
            | skip
              fail
          · simp only [ab_cmp, pr_16_9999, pr_8_10, pr_8_m4, pr_i_0, pr_i_m1] at h84
            first
            | contradiction
            | exact absurd trivial h84
            | exact absurd h84 (by decide)
            | exact absurd (Classical.not_not.mp h84) (by decide)
            | skip
              refine pr_seqT (pc' := 89) 1 rfl ⟨trivial, trivial⟩ ?_
              try simp only [r9, r0, r1, r2, r3, s1, s2, q0, q1, rc, q3, q4, q5, q6, q7, q8, pr_16_9999, pr_8_10, pr_8_m4, pr_i_0, pr_i_m1]
              exact pr_irT rfl trivial (by exact cp_q hl hv rfl hsame)
      by_cases w0 : w = 0
      · rw [if_neg (fun z => z.1 w0)]
        have key2 := fun I J h1 h2 => key I J h1 h2 (Or.inl w0)
        refine pr_seqT (pc' := 2) 2 rfl ⟨⟨trivial, (by first | assumption | (simp only [r9, r0, r1, r2, r3, s1, s2, q0, q1, rc, q3, q4, q5, q6, q7, q8, e3, y1, o3, pr_16_9999, pr_8_10, pr_8_m4, pr_i_0, pr_i_m1]; first | assumption | decide | exact ⟨by assumption, by assumption⟩ | exact ⟨Or.inl (by assumption), by assumption⟩ | omega) | decide | exact ⟨Or.inl (by assumption), by assumption⟩ | exact ⟨by assumption, by assumption⟩ | omega)⟩, trivial⟩ ?_
        try simp only [r9, r0, r1, r2, r3, s1, s2, q0, q1, rc, q3, q4, q5, q6, q7, q8, e3, y1, o3, pr_16_9999, pr_8_10, pr_8_m4, pr_i_0, pr_i_m1]
        refine pr_cvT [_] rfl rfl rfl rfl rfl (Nat.le_of_ble_eq_true rfl) (by first | assumption | (simp only [r9, r0, r1, r2, r3, s1, s2, q0, q1, rc, q3, q4, q5, q6, q7, q8, e3, y1, o3, pr_16_9999, pr_8_10, pr_8_m4, pr_i_0, pr_i_m1]; first | assumption | decide | exact ⟨by assumption, by assumption⟩ | exact ⟨Or.inl (by assumption), by assumption⟩ | omega) | decide | exact ⟨Or.inl (by assumption), by assumption⟩ | exact ⟨by assumption, by assumption⟩ | omega) (Nat.le_of_ble_eq_true rfl) (hp) ?_
        refine pr_ifT rfl (fun h5 => ?_) (fun h5 => ?_)
        · simp only [ab_cmp, pr_16_9999, pr_8_10, pr_8_m4, pr_i_0, pr_i_m1] at h5
          first
          | contradiction
          | exact absurd trivial h5
          | exact absurd h5 (by decide)
          | exact absurd (Classical.not_not.mp h5) (by decide)
          | skip
            refine pr_seqT (pc' := 20) 1 rfl ⟨trivial, trivial⟩ ?_
            try simp only [r9, r0, r1, r2, r3, s1, s2, q0, q1, rc, q3, q4, q5, q6, q7, q8, e3, y1, o3, pr_16_9999, pr_8_10, pr_8_m4, pr_i_0, pr_i_m1]
            exact pr_irT rfl trivial (by first | rfl | (simp only [r9, r0, r1, r2, r3, s1, s2, q0, q1, rc, q3, q4, q5, q6, q7, q8, e3, y1, o3, pr_16_9999, pr_8_10, pr_8_m4, pr_i_0, pr_i_m1]; done) | (simp [pr_b, pr_16_9999, pr_8_10, pr_8_m4, pr_i_0, pr_i_m1, *]; done) | (simp_all [pr_b, pr_16_9999, pr_8_10, pr_8_m4, pr_i_0, pr_i_m1]; done))
        · simp only [ab_cmp, pr_16_9999, pr_8_10, pr_8_m4, pr_i_0, pr_i_m1] at h5
          first
          | contradiction
          | exact absurd trivial h5
          | exact absurd h5 (by decide)
          | exact absurd (Classical.not_not.mp h5) (by decide)
          | skip
            refine pr_seqT (pc' := 13) 3 rfl ⟨⟨⟨trivial, trivial⟩, trivial⟩, trivial⟩ ?_
            try simp only [r9, r0, r1, r2, r3, s1, s2, q0, q1, rc, q3, q4, q5, q6, q7, q8, e3, y1, o3, pr_16_9999, pr_8_10, pr_8_m4, pr_i_0, pr_i_m1]
            refine pr_csT [_, _, _] rfl rfl rfl rfl rfl (Nat.le_of_ble_eq_true rfl) (Nat.le_of_ble_eq_true rfl) (hw) ?_
            refine pr_ifT rfl (fun h16 => ?_) (fun h16 => ?_)
            · simp only [ab_cmp, pr_16_9999, pr_8_10, pr_8_m4, pr_i_0, pr_i_m1] at h16
              first
              | contradiction
              | exact absurd trivial h16
              | exact absurd h16 (by decide)
              | exact absurd (Classical.not_not.mp h16) (by decide)
              | skip
                refine pr_seqT (pc' := 42) 12 rfl ⟨⟨⟨⟨⟨⟨⟨⟨⟨⟨⟨⟨trivial, (by first | assumption | (simp only [r9, r0, r1, r2, r3, s1, s2, q0, q1, rc, q3, q4, q5, q6, q7, q8, e3, y1, o3, pr_16_9999, pr_8_10, pr_8_m4, pr_i_0, pr_i_m1]; first | assumption | decide | exact ⟨by assumption, by assumption⟩ | exact ⟨Or.inl (by assumption), by assumption⟩ | omega) | decide | exact ⟨Or.inl (by assumption), by assumption⟩ | exact ⟨by assumption, by assumption⟩ | omega)⟩, (by first | assumption | (simp only [r9, r0, r1, r2, r3, s1, s2, q0, q1, rc, q3, q4, q5, q6, q7, q8, e3, y1, o3, pr_16_9999, pr_8_10, pr_8_m4, pr_i_0, pr_i_m1]; first | assumption | decide | exact ⟨by assumption, by assumption⟩ | exact ⟨Or.inl (by assumption), by assumption⟩ | omega) | decide | exact ⟨Or.inl (by assumption), by assumption⟩ | exact ⟨by assumption, by assumption⟩ | omega)⟩, (by first | assumption | (simp only [r9, r0, r1, r2, r3, s1, s2, q0, q1, rc, q3, q4, q5, q6, q7, q8, e3, y1, o3, pr_16_9999, pr_8_10, pr_8_m4, pr_i_0, pr_i_m1]; first | assumption | decide | exact ⟨by assumption, by assumption⟩ | exact ⟨Or.inl (by assumption), by assumption⟩ | omega) | decide | exact ⟨Or.inl (by assumption), by assumption⟩ | exact ⟨by assumption, by assumption⟩ | omega)⟩, (by first | assumption | (simp only [r9, r0, r1, r2, r3, s1, s2, q0, q1, rc, q3, q4, q5, q6, q7, q8, e3, y1, o3, pr_16_9999, pr_8_10, pr_8_m4, pr_i_0, pr_i_m1]; first | assumption | decide | exact ⟨by assumption, by assumption⟩ | exact ⟨Or.inl (by assumption), by assumption⟩ | omega) | decide | exact ⟨Or.inl (by assumption), by assumption⟩ | exact ⟨by assumption, by assumption⟩ | omega)⟩, trivial⟩, (by first | assumption | (simp only [r9, r0, r1, r2, r3, s1, s2, q0, q1, rc, q3, q4, q5, q6, q7, q8, e3, y1, o3, pr_16_9999, pr_8_10, pr_8_m4, pr_i_0, pr_i_m1]; first | assumption | decide | exact ⟨by assumption, by assumption⟩ | exact ⟨Or.inl (by assumption), by assumption⟩ | omega) | decide | exact ⟨Or.inl (by assumption), by assumption⟩ | exact ⟨by assumption, by assumption⟩ | omega)⟩, (by first | assumption | (simp only [r9, r0, r1, r2, r3, s1, s2, q0, q1, rc, q3, q4, q5, q6, q7, q8, e3, y1, o3, pr_16_9999, pr_8_10, pr_8_m4, pr_i_0, pr_i_m1]; first | assumption | decide | exact ⟨by assumption, by assumption⟩ | exact ⟨Or.inl (by assumption), by assumption⟩ | omega) | decide | exact ⟨Or.inl (by assumption), by assumption⟩ | exact ⟨by assumption, by assumption⟩ | omega)⟩, trivial⟩, trivial⟩, trivial⟩, trivial⟩, trivial⟩ ?_
                try simp only [r9, r0, r1, r2, r3, s1, s2, q0, q1, rc, q3, q4, q5, q6, q7, q8, e3, y1, o3, pr_16_9999, pr_8_10, pr_8_m4, pr_i_0, pr_i_m1]
                refine pr_ifT rfl (fun h42 => ?_) (fun h42 => ?_)
                · simp only [ab_cmp, pr_16_9999, pr_8_10, pr_8_m4, pr_i_0, pr_i_m1] at h42
                  first
                  | contradiction
                  | exact absurd trivial h42
                  | exact absurd h42 (by decide)
                  | exact absurd (Classical.not_not.mp h42) (by decide)
                  | skip
                    refine pr_seqT (pc' := 73) 6 rfl ⟨⟨⟨⟨⟨⟨trivial, (by first | assumption | (simp only [r9, r0, r1, r2, r3, s1, s2, q0, q1, rc, q3, q4, q5, q6, q7, q8, e3, y1, o3, pr_16_9999, pr_8_10, pr_8_m4, pr_i_0, pr_i_m1]; first | assumption | decide | exact ⟨by assumption, by assumption⟩ | exact ⟨Or.inl (by assumption), by assumption⟩ | omega) | decide | exact ⟨Or.inl (by assumption), by assumption⟩ | exact ⟨by assumption, by assumption⟩ | omega)⟩, (by first | assumption | (simp only [r9, r0, r1, r2, r3, s1, s2, q0, q1, rc, q3, q4, q5, q6, q7, q8, e3, y1, o3, pr_16_9999, pr_8_10, pr_8_m4, pr_i_0, pr_i_m1]; first | assumption | decide | exact ⟨by assumption, by assumption⟩ | exact ⟨Or.inl (by assumption), by assumption⟩ | omega) | decide | exact ⟨Or.inl (by assumption), by assumption⟩ | exact ⟨by assumption, by assumption⟩ | omega)⟩, (by first | assumption | (simp only [r9, r0, r1, r2, r3, s1, s2, q0, q1, rc, q3, q4, q5, q6, q7, q8, e3, y1, o3, pr_16_9999, pr_8_10, pr_8_m4, pr_i_0, pr_i_m1]; first | assumption | decide | exact ⟨by assumption, by assumption⟩ | exact ⟨Or.inl (by assumption), by assumption⟩ | omega) | decide | exact ⟨Or.inl (by assumption), by assumption⟩ | exact ⟨by assumption, by assumption⟩ | omega)⟩, (by first | assumption | (simp only [r9, r0, r1, r2, r3, s1, s2, q0, q1, rc, q3, q4, q5, q6, q7, q8, e3, y1, o3, pr_16_9999, pr_8_10, pr_8_m4, pr_i_0, pr_i_m1]; first | assumption | decide | exact ⟨by assumption, by assumption⟩ | exact ⟨Or.inl (by assumption), by assumption⟩ | omega) | decide | exact ⟨Or.inl (by assumption), by assumption⟩ | exact ⟨by assumption, by assumption⟩ | omega)⟩, (by first | assumption | (simp only [r9, r0, r1, r2, r3, s1, s2, q0, q1, rc, q3, q4, q5, q6, q7, q8, e3, y1, o3, pr_16_9999, pr_8_10, pr_8_m4, pr_i_0, pr_i_m1]; first | assumption | decide | exact ⟨by assumption, by assumption⟩ | exact ⟨Or.inl (by assumption), by assumption⟩ | omega) | decide | exact ⟨Or.inl (by assumption), by assumption⟩ | exact ⟨by assumption, by assumption⟩ | omega)⟩, (by first | assumption | (simp only [r9, r0, r1, r2, r3, s1, s2, q0, q1, rc, q3, q4, q5, q6, q7, q8, e3, y1, o3, pr_16_9999, pr_8_10, pr_8_m4, pr_i_0, pr_i_m1]; first | assumption | decide | exact ⟨by assumption, by assumption⟩ | exact ⟨Or.inl (by assumption), by assumption⟩ | omega) | decide | exact ⟨Or.inl (by assumption), by assumption⟩ | exact ⟨by assumption, by assumption⟩ | omega)⟩ ?_
                    try simp only [r9, r0, r1, r2, r3, s1, s2, q0, q1, rc, q3, q4, q5, q6, q7, q8, e3, y1, o3, pr_16_9999, pr_8_10, pr_8_m4, pr_i_0, pr_i_m1]
                    refine pr_cvX [_, _] rfl rfl rfl rfl rfl (Nat.le_of_ble_eq_true rfl) (by first | assumption | (simp only [r9, r0, r1, r2, r3, s1, s2, q0, q1, rc, q3, q4, q5, q6, q7, q8, e3, y1, o3, pr_16_9999, pr_8_10, pr_8_m4, pr_i_0, pr_i_m1]; first | assumption | decide | exact ⟨by assumption, by assumption⟩ | exact ⟨Or.inl (by assumption), by assumption⟩ | omega) | decide | exact ⟨Or.inl (by assumption), by assumption⟩ | exact ⟨by assumption, by assumption⟩ | omega) (Nat.le_of_ble_eq_true rfl) (hfi) (fun v73 M73 q73 => ?_)
                    obtain ⟨rfl, z2, z3, z4⟩ := q73
                    obtain ⟨I1, J1, Z1⟩ := M73
                    dsimp only at z2 z3 z4
                    subst z2
                    exact key2 I1 J1 z3 z4
                · simp only [ab_cmp, pr_16_9999, pr_8_10, pr_8_m4, pr_i_0, pr_i_m1] at h42
                  first
                  | contradiction
                  | exact absurd trivial h42
                  | exact absurd h42 (by decide)
                  | exact absurd (Classical.not_not.mp h42) (by decide)
                  | skip
                    fail
            · simp only [ab_cmp, pr_16_9999, pr_8_10, pr_8_m4, pr_i_0, pr_i_m1] at h16
              first
              | contradiction
              | exact absurd trivial h16
              | exact absurd h16 (by decide)
              | exact absurd (Classical.not_not.mp h16) (by decide)
              | skip
                refine pr_seqT (pc' := 20) 1 rfl ⟨trivial, trivial⟩ ?_
                try simp only [r9, r0, r1, r2, r3, s1, s2, q0, q1, rc, q3, q4, q5, q6, q7, q8, e3, y1, o3, pr_16_9999, pr_8_10, pr_8_m4, pr_i_0, pr_i_m1]
                exact pr_irT rfl trivial (by first | rfl | (simp only [r9, r0, r1, r2, r3, s1, s2, q0, q1, rc, q3, q4, q5, q6, q7, q8, e3, y1, o3, pr_16_9999, pr_8_10, pr_8_m4, pr_i_0, pr_i_m1]; done) | (simp [pr_b, pr_16_9999, pr_8_10, pr_8_m4, pr_i_0, pr_i_m1, *]; done) | (simp_all [pr_b, pr_16_9999, pr_8_10, pr_8_m4, pr_i_0, pr_i_m1]; done))
      · cases hz : ixb (w - 10) (x_nm X p).length with
        | false =>
          rw [hz] at hpl
          rw [if_pos ⟨w0, rfl⟩]
          refine pr_seqT (pc' := 2) 2 rfl ⟨⟨trivial, (by first | assumption | (simp only [r9, r0, r1, r2, r3, s1, s2, q0, q1, rc, q3, q4, q5, q6, q7, q8, e3, y1, o3, pr_16_9999, pr_8_10, pr_8_m4, pr_i_0, pr_i_m1]; first | assumption | decide | exact ⟨by assumption, by assumption⟩ | exact ⟨Or.inl (by assumption), by assumption⟩ | omega) | decide | exact ⟨Or.inl (by assumption), by assumption⟩ | exact ⟨by assumption, by assumption⟩ | omega)⟩, trivial⟩ ?_
          try simp only [r9, r0, r1, r2, r3, s1, s2, q0, q1, rc, q3, q4, q5, q6, q7, q8, e3, y1, o3, pr_16_9999, pr_8_10, pr_8_m4, pr_i_0, pr_i_m1]
          refine pr_cvT [_] rfl rfl rfl rfl rfl (Nat.le_of_ble_eq_true rfl) (by first | assumption | (simp only [r9, r0, r1, r2, r3, s1, s2, q0, q1, rc, q3, q4, q5, q6, q7, q8, e3, y1, o3, pr_16_9999, pr_8_10, pr_8_m4, pr_i_0, pr_i_m1]; first | assumption | decide | exact ⟨by assumption, by assumption⟩ | exact ⟨Or.inl (by assumption), by assumption⟩ | omega) | decide | exact ⟨Or.inl (by assumption), by assumption⟩ | exact ⟨by assumption, by assumption⟩ | omega) (Nat.le_of_ble_eq_true rfl) (hp) ?_
          refine pr_ifT rfl (fun h5 => ?_) (fun h5 => ?_)
          · simp only [ab_cmp, pr_16_9999, pr_8_10, pr_8_m4, pr_i_0, pr_i_m1] at h5
            first
            | contradiction
            | exact absurd trivial h5
            | exact absurd h5 (by decide)
            | exact absurd (Classical.not_not.mp h5) (by decide)
            | skip
              refine pr_seqT (pc' := 20) 1 rfl ⟨trivial, trivial⟩ ?_
              try simp only [r9, r0, r1, r2, r3, s1, s2, q0, q1, rc, q3, q4, q5, q6, q7, q8, e3, y1, o3, pr_16_9999, pr_8_10, pr_8_m4, pr_i_0, pr_i_m1]
              exact pr_irT rfl trivial (by first | rfl | (simp only [r9, r0, r1, r2, r3, s1, s2, q0, q1, rc, q3, q4, q5, q6, q7, q8, e3, y1, o3, pr_16_9999, pr_8_10, pr_8_m4, pr_i_0, pr_i_m1]; done) | (simp [pr_b, pr_16_9999, pr_8_10, pr_8_m4, pr_i_0, pr_i_m1, *]; done) | (simp_all [pr_b, pr_16_9999, pr_8_10, pr_8_m4, pr_i_0, pr_i_m1]; done))
          · simp only [ab_cmp, pr_16_9999, pr_8_10, pr_8_m4, pr_i_0, pr_i_m1] at h5
            first
            | contradiction
            | exact absurd trivial h5
            | exact absurd h5 (by decide)
            | exact absurd (Classical.not_not.mp h5) (by decide)
            | skip
              refine pr_seqT (pc' := 13) 3 rfl ⟨⟨⟨trivial, trivial⟩, trivial⟩, trivial⟩ ?_
              try simp only [r9, r0, r1, r2, r3, s1, s2, q0, q1, rc, q3, q4, q5, q6, q7, q8, e3, y1, o3, pr_16_9999, pr_8_10, pr_8_m4, pr_i_0, pr_i_m1]
              refine pr_csT [_, _, _] rfl rfl rfl rfl rfl (Nat.le_of_ble_eq_true rfl) (Nat.le_of_ble_eq_true rfl) (hw) ?_
              refine pr_ifT rfl (fun h16 => ?_) (fun h16 => ?_)
              · simp only [ab_cmp, pr_16_9999, pr_8_10, pr_8_m4, pr_i_0, pr_i_m1] at h16
                first
                | contradiction
                | exact absurd trivial h16
                | exact absurd h16 (by decide)
                | exact absurd (Classical.not_not.mp h16) (by decide)
                | skip
                  refine pr_seqT (pc' := 42) 12 rfl ⟨⟨⟨⟨⟨⟨⟨⟨⟨⟨⟨⟨trivial, (by first | assumption | (simp only [r9, r0, r1, r2, r3, s1, s2, q0, q1, rc, q3, q4, q5, q6, q7, q8, e3, y1, o3, pr_16_9999, pr_8_10, pr_8_m4, pr_i_0, pr_i_m1]; first | assumption | decide | exact ⟨by assumption, by assumption⟩ | exact ⟨Or.inl (by assumption), by assumption⟩ | omega) | decide | exact ⟨Or.inl (by assumption), by assumption⟩ | exact ⟨by assumption, by assumption⟩ | omega)⟩, (by first | assumption | (simp only [r9, r0, r1, r2, r3, s1, s2, q0, q1, rc, q3, q4, q5, q6, q7, q8, e3, y1, o3, pr_16_9999, pr_8_10, pr_8_m4, pr_i_0, pr_i_m1]; first | assumption | decide | exact ⟨by assumption, by assumption⟩ | exact ⟨Or.inl (by assumption), by assumption⟩ | omega) | decide | exact ⟨Or.inl (by assumption), by assumption⟩ | exact ⟨by assumption, by assumption⟩ | omega)⟩, (by first | assumption | (simp only [r9, r0, r1, r2, r3, s1, s2, q0, q1, rc, q3, q4, q5, q6, q7, q8, e3, y1, o3, pr_16_9999, pr_8_10, pr_8_m4, pr_i_0, pr_i_m1]; first | assumption | decide | exact ⟨by assumption, by assumption⟩ | exact ⟨Or.inl (by assumption), by assumption⟩ | omega) | decide | exact ⟨Or.inl (by assumption), by assumption⟩ | exact ⟨by assumption, by assumption⟩ | omega)⟩, (by first | assumption | (simp only [r9, r0, r1, r2, r3, s1, s2, q0, q1, rc, q3, q4, q5, q6, q7, q8, e3, y1, o3, pr_16_9999, pr_8_10, pr_8_m4, pr_i_0, pr_i_m1]; first | assumption | decide | exact ⟨by assumption, by assumption⟩ | exact ⟨Or.inl (by assumption), by assumption⟩ | omega) | decide | exact ⟨Or.inl (by assumption), by assumption⟩ | exact ⟨by assumption, by assumption⟩ | omega)⟩, trivial⟩, (by first | assumption | (simp only [r9, r0, r1, r2, r3, s1, s2, q0, q1, rc, q3, q4, q5, q6, q7, q8, e3, y1, o3, pr_16_9999, pr_8_10, pr_8_m4, pr_i_0, pr_i_m1]; first | assumption | decide | exact ⟨by assumption, by assumption⟩ | exact ⟨Or.inl (by assumption), by assumption⟩ | omega) | decide | exact ⟨Or.inl (by assumption), by assumption⟩ | exact ⟨by assumption, by assumption⟩ | omega)⟩, (by first | assumption | (simp only [r9, r0, r1, r2, r3, s1, s2, q0, q1, rc, q3, q4, q5, q6, q7, q8, e3, y1, o3, pr_16_9999, pr_8_10, pr_8_m4, pr_i_0, pr_i_m1]; first | assumption | decide | exact ⟨by assumption, by assumption⟩ | exact ⟨Or.inl (by assumption), by assumption⟩ | omega) | decide | exact ⟨Or.inl (by assumption), by assumption⟩ | exact ⟨by assumption, by assumption⟩ | omega)⟩, trivial⟩, trivial⟩, trivial⟩, trivial⟩, trivial⟩ ?_
                  try simp only [r9, r0, r1, r2, r3, s1, s2, q0, q1, rc, q3, q4, q5, q6, q7, q8, e3, y1, o3, pr_16_9999, pr_8_10, pr_8_m4, pr_i_0, pr_i_m1]
                  refine pr_ifT rfl (fun h42 => ?_) (fun h42 => ?_)
                  · simp only [ab_cmp, pr_16_9999, pr_8_10, pr_8_m4, pr_i_0, pr_i_m1] at h42
                    first
                    | contradiction
                    | exact absurd trivial h42
                    | exact absurd h42 (by decide)
                    | exact absurd (Classical.not_not.mp h42) (by decide)
                    | skip
                      fail
                  · simp only [ab_cmp, pr_16_9999, pr_8_10, pr_8_m4, pr_i_0, pr_i_m1] at h42
                    first
                    | contradiction
                    | exact absurd trivial h42
                    | exact absurd h42 (by decide)
                    | exact absurd (Classical.not_not.mp h42) (by decide)
                    | skip
                      refine pr_seqT (pc' := 52) 3 rfl ⟨⟨⟨trivial, (by first | assumption | (simp only [r9, r0, r1, r2, r3, s1, s2, q0, q1, rc, q3, q4, q5, q6, q7, q8, e3, y1, o3, pr_16_9999, pr_8_10, pr_8_m4, pr_i_0, pr_i_m1]; first | assumption | decide | exact ⟨by assumption, by assumption⟩ | exact ⟨Or.inl (by assumption), by assumption⟩ | omega) | decide | exact ⟨Or.inl (by assumption), by assumption⟩ | exact ⟨by assumption, by assumption⟩ | omega)⟩, (by first | assumption | (simp only [r9, r0, r1, r2, r3, s1, s2, q0, q1, rc, q3, q4, q5, q6, q7, q8, e3, y1, o3, pr_16_9999, pr_8_10, pr_8_m4, pr_i_0, pr_i_m1]; first | assumption | decide | exact ⟨by assumption, by assumption⟩ | exact ⟨Or.inl (by assumption), by assumption⟩ | omega) | decide | exact ⟨Or.inl (by assumption), by assumption⟩ | exact ⟨by assumption, by assumption⟩ | omega)⟩, trivial⟩ ?_
                      try simp only [r9, r0, r1, r2, r3, s1, s2, q0, q1, rc, q3, q4, q5, q6, q7, q8, e3, y1, o3, pr_16_9999, pr_8_10, pr_8_m4, pr_i_0, pr_i_m1]
                      refine pr_cvT [_] rfl rfl rfl rfl rfl (Nat.le_of_ble_eq_true rfl) (by first | assumption | (simp only [r9, r0, r1, r2, r3, s1, s2, q0, q1, rc, q3, q4, q5, q6, q7, q8, e3, y1, o3, pr_16_9999, pr_8_10, pr_8_m4, pr_i_0, pr_i_m1]; first | assumption | decide | exact ⟨by assumption, by assumption⟩ | exact ⟨Or.inl (by assumption), by assumption⟩ | omega) | decide | exact ⟨Or.inl (by assumption), by assumption⟩ | exact ⟨by assumption, by assumption⟩ | omega) (Nat.le_of_ble_eq_true rfl) (hpl) ?_
                      refine pr_ifT rfl (fun h55 => ?_) (fun h55 => ?_)
                      · simp only [ab_cmp, pr_16_9999, pr_8_10, pr_8_m4, pr_i_0, pr_i_m1] at h55
                        first
                        | contradiction
                        | exact absurd trivial h55
                        | exact absurd h55 (by decide)
                        | exact absurd (Classical.not_not.mp h55) (by decide)
                        | skip
                          fail
                      · simp only [ab_cmp, pr_16_9999, pr_8_10, pr_8_m4, pr_i_0, pr_i_m1] at h55
                        first
                        | contradiction
                        | exact absurd trivial h55
                        | exact absurd h55 (by decide)
                        | exact absurd (Classical.not_not.mp h55) (by decide)
                        | skip
                          refine pr_seqT (pc' := 59) 1 rfl ⟨trivial, trivial⟩ ?_
                          try simp only [r9, r0, r1, r2, r3, s1, s2, q0, q1, rc, q3, q4, q5, q6, q7, q8, e3, y1, o3, pr_16_9999, pr_8_10, pr_8_m4, pr_i_0, pr_i_m1]
                          exact pr_irT rfl trivial (by exact cp_s hl hv)
              · simp only [ab_cmp, pr_16_9999, pr_8_10, pr_8_m4, pr_i_0, pr_i_m1] at h16
                first
                | contradiction
                | exact absurd trivial h16
                | exact absurd h16 (by decide)
                | exact absurd (Classical.not_not.mp h16) (by decide)
                | skip
                  refine pr_seqT (pc' := 20) 1 rfl ⟨trivial, trivial⟩ ?_
                  try simp only [r9, r0, r1, r2, r3, s1, s2, q0, q1, rc, q3, q4, q5, q6, q7, q8, e3, y1, o3, pr_16_9999, pr_8_10, pr_8_m4, pr_i_0, pr_i_m1]
                  exact pr_irT rfl trivial (by first | rfl | (simp only [r9, r0, r1, r2, r3, s1, s2, q0, q1, rc, q3, q4, q5, q6, q7, q8, e3, y1, o3, pr_16_9999, pr_8_10, pr_8_m4, pr_i_0, pr_i_m1]; done) | (simp [pr_b, pr_16_9999, pr_8_10, pr_8_m4, pr_i_0, pr_i_m1, *]; done) | (simp_all [pr_b, pr_16_9999, pr_8_10, pr_8_m4, pr_i_0, pr_i_m1]; done))
        | true =>
          rw [hz] at hpl
          rw [if_neg (fun z => by cases z.2)]
          have key2 := fun I J h1 h2 => key I J h1 h2 (Or.inr ⟨w0, hz⟩)
          refine pr_seqT (pc' := 2) 2 rfl ⟨⟨trivial, (by first | assumption | (simp only [r9, r0, r1, r2, r3, s1, s2, q0, q1, rc, q3, q4, q5, q6, q7, q8, e3, y1, o3, pr_16_9999, pr_8_10, pr_8_m4, pr_i_0, pr_i_m1]; first | assumption | decide | exact ⟨by assumption, by assumption⟩ | exact ⟨Or.inl (by assumption), by assumption⟩ | omega) | decide | exact ⟨Or.inl (by assumption), by assumption⟩ | exact ⟨by assumption, by assumption⟩ | omega)⟩, trivial⟩ ?_
          try simp only [r9, r0, r1, r2, r3, s1, s2, q0, q1, rc, q3, q4, q5, q6, q7, q8, e3, y1, o3, pr_16_9999, pr_8_10, pr_8_m4, pr_i_0, pr_i_m1]
          refine pr_cvT [_] rfl rfl rfl rfl rfl (Nat.le_of_ble_eq_true rfl) (by first | assumption | (simp only [r9, r0, r1, r2, r3, s1, s2, q0, q1, rc, q3, q4, q5, q6, q7, q8, e3, y1, o3, pr_16_9999, pr_8_10, pr_8_m4, pr_i_0, pr_i_m1]; first | assumption | decide | exact ⟨by assumption, by assumption⟩ | exact ⟨Or.inl (by assumption), by assumption⟩ | omega) | decide | exact ⟨Or.inl (by assumption), by assumption⟩ | exact ⟨by assumption, by assumption⟩ | omega) (Nat.le_of_ble_eq_true rfl) (hp) ?_
          refine pr_ifT rfl (fun h5 => ?_) (fun h5 => ?_)
          · simp only [ab_cmp, pr_16_9999, pr_8_10, pr_8_m4, pr_i_0, pr_i_m1] at h5
            first
            | contradiction
            | exact absurd trivial h5
            | exact absurd h5 (by decide)
            | exact absurd (Classical.not_not.mp h5) (by decide)
            | skip
              refine pr_seqT (pc' := 20) 1 rfl ⟨trivial, trivial⟩ ?_
              try simp only [r9, r0, r1, r2, r3, s1, s2, q0, q1, rc, q3, q4, q5, q6, q7, q8, e3, y1, o3, pr_16_9999, pr_8_10, pr_8_m4, pr_i_0, pr_i_m1]
              exact pr_irT rfl trivial (by first | rfl | (simp only [r9, r0, r1, r2, r3, s1, s2, q0, q1, rc, q3, q4, q5, q6, q7, q8, e3, y1, o3, pr_16_9999, pr_8_10, pr_8_m4, pr_i_0, pr_i_m1]; done) | (simp [pr_b, pr_16_9999, pr_8_10, pr_8_m4, pr_i_0, pr_i_m1, *]; done) | (simp_all [pr_b, pr_16_9999, pr_8_10, pr_8_m4, pr_i_0, pr_i_m1]; done))
          · simp only [ab_cmp, pr_16_9999, pr_8_10, pr_8_m4, pr_i_0, pr_i_m1] at h5
            first
            | contradiction
            | exact absurd trivial h5
            | exact absurd h5 (by decide)
            | exact absurd (Classical.not_not.mp h5) (by decide)
            | skip
              refine pr_seqT (pc' := 13) 3 rfl ⟨⟨⟨trivial, trivial⟩, trivial⟩, trivial⟩ ?_
              try simp only [r9, r0, r1, r2, r3, s1, s2, q0, q1, rc, q3, q4, q5, q6, q7, q8, e3, y1, o3, pr_16_9999, pr_8_10, pr_8_m4, pr_i_0, pr_i_m1]
              refine pr_csT [_, _, _] rfl rfl rfl rfl rfl (Nat.le_of_ble_eq_true rfl) (Nat.le_of_ble_eq_true rfl) (hw) ?_
              refine pr_ifT rfl (fun h16 => ?_) (fun h16 => ?_)
              · simp only [ab_cmp, pr_16_9999, pr_8_10, pr_8_m4, pr_i_0, pr_i_m1] at h16
                first
                | contradiction
                | exact absurd trivial h16
                | exact absurd h16 (by decide)
                | exact absurd (Classical.not_not.mp h16) (by decide)
                | skip
                  refine pr_seqT (pc' := 42) 12 rfl ⟨⟨⟨⟨⟨⟨⟨⟨⟨⟨⟨⟨trivial, (by first | assumption | (simp only [r9, r0, r1, r2, r3, s1, s2, q0, q1, rc, q3, q4, q5, q6, q7, q8, e3, y1, o3, pr_16_9999, pr_8_10, pr_8_m4, pr_i_0, pr_i_m1]; first | assumption | decide | exact ⟨by assumption, by assumption⟩ | exact ⟨Or.inl (by assumption), by assumption⟩ | omega) | decide | exact ⟨Or.inl (by assumption), by assumption⟩ | exact ⟨by assumption, by assumption⟩ | omega)⟩, (by first | assumption | (simp only [r9, r0, r1, r2, r3, s1, s2, q0, q1, rc, q3, q4, q5, q6, q7, q8, e3, y1, o3, pr_16_9999, pr_8_10, pr_8_m4, pr_i_0, pr_i_m1]; first | assumption | decide | exact ⟨by assumption, by assumption⟩ | exact ⟨Or.inl (by assumption), by assumption⟩ | omega) | decide | exact ⟨Or.inl (by assumption), by assumption⟩ | exact ⟨by assumption, by assumption⟩ | omega)⟩, (by first | assumption | (simp only [r9, r0, r1, r2, r3, s1, s2, q0, q1, rc, q3, q4, q5, q6, q7, q8, e3, y1, o3, pr_16_9999, pr_8_10, pr_8_m4, pr_i_0, pr_i_m1]; first | assumption | decide | exact ⟨by assumption, by assumption⟩ | exact ⟨Or.inl (by assumption), by assumption⟩ | omega) | decide | exact ⟨Or.inl (by assumption), by assumption⟩ | exact ⟨by assumption, by assumption⟩ | omega)⟩, (by first | assumption | (simp only [r9, r0, r1, r2, r3, s1, s2, q0, q1, rc, q3, q4, q5, q6, q7, q8, e3, y1, o3, pr_16_9999, pr_8_10, pr_8_m4, pr_i_0, pr_i_m1]; first | assumption | decide | exact ⟨by assumption, by assumption⟩ | exact ⟨Or.inl (by assumption), by assumption⟩ | omega) | decide | exact ⟨Or.inl (by assumption), by assumption⟩ | exact ⟨by assumption, by assumption⟩ | omega)⟩, trivial⟩, (by first | assumption | (simp only [r9, r0, r1, r2, r3, s1, s2, q0, q1, rc, q3, q4, q5, q6, q7, q8, e3, y1, o3, pr_16_9999, pr_8_10, pr_8_m4, pr_i_0, pr_i_m1]; first | assumption | decide | exact ⟨by assumption, by assumption⟩ | exact ⟨Or.inl (by assumption), by assumption⟩ | omega) | decide | exact ⟨Or.inl (by assumption), by assumption⟩ | exact ⟨by assumption, by assumption⟩ | omega)⟩, (by first | assumption | (simp only [r9, r0, r1, r2, r3, s1, s2, q0, q1, rc, q3, q4, q5, q6, q7, q8, e3, y1, o3, pr_16_9999, pr_8_10, pr_8_m4, pr_i_0, pr_i_m1]; first | assumption | decide | exact ⟨by assumption, by assumption⟩ | exact ⟨Or.inl (by assumption), by assumption⟩ | omega) | decide | exact ⟨Or.inl (by assumption), by assumption⟩ | exact ⟨by assumption, by assumption⟩ | omega)⟩, trivial⟩, trivial⟩, trivial⟩, trivial⟩, trivial⟩ ?_
                  try simp only [r9, r0, r1, r2, r3, s1, s2, q0, q1, rc, q3, q4, q5, q6, q7, q8, e3, y1, o3, pr_16_9999, pr_8_10, pr_8_m4, pr_i_0, pr_i_m1]
                  refine pr_ifT rfl (fun h42 => ?_) (fun h42 => ?_)
                  · simp only [ab_cmp, pr_16_9999, pr_8_10, pr_8_m4, pr_i_0, pr_i_m1] at h42
                    first
                    | contradiction
                    | exact absurd trivial h42
                    | exact absurd h42 (by decide)
                    | exact absurd (Classical.not_not.mp h42) (by decide)
                    | skip
                      refine pr_seqT (pc' := 73) 6 rfl ⟨⟨⟨⟨⟨⟨trivial, (by first | assumption | (simp only [r9, r0, r1, r2, r3, s1, s2, q0, q1, rc, q3, q4, q5, q6, q7, q8, e3, y1, o3, pr_16_9999, pr_8_10, pr_8_m4, pr_i_0, pr_i_m1]; first | assumption | decide | exact ⟨by assumption, by assumption⟩ | exact ⟨Or.inl (by assumption), by assumption⟩ | omega) | decide | exact ⟨Or.inl (by assumption), by assumption⟩ | exact ⟨by assumption, by assumption⟩ | omega)⟩, (by first | assumption | (simp only [r9, r0, r1, r2, r3, s1, s2, q0, q1, rc, q3, q4, q5, q6, q7, q8, e3, y1, o3, pr_16_9999, pr_8_10, pr_8_m4, pr_i_0, pr_i_m1]; first | assumption | decide | exact ⟨by assumption, by assumption⟩ | exact ⟨Or.inl (by assumption), by assumption⟩ | omega) | decide | exact ⟨Or.inl (by assumption), by assumption⟩ | exact ⟨by assumption, by assumption⟩ | omega)⟩, (by first | assumption | (simp only [r9, r0, r1, r2, r3, s1, s2, q0, q1, rc, q3, q4, q5, q6, q7, q8, e3, y1, o3, pr_16_9999, pr_8_10, pr_8_m4, pr_i_0, pr_i_m1]; first | assumption | decide | exact ⟨by assumption, by assumption⟩ | exact ⟨Or.inl (by assumption), by assumption⟩ | omega) | decide | exact ⟨Or.inl (by assumption), by assumption⟩ | exact ⟨by assumption, by assumption⟩ | omega)⟩, (by first | assumption | (simp only [r9, r0, r1, r2, r3, s1, s2, q0, q1, rc, q3, q4, q5, q6, q7, q8, e3, y1, o3, pr_16_9999, pr_8_10, pr_8_m4, pr_i_0, pr_i_m1]; first | assumption | decide | exact ⟨by assumption, by assumption⟩ | exact ⟨Or.inl (by assumption), by assumption⟩ | omega) | decide | exact ⟨Or.inl (by assumption), by assumption⟩ | exact ⟨by assumption, by assumption⟩ | omega)⟩, (by first | assumption | (simp only [r9, r0, r1, r2, r3, s1, s2, q0, q1, rc, q3, q4, q5, q6, q7, q8, e3, y1, o3, pr_16_9999, pr_8_10, pr_8_m4, pr_i_0, pr_i_m1]; first | assumption | decide | exact ⟨by assumption, by assumption⟩ | exact ⟨Or.inl (by assumption), by assumption⟩ | omega) | decide | exact ⟨Or.inl (by assumption), by assumption⟩ | exact ⟨by assumption, by assumption⟩ | omega)⟩, (by first | assumption | (simp only [r9, r0, r1, r2, r3, s1, s2, q0, q1, rc, q3, q4, q5, q6, q7, q8, e3, y1, o3, pr_16_9999, pr_8_10, pr_8_m4, pr_i_0, pr_i_m1]; first | assumption | decide | exact ⟨by assumption, by assumption⟩ | exact ⟨Or.inl (by assumption), by assumption⟩ | omega) | decide | exact ⟨Or.inl (by assumption), by assumption⟩ | exact ⟨by assumption, by assumption⟩ | omega)⟩ ?_
                      try simp only [r9, r0, r1, r2, r3, s1, s2, q0, q1, rc, q3, q4, q5, q6, q7, q8, e3, y1, o3, pr_16_9999, pr_8_10, pr_8_m4, pr_i_0, pr_i_m1]
                      refine pr_cvX [_, _] rfl rfl rfl rfl rfl (Nat.le_of_ble_eq_true rfl) (by first | assumption | (simp only [r9, r0, r1, r2, r3, s1, s2, q0, q1, rc, q3, q4, q5, q6, q7, q8, e3, y1, o3, pr_16_9999, pr_8_10, pr_8_m4, pr_i_0, pr_i_m1]; first | assumption | decide | exact ⟨by assumption, by assumption⟩ | exact ⟨Or.inl (by assumption), by assumption⟩ | omega) | decide | exact ⟨Or.inl (by assumption), by assumption⟩ | exact ⟨by assumption, by assumption⟩ | omega) (Nat.le_of_ble_eq_true rfl) (hfi) (fun v73 M73 q73 => ?_)
                      obtain ⟨rfl, z2, z3, z4⟩ := q73
                      obtain ⟨I1, J1, Z1⟩ := M73
                      dsimp only at z2 z3 z4
                      subst z2
                      exact key2 I1 J1 z3 z4
                  · simp only [ab_cmp, pr_16_9999, pr_8_10, pr_8_m4, pr_i_0, pr_i_m1] at h42
                    first
                    | contradiction
                    | exact absurd trivial h42
                    | exact absurd h42 (by decide)
                    | exact absurd (Classical.not_not.mp h42) (by decide)
                    | skip
                      refine pr_seqT (pc' := 52) 3 rfl ⟨⟨⟨trivial, (by first | assumption | (simp only [r9, r0, r1, r2, r3, s1, s2, q0, q1, rc, q3, q4, q5, q6, q7, q8, e3, y1, o3, pr_16_9999, pr_8_10, pr_8_m4, pr_i_0, pr_i_m1]; first | assumption | decide | exact ⟨by assumption, by assumption⟩ | exact ⟨Or.inl (by assumption), by assumption⟩ | omega) | decide | exact ⟨Or.inl (by assumption), by assumption⟩ | exact ⟨by assumption, by assumption⟩ | omega)⟩, (by first | assumption | (simp only [r9, r0, r1, r2, r3, s1, s2, q0, q1, rc, q3, q4, q5, q6, q7, q8, e3, y1, o3, pr_16_9999, pr_8_10, pr_8_m4, pr_i_0, pr_i_m1]; first | assumption | decide | exact ⟨by assumption, by assumption⟩ | exact ⟨Or.inl (by assumption), by assumption⟩ | omega) | decide | exact ⟨Or.inl (by assumption), by assumption⟩ | exact ⟨by assumption, by assumption⟩ | omega)⟩, trivial⟩ ?_
                      try simp only [r9, r0, r1, r2, r3, s1, s2, q0, q1, rc, q3, q4, q5, q6, q7, q8, e3, y1, o3, pr_16_9999, pr_8_10, pr_8_m4, pr_i_0, pr_i_m1]
                      refine pr_cvT [_] rfl rfl rfl rfl rfl (Nat.le_of_ble_eq_true rfl) (by first | assumption | (simp only [r9, r0, r1, r2, r3, s1, s2, q0, q1, rc, q3, q4, q5, q6, q7, q8, e3, y1, o3, pr_16_9999, pr_8_10, pr_8_m4, pr_i_0, pr_i_m1]; first | assumption | decide | exact ⟨by assumption, by assumption⟩ | exact ⟨Or.inl (by assumption), by assumption⟩ | omega) | decide | exact ⟨Or.inl (by assumption), by assumption⟩ | exact ⟨by assumption, by assumption⟩ | omega) (Nat.le_of_ble_eq_true rfl) (hpl) ?_
                      refine pr_ifT rfl (fun h55 => ?_) (fun h55 => ?_)
                      · simp only [ab_cmp, pr_16_9999, pr_8_10, pr_8_m4, pr_i_0, pr_i_m1] at h55
                        first
                        | contradiction
                        | exact absurd trivial h55
                        | exact absurd h55 (by decide)
                        | exact absurd (Classical.not_not.mp h55) (by decide)
                        | skip
                          refine pr_seqT (pc' := 73) 6 rfl ⟨⟨⟨⟨⟨⟨trivial, (by first | assumption | (simp only [r9, r0, r1, r2, r3, s1, s2, q0, q1, rc, q3, q4, q5, q6, q7, q8, e3, y1, o3, pr_16_9999, pr_8_10, pr_8_m4, pr_i_0, pr_i_m1]; first | assumption | decide | exact ⟨by assumption, by assumption⟩ | exact ⟨Or.inl (by assumption), by assumption⟩ | omega) | decide | exact ⟨Or.inl (by assumption), by assumption⟩ | exact ⟨by assumption, by assumption⟩ | omega)⟩, (by first | assumption | (simp only [r9, r0, r1, r2, r3, s1, s2, q0, q1, rc, q3, q4, q5, q6, q7, q8, e3, y1, o3, pr_16_9999, pr_8_10, pr_8_m4, pr_i_0, pr_i_m1]; first | assumption | decide | exact ⟨by assumption, by assumption⟩ | exact ⟨Or.inl (by assumption), by assumption⟩ | omega) | decide | exact ⟨Or.inl (by assumption), by assumption⟩ | exact ⟨by assumption, by assumption⟩ | omega)⟩, (by first | assumption | (simp only [r9, r0, r1, r2, r3, s1, s2, q0, q1, rc, q3, q4, q5, q6, q7, q8, e3, y1, o3, pr_16_9999, pr_8_10, pr_8_m4, pr_i_0, pr_i_m1]; first | assumption | decide | exact ⟨by assumption, by assumption⟩ | exact ⟨Or.inl (by assumption), by assumption⟩ | omega) | decide | exact ⟨Or.inl (by assumption), by assumption⟩ | exact ⟨by assumption, by assumption⟩ | omega)⟩, (by first | assumption | (simp only [r9, r0, r1, r2, r3, s1, s2, q0, q1, rc, q3, q4, q5, q6, q7, q8, e3, y1, o3, pr_16_9999, pr_8_10, pr_8_m4, pr_i_0, pr_i_m1]; first | assumption | decide | exact ⟨by assumption, by assumption⟩ | exact ⟨Or.inl (by assumption), by assumption⟩ | omega) | decide | exact ⟨Or.inl (by assumption), by assumption⟩ | exact ⟨by assumption, by assumption⟩ | omega)⟩, (by first | assumption | (simp only [r9, r0, r1, r2, r3, s1, s2, q0, q1, rc, q3, q4, q5, q6, q7, q8, e3, y1, o3, pr_16_9999, pr_8_10, pr_8_m4, pr_i_0, pr_i_m1]; first | assumption | decide | exact ⟨by assumption, by assumption⟩ | exact ⟨Or.inl (by assumption), by assumption⟩ | omega) | decide | exact ⟨Or.inl (by assumption), by assumption⟩ | exact ⟨by assumption, by assumption⟩ | omega)⟩, (by first | assumption | (simp only [r9, r0, r1, r2, r3, s1, s2, q0, q1, rc, q3, q4, q5, q6, q7, q8, e3, y1, o3, pr_16_9999, pr_8_10, pr_8_m4, pr_i_0, pr_i_m1]; first | assumption | decide | exact ⟨by assumption, by assumption⟩ | exact ⟨Or.inl (by assumption), by assumption⟩ | omega) | decide | exact ⟨Or.inl (by assumption), by assumption⟩ | exact ⟨by assumption, by assumption⟩ | omega)⟩ ?_
                          try simp only [r9, r0, r1, r2, r3, s1, s2, q0, q1, rc, q3, q4, q5, q6, q7, q8, e3, y1, o3, pr_16_9999, pr_8_10, pr_8_m4, pr_i_0, pr_i_m1]
                          refine pr_cvX [_, _] rfl rfl rfl rfl rfl (Nat.le_of_ble_eq_true rfl) (by first | assumption | (simp only [r9, r0, r1, r2, r3, s1, s2, q0, q1, rc, q3, q4, q5, q6, q7, q8, e3, y1, o3, pr_16_9999, pr_8_10, pr_8_m4, pr_i_0, pr_i_m1]; first | assumption | decide | exact ⟨by assumption, by assumption⟩ | exact ⟨Or.inl (by assumption), by assumption⟩ | omega) | decide | exact ⟨Or.inl (by assumption), by assumption⟩ | exact ⟨by assumption, by assumption⟩ | omega) (Nat.le_of_ble_eq_true rfl) (hfi) (fun v73 M73 q73 => ?_)
                          obtain ⟨rfl, z2, z3, z4⟩ := q73
                          obtain ⟨I1, J1, Z1⟩ := M73
                          dsimp only at z2 z3 z4
                          subst z2
                          exact key2 I1 J1 z3 z4
                      · simp only [ab_cmp, pr_16_9999, pr_8_10, pr_8_m4, pr_i_0, pr_i_m1] at h55
                        first
                        | contradiction
                        | exact absurd trivial h55
                        | exact absurd h55 (by decide)
                        | exact absurd (Classical.not_not.mp h55) (by decide)
                        | skip
                          fail
              · simp only [ab_cmp, pr_16_9999, pr_8_10, pr_8_m4, pr_i_0, pr_i_m1] at h16
                first
                | contradiction
                | exact absurd trivial h16
                | exact absurd h16 (by decide)
                | exact absurd (Classical.not_not.mp h16) (by decide)
                | skip
                  refine pr_seqT (pc' := 20) 1 rfl ⟨trivial, trivial⟩ ?_
                  try simp only [r9, r0, r1, r2, r3, s1, s2, q0, q1, rc, q3, q4, q5, q6, q7, q8, e3, y1, o3, pr_16_9999, pr_8_10, pr_8_m4, pr_i_0, pr_i_m1]
                  exact pr_irT rfl trivial (by first | rfl | (simp only [r9, r0, r1, r2, r3, s1, s2, q0, q1, rc, q3, q4, q5, q6, q7, q8, e3, y1, o3, pr_16_9999, pr_8_10, pr_8_m4, pr_i_0, pr_i_m1]; done) | (simp [pr_b, pr_16_9999, pr_8_10, pr_8_m4, pr_i_0, pr_i_m1, *]; done) | (simp_all [pr_b, pr_16_9999, pr_8_10, pr_8_m4, pr_i_0, pr_i_m1]; done))
