
/-! ===== year ===== -/
set_option maxHeartbeats 4000000 in
theorem p_year {b : Bool} {X : St} (s x y : Int32) (h : ab_H) (M : ab_M) (hl : Lay h M.2.2 b) (hv : cl_v M.1 b X) : pr_X pX10_year [.ref 1, .int s, .int x, .int y] h M (cp h M (f_year X s x y, X)) := by
  obtain ⟨k1, q0, q1, rc, q3, q4, q5, q6, q7, q8, r9⟩ := id hl.1
  have ht := ly_told hl
  obtain ⟨t0, t1, r0, r1, r2, r3, hg, ⟨ka, kb⟩, ⟨kc, kd⟩, ⟨ke, kf⟩, hnm⟩ := id ht
  obtain ⟨g0, g1, s1, s2, m1, m2, ⟨m3, m4⟩, hon⟩ := id hg
  obtain ⟨hT, hIm, hSh, hTp, hFa, hTo⟩ := id hv
  obtain ⟨hd, v2, v3, v4, v5, v6, v7⟩ := id hT
  obtain ⟨d1, d2, d3, d4, d5, d6, d7, d8⟩ := id hd
  have b0 := tB_ne b
  have hc := hl.2.2.2.2.2.1
  have hb : 49 + 5 < tB b + 1 ∨ tB b + 1 + 27 ≤ 49 := by cases b <;> decide
  have hb2 : 63 < tB b ∧ tB b + 43 ≤ 110 ∨ 5 < tB b ∧ tB b + 43 ≤ 49 := by cases b <;> decide
  have c1 := hc.2.1
  unfold f_year
  have hp := c_within x 1 20 h M
  have hw := c_within y 0 1 h M
  rcases pr_rg1 x 20 20 rfl (by decide) with q | ⟨a, ha1, ha, rfl, q⟩
  · rw [q] at hp ⊢
    refine pr_seqT (pc' := 4) 3 rfl ⟨⟨⟨trivial, trivial⟩, trivial⟩, trivial⟩ ?_
    try simp only [r9, r0, r1, r2, r3, s1, s2, q0, q1, rc, q3, q4, q5, q6, q7, q8, pr_16_12345, pr_16_32767, pr_8_16, pr_8_20, pr_8_m2, pr_i_0, pr_i_1, pr_i_m1]
    refine pr_csT [_, _, _] rfl rfl rfl rfl rfl (Nat.le_of_ble_eq_true rfl) (Nat.le_of_ble_eq_true rfl) (hp) ?_
    refine pr_ifT rfl (fun h7 => ?_) (fun h7 => ?_)
    · simp only [ab_cmp, pr_16_12345, pr_16_32767, pr_8_16, pr_8_20, pr_8_m2, pr_i_0, pr_i_1, pr_i_m1] at h7
      first
      | contradiction
      | exact absurd trivial h7
      | exact absurd h7 (by decide)
      | exact absurd (Classical.not_not.mp h7) (by decide)
      | skip
        refine pr_seqT (pc' := 20) 1 rfl ⟨trivial, trivial⟩ ?_
        try simp only [r9, r0, r1, r2, r3, s1, s2, q0, q1, rc, q3, q4, q5, q6, q7, q8, pr_16_12345, pr_16_32767, pr_8_16, pr_8_20, pr_8_m2, pr_i_0, pr_i_1, pr_i_m1]
        exact pr_irT rfl trivial (by exact cp_s hl hv)
    · simp only [ab_cmp, pr_16_12345, pr_16_32767, pr_8_16, pr_8_20, pr_8_m2, pr_i_0, pr_i_1, pr_i_m1] at h7
      first
      | contradiction
      | exact absurd trivial h7
      | exact absurd h7 (by decide)
      | exact absurd (Classical.not_not.mp h7) (by decide)
      | skip
        refine pr_seqT (pc' := 13) 3 rfl ⟨⟨⟨trivial, trivial⟩, trivial⟩, trivial⟩ ?_
        try simp only [r9, r0, r1, r2, r3, s1, s2, q0, q1, rc, q3, q4, q5, q6, q7, q8, pr_16_12345, pr_16_32767, pr_8_16, pr_8_20, pr_8_m2, pr_i_0, pr_i_1, pr_i_m1]
        fail "no call@13 yX10_within"
  · rcases pr_rg y 1 1 rfl (by decide) with q' | ⟨k, hk, rfl, q'⟩
    · rw [q] at hp
      rw [q'] at hw
      rw [q, q']
      refine pr_seqT (pc' := 4) 3 rfl ⟨⟨⟨trivial, trivial⟩, trivial⟩, trivial⟩ ?_
      try simp only [r9, r0, r1, r2, r3, s1, s2, q0, q1, rc, q3, q4, q5, q6, q7, q8, pr_16_12345, pr_16_32767, pr_8_16, pr_8_20, pr_8_m2, pr_i_0, pr_i_1, pr_i_m1]
      refine pr_csT [_, _, _] rfl rfl rfl rfl rfl (Nat.le_of_ble_eq_true rfl) (Nat.le_of_ble_eq_true rfl) (hp) ?_
      refine pr_ifT rfl (fun h7 => ?_) (fun h7 => ?_)
      · simp only [ab_cmp, pr_16_12345, pr_16_32767, pr_8_16, pr_8_20, pr_8_m2, pr_i_0, pr_i_1, pr_i_m1] at h7
        first
        | contradiction
        | exact absurd trivial h7
        | exact absurd h7 (by decide)
        | exact absurd (Classical.not_not.mp h7) (by decide)
        | skip
          refine pr_seqT (pc' := 20) 1 rfl ⟨trivial, trivial⟩ ?_
          try simp only [r9, r0, r1, r2, r3, s1, s2, q0, q1, rc, q3, q4, q5, q6, q7, q8, pr_16_12345, pr_16_32767, pr_8_16, pr_8_20, pr_8_m2, pr_i_0, pr_i_1, pr_i_m1]
          exact pr_irT rfl trivial (by exact cp_s hl hv)
      · simp only [ab_cmp, pr_16_12345, pr_16_32767, pr_8_16, pr_8_20, pr_8_m2, pr_i_0, pr_i_1, pr_i_m1] at h7
        first
        | contradiction
        | exact absurd trivial h7
        | exact absurd h7 (by decide)
        | exact absurd (Classical.not_not.mp h7) (by decide)
        | skip
          refine pr_seqT (pc' := 13) 3 rfl ⟨⟨⟨trivial, trivial⟩, trivial⟩, trivial⟩ ?_
          try simp only [r9, r0, r1, r2, r3, s1, s2, q0, q1, rc, q3, q4, q5, q6, q7, q8, pr_16_12345, pr_16_32767, pr_8_16, pr_8_20, pr_8_m2, pr_i_0, pr_i_1, pr_i_m1]
          refine pr_csT [_, _, _] rfl rfl rfl rfl rfl (Nat.le_of_ble_eq_true rfl) (Nat.le_of_ble_eq_true rfl) (hw) ?_
          refine pr_ifT rfl (fun h16 => ?_) (fun h16 => ?_)
          · simp only [ab_cmp, pr_16_12345, pr_16_32767, pr_8_16, pr_8_20, pr_8_m2, pr_i_0, pr_i_1, pr_i_m1] at h16
            first
            | contradiction
            | exact absurd trivial h16
            | exact absurd h16 (by decide)
            | exact absurd (Classical.not_not.mp h16) (by decide)
            | skip
              refine pr_seqT (pc' := 28) 3 rfl ⟨⟨⟨trivial, (by first | assumption | (simp only [r9, r0, r1, r2, r3, s1, s2, q0, q1, rc, q3, q4, q5, q6, q7, q8, pr_16_12345, pr_16_32767, pr_8_16, pr_8_20, pr_8_m2, pr_i_0, pr_i_1, pr_i_m1]; first | assumption | decide | exact ⟨by assumption, by assumption⟩ | exact ⟨Or.inl (by assumption), by assumption⟩ | omega) | decide | exact ⟨Or.inl (by assumption), by assumption⟩ | exact ⟨by assumption, by assumption⟩ | omega)⟩, (by first | assumption | (simp only [r9, r0, r1, r2, r3, s1, s2, q0, q1, rc, q3, q4, q5, q6, q7, q8, pr_16_12345, pr_16_32767, pr_8_16, pr_8_20, pr_8_m2, pr_i_0, pr_i_1, pr_i_m1]; first | assumption | decide | exact ⟨by assumption, by assumption⟩ | exact ⟨Or.inl (by assumption), by assumption⟩ | omega) | decide | exact ⟨Or.inl (by assumption), by assumption⟩ | exact ⟨by assumption, by assumption⟩ | omega)⟩, (by first | assumption | (simp only [r9, r0, r1, r2, r3, s1, s2, q0, q1, rc, q3, q4, q5, q6, q7, q8, pr_16_12345, pr_16_32767, pr_8_16, pr_8_20, pr_8_m2, pr_i_0, pr_i_1, pr_i_m1]; first | assumption | decide | exact ⟨by assumption, by assumption⟩ | exact ⟨Or.inl (by assumption), by assumption⟩ | omega) | decide | exact ⟨Or.inl (by assumption), by assumption⟩ | exact ⟨by assumption, by assumption⟩ | omega)⟩ ?_
              try simp only [r9, r0, r1, r2, r3, s1, s2, q0, q1, rc, q3, q4, q5, q6, q7, q8, pr_16_12345, pr_16_32767, pr_8_16, pr_8_20, pr_8_m2, pr_i_0, pr_i_1, pr_i_m1]
              refine pr_ifT rfl (fun h28 => ?_) (fun h28 => ?_)
              · simp only [ab_cmp, pr_16_12345, pr_16_32767, pr_8_16, pr_8_20, pr_8_m2, pr_i_0, pr_i_1, pr_i_m1] at h28
                first
                | contradiction
                | exact absurd trivial h28
                | exact absurd h28 (by decide)
                | exact absurd (Classical.not_not.mp h28) (by decide)
                | skip
                  refine pr_seqT (pc' := 45) 5 rfl ⟨⟨⟨⟨⟨trivial, (by first | assumption | (simp only [r9, r0, r1, r2, r3, s1, s2, q0, q1, rc, q3, q4, q5, q6, q7, q8, pr_16_12345, pr_16_32767, pr_8_16, pr_8_20, pr_8_m2, pr_i_0, pr_i_1, pr_i_m1]; first | assumption | decide | exact ⟨by assumption, by assumption⟩ | exact ⟨Or.inl (by assumption), by assumption⟩ | omega) | decide | exact ⟨Or.inl (by assumption), by assumption⟩ | exact ⟨by assumption, by assumption⟩ | omega)⟩, (by first | assumption | (simp only [r9, r0, r1, r2, r3, s1, s2, q0, q1, rc, q3, q4, q5, q6, q7, q8, pr_16_12345, pr_16_32767, pr_8_16, pr_8_20, pr_8_m2, pr_i_0, pr_i_1, pr_i_m1]; first | assumption | decide | exact ⟨by assumption, by assumption⟩ | exact ⟨Or.inl (by assumption), by assumption⟩ | omega) | decide | exact ⟨Or.inl (by assumption), by assumption⟩ | exact ⟨by assumption, by assumption⟩ | omega)⟩, (by first | assumption | (simp only [r9, r0, r1, r2, r3, s1, s2, q0, q1, rc, q3, q4, q5, q6, q7, q8, pr_16_12345, pr_16_32767, pr_8_16, pr_8_20, pr_8_m2, pr_i_0, pr_i_1, pr_i_m1]; first | assumption | decide | exact ⟨by assumption, by assumption⟩ | exact ⟨Or.inl (by assumption), by assumption⟩ | omega) | decide | exact ⟨Or.inl (by assumption), by assumption⟩ | exact ⟨by assumption, by assumption⟩ | omega)⟩, (by first | assumption | (simp only [r9, r0, r1, r2, r3, s1, s2, q0, q1, rc, q3, q4, q5, q6, q7, q8, pr_16_12345, pr_16_32767, pr_8_16, pr_8_20, pr_8_m2, pr_i_0, pr_i_1, pr_i_m1]; first | assumption | decide | exact ⟨by assumption, by assumption⟩ | exact ⟨Or.inl (by assumption), by assumption⟩ | omega) | decide | exact ⟨Or.inl (by assumption), by assumption⟩ | exact ⟨by assumption, by assumption⟩ | omega)⟩, (by first | assumption | (simp only [r9, r0, r1, r2, r3, s1, s2, q0, q1, rc, q3, q4, q5, q6, q7, q8, pr_16_12345, pr_16_32767, pr_8_16, pr_8_20, pr_8_m2, pr_i_0, pr_i_1, pr_i_m1]; first | assumption | decide | exact ⟨by assumption, by assumption⟩ | exact ⟨Or.inl (by assumption), by assumption⟩ | omega) | decide | exact ⟨Or.inl (by assumption), by assumption⟩ | exact ⟨by assumption, by assumption⟩ | omega)⟩ ?_
                  try simp only [r9, r0, r1, r2, r3, s1, s2, q0, q1, rc, q3, q4, q5, q6, q7, q8, pr_16_12345, pr_16_32767, pr_8_16, pr_8_20, pr_8_m2, pr_i_0, pr_i_1, pr_i_m1]
                  fail "no call@45 yX0_take"
              · simp only [ab_cmp, pr_16_12345, pr_16_32767, pr_8_16, pr_8_20, pr_8_m2, pr_i_0, pr_i_1, pr_i_m1] at h28
                first
                | contradiction
                | exact absurd trivial h28
                | exact absurd h28 (by decide)
                | exact absurd (Classical.not_not.mp h28) (by decide)
                | skip
                  refine pr_seqT (pc' := 33) 1 rfl ⟨trivial, trivial⟩ ?_
                  try simp only [r9, r0, r1, r2, r3, s1, s2, q0, q1, rc, q3, q4, q5, q6, q7, q8, pr_16_12345, pr_16_32767, pr_8_16, pr_8_20, pr_8_m2, pr_i_0, pr_i_1, pr_i_m1]
                  exact pr_irT rfl trivial (by first | rfl | (simp only [r9, r0, r1, r2, r3, s1, s2, q0, q1, rc, q3, q4, q5, q6, q7, q8, pr_16_12345, pr_16_32767, pr_8_16, pr_8_20, pr_8_m2, pr_i_0, pr_i_1, pr_i_m1]; done) | (simp [pr_b, pr_16_12345, pr_16_32767, pr_8_16, pr_8_20, pr_8_m2, pr_i_0, pr_i_1, pr_i_m1, *]; done) | (simp_all [pr_b, pr_16_12345, pr_16_32767, pr_8_16, pr_8_20, pr_8_m2, pr_i_0, pr_i_1, pr_i_m1]; done))
          · simp only [ab_cmp, pr_16_12345, pr_16_32767, pr_8_16, pr_8_20, pr_8_m2, pr_i_0, pr_i_1, pr_i_m1] at h16
            first
            | contradiction
            | exact absurd trivial h16
            | exact absurd h16 (by decide)
            | exact absurd (Classical.not_not.mp h16) (by decide)
            | skip
              refine pr_seqT (pc' := 20) 1 rfl ⟨trivial, trivial⟩ ?_
              try simp only [r9, r0, r1, r2, r3, s1, s2, q0, q1, rc, q3, q4, q5, q6, q7, q8, pr_16_12345, pr_16_32767, pr_8_16, pr_8_20, pr_8_m2, pr_i_0, pr_i_1, pr_i_m1]
              exact pr_irT rfl trivial (by exact cp_s hl hv)
    · rw [q] at hp
      rw [q'] at hw
      rw [q, q', if_pos (show (true && true) = true from rfl), nI_clamp (show a < 2 ^ 31 by omega)]
      by_cases z : X.1.2.1.length = 0
      · rw [if_pos z]
        rw [z] at v2
        have v2 : M.1 (tB b) 4 = 0 := v2
        refine pr_seqT (pc' := 4) 3 rfl ⟨⟨⟨trivial, trivial⟩, trivial⟩, trivial⟩ ?_
        try simp only [r9, r0, r1, r2, r3, s1, s2, q0, q1, rc, q3, q4, q5, q6, q7, q8, v2, pr_16_12345, pr_16_32767, pr_8_16, pr_8_20, pr_8_m2, pr_i_0, pr_i_1, pr_i_m1]
        refine pr_csT [_, _, _] rfl rfl rfl rfl rfl (Nat.le_of_ble_eq_true rfl) (Nat.le_of_ble_eq_true rfl) (hp) ?_
        refine pr_ifT rfl (fun h7 => ?_) (fun h7 => ?_)
        · simp only [ab_cmp, pr_16_12345, pr_16_32767, pr_8_16, pr_8_20, pr_8_m2, pr_i_0, pr_i_1, pr_i_m1] at h7
          first
          | contradiction
          | exact absurd trivial h7
          | exact absurd h7 (by decide)
          | exact absurd (Classical.not_not.mp h7) (by decide)
          | skip
            refine pr_seqT (pc' := 20) 1 rfl ⟨trivial, trivial⟩ ?_
            try simp only [r9, r0, r1, r2, r3, s1, s2, q0, q1, rc, q3, q4, q5, q6, q7, q8, v2, pr_16_12345, pr_16_32767, pr_8_16, pr_8_20, pr_8_m2, pr_i_0, pr_i_1, pr_i_m1]
            exact pr_irT rfl trivial (by first | rfl | (simp only [r9, r0, r1, r2, r3, s1, s2, q0, q1, rc, q3, q4, q5, q6, q7, q8, v2, pr_16_12345, pr_16_32767, pr_8_16, pr_8_20, pr_8_m2, pr_i_0, pr_i_1, pr_i_m1]; done) | (simp [pr_b, pr_16_12345, pr_16_32767, pr_8_16, pr_8_20, pr_8_m2, pr_i_0, pr_i_1, pr_i_m1, *]; done) | (simp_all [pr_b, pr_16_12345, pr_16_32767, pr_8_16, pr_8_20, pr_8_m2, pr_i_0, pr_i_1, pr_i_m1]; done))
        · simp only [ab_cmp, pr_16_12345, pr_16_32767, pr_8_16, pr_8_20, pr_8_m2, pr_i_0, pr_i_1, pr_i_m1] at h7
          first
          | contradiction
          | exact absurd trivial h7
          | exact absurd h7 (by decide)
          | exact absurd (Classical.not_not.mp h7) (by decide)
          | skip
            refine pr_seqT (pc' := 13) 3 rfl ⟨⟨⟨trivial, trivial⟩, trivial⟩, trivial⟩ ?_
            try simp only [r9, r0, r1, r2, r3, s1, s2, q0, q1, rc, q3, q4, q5, q6, q7, q8, v2, pr_16_12345, pr_16_32767, pr_8_16, pr_8_20, pr_8_m2, pr_i_0, pr_i_1, pr_i_m1]
            refine pr_csT [_, _, _] rfl rfl rfl rfl rfl (Nat.le_of_ble_eq_true rfl) (Nat.le_of_ble_eq_true rfl) (hw) ?_
            refine pr_ifT rfl (fun h16 => ?_) (fun h16 => ?_)
            · simp only [ab_cmp, pr_16_12345, pr_16_32767, pr_8_16, pr_8_20, pr_8_m2, pr_i_0, pr_i_1, pr_i_m1] at h16
              first
              | contradiction
              | exact absurd trivial h16
              | exact absurd h16 (by decide)
              | exact absurd (Classical.not_not.mp h16) (by decide)
              | skip
                refine pr_seqT (pc' := 28) 3 rfl ⟨⟨⟨trivial, (by first | assumption | (simp only [r9, r0, r1, r2, r3, s1, s2, q0, q1, rc, q3, q4, q5, q6, q7, q8, v2, pr_16_12345, pr_16_32767, pr_8_16, pr_8_20, pr_8_m2, pr_i_0, pr_i_1, pr_i_m1]; first | assumption | decide | exact ⟨by assumption, by assumption⟩ | exact ⟨Or.inl (by assumption), by assumption⟩ | omega) | decide | exact ⟨Or.inl (by assumption), by assumption⟩ | exact ⟨by assumption, by assumption⟩ | omega)⟩, (by first | assumption | (simp only [r9, r0, r1, r2, r3, s1, s2, q0, q1, rc, q3, q4, q5, q6, q7, q8, v2, pr_16_12345, pr_16_32767, pr_8_16, pr_8_20, pr_8_m2, pr_i_0, pr_i_1, pr_i_m1]; first | assumption | decide | exact ⟨by assumption, by assumption⟩ | exact ⟨Or.inl (by assumption), by assumption⟩ | omega) | decide | exact ⟨Or.inl (by assumption), by assumption⟩ | exact ⟨by assumption, by assumption⟩ | omega)⟩, (by first | assumption | (simp only [r9, r0, r1, r2, r3, s1, s2, q0, q1, rc, q3, q4, q5, q6, q7, q8, v2, pr_16_12345, pr_16_32767, pr_8_16, pr_8_20, pr_8_m2, pr_i_0, pr_i_1, pr_i_m1]; first | assumption | decide | exact ⟨by assumption, by assumption⟩ | exact ⟨Or.inl (by assumption), by assumption⟩ | omega) | decide | exact ⟨Or.inl (by assumption), by assumption⟩ | exact ⟨by assumption, by assumption⟩ | omega)⟩ ?_
                try simp only [r9, r0, r1, r2, r3, s1, s2, q0, q1, rc, q3, q4, q5, q6, q7, q8, v2, pr_16_12345, pr_16_32767, pr_8_16, pr_8_20, pr_8_m2, pr_i_0, pr_i_1, pr_i_m1]
                refine pr_ifT rfl (fun h28 => ?_) (fun h28 => ?_)
                · simp only [ab_cmp, pr_16_12345, pr_16_32767, pr_8_16, pr_8_20, pr_8_m2, pr_i_0, pr_i_1, pr_i_m1] at h28
                  first
                  | contradiction
                  | exact absurd trivial h28
                  | exact absurd h28 (by decide)
                  | exact absurd (Classical.not_not.mp h28) (by decide)
                  | skip
                    fail
                · simp only [ab_cmp, pr_16_12345, pr_16_32767, pr_8_16, pr_8_20, pr_8_m2, pr_i_0, pr_i_1, pr_i_m1] at h28
                  first
                  | contradiction
                  | exact absurd trivial h28
                  | exact absurd h28 (by decide)
                  | exact absurd (Classical.not_not.mp h28) (by decide)
                  | skip
                    refine pr_seqT (pc' := 33) 1 rfl ⟨trivial, trivial⟩ ?_
                    try simp only [r9, r0, r1, r2, r3, s1, s2, q0, q1, rc, q3, q4, q5, q6, q7, q8, v2, pr_16_12345, pr_16_32767, pr_8_16, pr_8_20, pr_8_m2, pr_i_0, pr_i_1, pr_i_m1]
                    exact pr_irT rfl trivial (by exact cp_s hl hv)
            · simp only [ab_cmp, pr_16_12345, pr_16_32767, pr_8_16, pr_8_20, pr_8_m2, pr_i_0, pr_i_1, pr_i_m1] at h16
              first
              | contradiction
              | exact absurd trivial h16
              | exact absurd h16 (by decide)
              | exact absurd (Classical.not_not.mp h16) (by decide)
              | skip
                refine pr_seqT (pc' := 20) 1 rfl ⟨trivial, trivial⟩ ?_
                try simp only [r9, r0, r1, r2, r3, s1, s2, q0, q1, rc, q3, q4, q5, q6, q7, q8, v2, pr_16_12345, pr_16_32767, pr_8_16, pr_8_20, pr_8_m2, pr_i_0, pr_i_1, pr_i_m1]
                exact pr_irT rfl trivial (by first | rfl | (simp only [r9, r0, r1, r2, r3, s1, s2, q0, q1, rc, q3, q4, q5, q6, q7, q8, v2, pr_16_12345, pr_16_32767, pr_8_16, pr_8_20, pr_8_m2, pr_i_0, pr_i_1, pr_i_m1]; done) | (simp [pr_b, pr_16_12345, pr_16_32767, pr_8_16, pr_8_20, pr_8_m2, pr_i_0, pr_i_1, pr_i_m1, *]; done) | (simp_all [pr_b, pr_16_12345, pr_16_32767, pr_8_16, pr_8_20, pr_8_m2, pr_i_0, pr_i_1, pr_i_m1]; done))
      · have z' : ¬ nI X.1.2.1.length = 0 := nI_ne (b := 0) z (by omega) (by decide)
        rw [if_neg z]
        have loop : ∀ dd i, i + dd = a → ∀ I : Nat → Nat → Int32, cl_same M.1 I → cs_v I 49 (x_n X + i) (yS X s) (yK X) (xch (x_n X) (x_D X) (fun _ => 0)) (xch (x_n X) (x_W X) (fun _ => 0)) → pr_T pX10_year 54 [some (.ref 1), some (.int s), some (.int (nI a)), some (.int (nI k)), some (.int (yd s i)), some (.int (nI i))] [] h (I, M.2) (cp h M (if nI k = 0 then nI (cnt (fun p => nb (al (yS X s) (yK X) p) p) (x_n X + a)) else nI (cnt (fun p => decide (mk (al (yS X s) (yK X) p) (x_n X + a) = bt1 p)) (x_n X + a)), X)) := by
          intro dd
          induction dd with
          | zero =>
            intro i hi I hs hcv
            obtain rfl : i = a := by omega
            have e1 : nI i ≤ nI i := nI_le (Nat.le_refl _) (by omega)
            rcases (show k = 0 ∨ k = 1 by omega) with rfl | rfl
            · rw [if_pos (show nI 0 = 0 from rfl)]
              refine pr_seqT (pc' := 57) 2 rfl ⟨⟨trivial, trivial⟩, trivial⟩ ?_
              try simp only [r9, r0, r1, r2, r3, s1, s2, q0, q1, rc, q3, q4, q5, q6, q7, q8, pr_16_12345, pr_16_32767, pr_8_16, pr_8_20, pr_8_m2, pr_i_0, pr_i_1, pr_i_m1]
              refine pr_icT rfl (fun h57 => ?_) (fun h57 => ?_)
              · simp only [ab_cmp, pr_16_12345, pr_16_32767, pr_8_16, pr_8_20, pr_8_m2, pr_i_0, pr_i_1, pr_i_m1] at h57
                first
                | contradiction
                | exact absurd trivial h57
                | exact absurd h57 (by decide)
                | exact absurd (Classical.not_not.mp h57) (by decide)
                | exact absurd rfl h57
                | skip
                  refine pr_seqT (pc' := 110) 1 rfl ⟨trivial, trivial⟩ ?_
                  try simp only [r9, r0, r1, r2, r3, s1, s2, q0, q1, rc, q3, q4, q5, q6, q7, q8, pr_16_12345, pr_16_32767, pr_8_16, pr_8_20, pr_8_m2, pr_i_0, pr_i_1, pr_i_m1]
                  refine pr_ifT rfl (fun h110 => ?_) (fun h110 => ?_)
                  · simp only [ab_cmp, pr_16_12345, pr_16_32767, pr_8_16, pr_8_20, pr_8_m2, pr_i_0, pr_i_1, pr_i_m1] at h110
                    first
                    | contradiction
                    | exact absurd trivial h110
                    | exact absurd h110 (by decide)
                    | exact absurd (Classical.not_not.mp h110) (by decide)
                    | exact absurd rfl h110
                    | skip
                      fail
                  · simp only [ab_cmp, pr_16_12345, pr_16_32767, pr_8_16, pr_8_20, pr_8_m2, pr_i_0, pr_i_1, pr_i_m1] at h110
                    first
                    | contradiction
                    | exact absurd trivial h110
                    | exact absurd h110 (by decide)
                    | exact absurd (Classical.not_not.mp h110) (by decide)
                    | exact absurd rfl h110
                    | skip
                      refine pr_seqT (pc' := 117) 2 rfl ⟨⟨trivial, (by first | assumption | (simp only [r9, r0, r1, r2, r3, s1, s2, q0, q1, rc, q3, q4, q5, q6, q7, q8, pr_16_12345, pr_16_32767, pr_8_16, pr_8_20, pr_8_m2, pr_i_0, pr_i_1, pr_i_m1]; first | assumption | decide | exact ⟨by assumption, by assumption⟩ | exact ⟨Or.inl (by assumption), by assumption⟩ | omega) | decide | exact ⟨Or.inl (by assumption), by assumption⟩ | exact ⟨by assumption, by assumption⟩ | omega)⟩, (by first | assumption | (simp only [r9, r0, r1, r2, r3, s1, s2, q0, q1, rc, q3, q4, q5, q6, q7, q8, pr_16_12345, pr_16_32767, pr_8_16, pr_8_20, pr_8_m2, pr_i_0, pr_i_1, pr_i_m1]; first | assumption | decide | exact ⟨by assumption, by assumption⟩ | exact ⟨Or.inl (by assumption), by assumption⟩ | omega) | decide | exact ⟨Or.inl (by assumption), by assumption⟩ | exact ⟨by assumption, by assumption⟩ | omega)⟩ ?_
                      try simp only [r9, r0, r1, r2, r3, s1, s2, q0, q1, rc, q3, q4, q5, q6, q7, q8, pr_16_12345, pr_16_32767, pr_8_16, pr_8_20, pr_8_m2, pr_i_0, pr_i_1, pr_i_m1]
                      refine pr_cvT [] rfl rfl rfl rfl rfl (Nat.le_of_ble_eq_true rfl) (by first | assumption | (simp only [r9, r0, r1, r2, r3, s1, s2, q0, q1, rc, q3, q4, q5, q6, q7, q8, pr_16_12345, pr_16_32767, pr_8_16, pr_8_20, pr_8_m2, pr_i_0, pr_i_1, pr_i_m1]; first | assumption | decide | exact ⟨by assumption, by assumption⟩ | exact ⟨Or.inl (by assumption), by assumption⟩ | omega) | decide | exact ⟨Or.inl (by assumption), by assumption⟩ | exact ⟨by assumption, by assumption⟩ | omega) (Nat.le_of_ble_eq_true rfl) (c_howMany h (I, M.2) hc hcv) ?_
                      refine pr_seqT (pc' := 133) 1 rfl ⟨trivial, trivial⟩ ?_
                      try simp only [r9, r0, r1, r2, r3, s1, s2, q0, q1, rc, q3, q4, q5, q6, q7, q8, pr_16_12345, pr_16_32767, pr_8_16, pr_8_20, pr_8_m2, pr_i_0, pr_i_1, pr_i_m1]
                      exact pr_irT rfl trivial (cp_q hl hv rfl hs)
              · simp only [ab_cmp, pr_16_12345, pr_16_32767, pr_8_16, pr_8_20, pr_8_m2, pr_i_0, pr_i_1, pr_i_m1] at h57
                first
                | contradiction
                | exact absurd trivial h57
                | exact absurd h57 (by decide)
                | exact absurd (Classical.not_not.mp h57) (by decide)
                | exact absurd rfl h57
                | skip
                  fail
            · rw [if_neg (show ¬ nI 1 = 0 by decide), ← bc_mk _ _ (show x_n X + i ≤ 32 by have d2 : x_n X ≤ 8 := d2; omega)]
              refine pr_seqT (pc' := 57) 2 rfl ⟨⟨trivial, trivial⟩, trivial⟩ ?_
              try simp only [r9, r0, r1, r2, r3, s1, s2, q0, q1, rc, q3, q4, q5, q6, q7, q8, pr_16_12345, pr_16_32767, pr_8_16, pr_8_20, pr_8_m2, pr_i_0, pr_i_1, pr_i_m1]
              refine pr_icT rfl (fun h57 => ?_) (fun h57 => ?_)
              · simp only [ab_cmp, pr_16_12345, pr_16_32767, pr_8_16, pr_8_20, pr_8_m2, pr_i_0, pr_i_1, pr_i_m1] at h57
                first
                | contradiction
                | exact absurd trivial h57
                | exact absurd h57 (by decide)
                | exact absurd (Classical.not_not.mp h57) (by decide)
                | skip
                  refine pr_seqT (pc' := 110) 1 rfl ⟨trivial, trivial⟩ ?_
                  try simp only [r9, r0, r1, r2, r3, s1, s2, q0, q1, rc, q3, q4, q5, q6, q7, q8, pr_16_12345, pr_16_32767, pr_8_16, pr_8_20, pr_8_m2, pr_i_0, pr_i_1, pr_i_m1]
                  refine pr_ifT rfl (fun h110 => ?_) (fun h110 => ?_)
                  · simp only [ab_cmp, pr_16_12345, pr_16_32767, pr_8_16, pr_8_20, pr_8_m2, pr_i_0, pr_i_1, pr_i_m1] at h110
                    first
                    | contradiction
                    | exact absurd trivial h110
                    | exact absurd h110 (by decide)
                    | exact absurd (Classical.not_not.mp h110) (by decide)
                    | skip
                      refine pr_seqT (pc' := 127) 2 rfl ⟨⟨trivial, (by first | assumption | (simp only [r9, r0, r1, r2, r3, s1, s2, q0, q1, rc, q3, q4, q5, q6, q7, q8, pr_16_12345, pr_16_32767, pr_8_16, pr_8_20, pr_8_m2, pr_i_0, pr_i_1, pr_i_m1]; first | assumption | decide | exact ⟨by assumption, by assumption⟩ | exact ⟨Or.inl (by assumption), by assumption⟩ | omega) | decide | exact ⟨Or.inl (by assumption), by assumption⟩ | exact ⟨by assumption, by assumption⟩ | omega)⟩, (by first | assumption | (simp only [r9, r0, r1, r2, r3, s1, s2, q0, q1, rc, q3, q4, q5, q6, q7, q8, pr_16_12345, pr_16_32767, pr_8_16, pr_8_20, pr_8_m2, pr_i_0, pr_i_1, pr_i_m1]; first | assumption | decide | exact ⟨by assumption, by assumption⟩ | exact ⟨Or.inl (by assumption), by assumption⟩ | omega) | decide | exact ⟨Or.inl (by assumption), by assumption⟩ | exact ⟨by assumption, by assumption⟩ | omega)⟩ ?_
                      try simp only [r9, r0, r1, r2, r3, s1, s2, q0, q1, rc, q3, q4, q5, q6, q7, q8, pr_16_12345, pr_16_32767, pr_8_16, pr_8_20, pr_8_m2, pr_i_0, pr_i_1, pr_i_m1]
                      refine pr_cvT [] rfl rfl rfl rfl rfl (Nat.le_of_ble_eq_true rfl) (by first | assumption | (simp only [r9, r0, r1, r2, r3, s1, s2, q0, q1, rc, q3, q4, q5, q6, q7, q8, pr_16_12345, pr_16_32767, pr_8_16, pr_8_20, pr_8_m2, pr_i_0, pr_i_1, pr_i_m1]; first | assumption | decide | exact ⟨by assumption, by assumption⟩ | exact ⟨Or.inl (by assumption), by assumption⟩ | omega) | decide | exact ⟨Or.inl (by assumption), by assumption⟩ | exact ⟨by assumption, by assumption⟩ | omega) (Nat.le_of_ble_eq_true rfl) (c_loneOnes h (I, M.2) hc hcv) ?_
                      refine pr_csT [_] rfl rfl rfl rfl rfl (Nat.le_of_ble_eq_true rfl) (Nat.le_of_ble_eq_true rfl) (c_bitCount _ h (I, M.2)) ?_
                      exact pr_irT rfl trivial (cp_q hl hv rfl hs)
                  · simp only [ab_cmp, pr_16_12345, pr_16_32767, pr_8_16, pr_8_20, pr_8_m2, pr_i_0, pr_i_1, pr_i_m1] at h110
                    first
                    | contradiction
                    | exact absurd trivial h110
                    | exact absurd h110 (by decide)
                    | exact absurd (Classical.not_not.mp h110) (by decide)
                    | skip
                      fail
              · simp only [ab_cmp, pr_16_12345, pr_16_32767, pr_8_16, pr_8_20, pr_8_m2, pr_i_0, pr_i_1, pr_i_m1] at h57
                first
                | contradiction
                | exact absurd trivial h57
                | exact absurd h57 (by decide)
                | exact absurd (Classical.not_not.mp h57) (by decide)
                | skip
                  fail
          | succ dd ih =>
            intro i hi I hs hcv
            have v2' : I (tB b) 4 = nI X.1.2.1.length := by rw [hs _ (by omega)]; exact v2
            have e1 : ¬ nI a ≤ nI i := nI_ge (by omega) (by omega)
            have hx : yx X s i < X.1.2.1.length := Nat.mod_lt _ (by omega)
            have hls := c_ls (X := X) (i := yx X s i) h (I, M.2) ht (tl_v_same hs hT) hx
            have h28 : x_n X + i < 28 := by have d2 : x_n X ≤ 8 := d2; omega
            have hac := c_addChild (nI (x_ls X (yx X s i))) h (I, M.2) hc hcv.1 h28
            have hh := ih (i + 1) (by omega) (cs_ap I 49 (x_n X + i) (nI (x_ls X (yx X s i))) 0 0 0) (fun a ha => by rw [cs_ap_far (by omega)]; exact hs a ha) (cs_xch hcv h28)
            rw [← nI_1] at hh
            have ei : ((yd s i * Int32.ofNat 1103515245 + 12345).toUInt32 >>> ((16 : Int32).toUInt32 &&& Int32.toUInt32 31)).toInt32 &&& 32767 = nI (yv (yd s (i + 1))) := yv_u _
            have er : nI (yv (yd s (i + 1))) - nI (yv (yd s (i + 1))) / nI X.1.2.1.length * nI X.1.2.1.length = nI (yx X s i) := nI_rem (by unfold yv; omega) (by omega)
            refine pr_seqT (pc' := 57) 2 rfl ⟨⟨trivial, trivial⟩, trivial⟩ ?_
            try simp only [r9, r0, r1, r2, r3, s1, s2, q0, q1, rc, q3, q4, q5, q6, q7, q8, v2', ei, er, pr_16_12345, pr_16_32767, pr_8_16, pr_8_20, pr_8_m2, pr_i_0, pr_i_1, pr_i_m1]
            refine pr_icT rfl (fun h57 => ?_) (fun h57 => ?_)
            · simp only [ab_cmp, pr_16_12345, pr_16_32767, pr_8_16, pr_8_20, pr_8_m2, pr_i_0, pr_i_1, pr_i_m1] at h57
              first
              | contradiction
              | exact absurd trivial h57
              | exact absurd h57 (by decide)
              | exact absurd (Classical.not_not.mp h57) (by decide)
              | skip
                fail
            · simp only [ab_cmp, pr_16_12345, pr_16_32767, pr_8_16, pr_8_20, pr_8_m2, pr_i_0, pr_i_1, pr_i_m1] at h57
              first
              | contradiction
              | exact absurd trivial h57
              | exact absurd h57 (by decide)
              | exact absurd (Classical.not_not.mp h57) (by decide)
              | skip
                refine pr_seqT (pc' := 97) 19 rfl ⟨⟨⟨⟨⟨⟨⟨⟨⟨⟨⟨⟨⟨⟨⟨⟨⟨⟨⟨trivial, trivial⟩, trivial⟩, trivial⟩, trivial⟩, trivial⟩, trivial⟩, (by first | assumption | (simp only [r9, r0, r1, r2, r3, s1, s2, q0, q1, rc, q3, q4, q5, q6, q7, q8, v2', ei, er, pr_16_12345, pr_16_32767, pr_8_16, pr_8_20, pr_8_m2, pr_i_0, pr_i_1, pr_i_m1]; first | assumption | decide | exact ⟨by assumption, by assumption⟩ | exact ⟨Or.inl (by assumption), by assumption⟩ | omega) | decide | exact ⟨Or.inl (by assumption), by assumption⟩ | exact ⟨by assumption, by assumption⟩ | omega)⟩, (by first | assumption | (simp only [r9, r0, r1, r2, r3, s1, s2, q0, q1, rc, q3, q4, q5, q6, q7, q8, v2', ei, er, pr_16_12345, pr_16_32767, pr_8_16, pr_8_20, pr_8_m2, pr_i_0, pr_i_1, pr_i_m1]; first | assumption | decide | exact ⟨by assumption, by assumption⟩ | exact ⟨Or.inl (by assumption), by assumption⟩ | omega) | decide | exact ⟨Or.inl (by assumption), by assumption⟩ | exact ⟨by assumption, by assumption⟩ | omega)⟩, (by first | assumption | (simp only [r9, r0, r1, r2, r3, s1, s2, q0, q1, rc, q3, q4, q5, q6, q7, q8, v2', ei, er, pr_16_12345, pr_16_32767, pr_8_16, pr_8_20, pr_8_m2, pr_i_0, pr_i_1, pr_i_m1]; first | assumption | decide | exact ⟨by assumption, by assumption⟩ | exact ⟨Or.inl (by assumption), by assumption⟩ | omega) | decide | exact ⟨Or.inl (by assumption), by assumption⟩ | exact ⟨by assumption, by assumption⟩ | omega)⟩, (by first | assumption | (simp only [r9, r0, r1, r2, r3, s1, s2, q0, q1, rc, q3, q4, q5, q6, q7, q8, v2', ei, er, pr_16_12345, pr_16_32767, pr_8_16, pr_8_20, pr_8_m2, pr_i_0, pr_i_1, pr_i_m1]; first | assumption | decide | exact ⟨by assumption, by assumption⟩ | exact ⟨Or.inl (by assumption), by assumption⟩ | omega) | decide | exact ⟨Or.inl (by assumption), by assumption⟩ | exact ⟨by assumption, by assumption⟩ | omega)⟩, trivial⟩, trivial⟩, trivial⟩, trivial⟩, trivial⟩, (by first | assumption | (simp only [r9, r0, r1, r2, r3, s1, s2, q0, q1, rc, q3, q4, q5, q6, q7, q8, v2', ei, er, pr_16_12345, pr_16_32767, pr_8_16, pr_8_20, pr_8_m2, pr_i_0, pr_i_1, pr_i_m1]; first | assumption | decide | exact ⟨by assumption, by assumption⟩ | exact ⟨Or.inl (by assumption), by assumption⟩ | omega) | decide | exact ⟨Or.inl (by assumption), by assumption⟩ | exact ⟨by assumption, by assumption⟩ | omega)⟩, (by first | assumption | (simp only [r9, r0, r1, r2, r3, s1, s2, q0, q1, rc, q3, q4, q5, q6, q7, q8, v2', ei, er, pr_16_12345, pr_16_32767, pr_8_16, pr_8_20, pr_8_m2, pr_i_0, pr_i_1, pr_i_m1]; first | assumption | decide | exact ⟨by assumption, by assumption⟩ | exact ⟨Or.inl (by assumption), by assumption⟩ | omega) | decide | exact ⟨Or.inl (by assumption), by assumption⟩ | exact ⟨by assumption, by assumption⟩ | omega)⟩, (by first | assumption | (simp only [r9, r0, r1, r2, r3, s1, s2, q0, q1, rc, q3, q4, q5, q6, q7, q8, v2', ei, er, pr_16_12345, pr_16_32767, pr_8_16, pr_8_20, pr_8_m2, pr_i_0, pr_i_1, pr_i_m1]; first | assumption | decide | exact ⟨by assumption, by assumption⟩ | exact ⟨Or.inl (by assumption), by assumption⟩ | omega) | decide | exact ⟨Or.inl (by assumption), by assumption⟩ | exact ⟨by assumption, by assumption⟩ | omega)⟩, (by first | assumption | (simp only [r9, r0, r1, r2, r3, s1, s2, q0, q1, rc, q3, q4, q5, q6, q7, q8, v2', ei, er, pr_16_12345, pr_16_32767, pr_8_16, pr_8_20, pr_8_m2, pr_i_0, pr_i_1, pr_i_m1]; first | assumption | decide | exact ⟨by assumption, by assumption⟩ | exact ⟨Or.inl (by assumption), by assumption⟩ | omega) | decide | exact ⟨Or.inl (by assumption), by assumption⟩ | exact ⟨by assumption, by assumption⟩ | omega)⟩ ?_
                try simp only [r9, r0, r1, r2, r3, s1, s2, q0, q1, rc, q3, q4, q5, q6, q7, q8, v2', ei, er, pr_16_12345, pr_16_32767, pr_8_16, pr_8_20, pr_8_m2, pr_i_0, pr_i_1, pr_i_m1]
                refine pr_cvT [_] rfl rfl rfl rfl rfl (Nat.le_of_ble_eq_true rfl) (by first | assumption | (simp only [r9, r0, r1, r2, r3, s1, s2, q0, q1, rc, q3, q4, q5, q6, q7, q8, v2', ei, er, pr_16_12345, pr_16_32767, pr_8_16, pr_8_20, pr_8_m2, pr_i_0, pr_i_1, pr_i_m1]; first | assumption | decide | exact ⟨by assumption, by assumption⟩ | exact ⟨Or.inl (by assumption), by assumption⟩ | omega) | decide | exact ⟨Or.inl (by assumption), by assumption⟩ | exact ⟨by assumption, by assumption⟩ | omega) (Nat.le_of_ble_eq_true rfl) (hls) ?_
                refine pr_cvT [_] rfl rfl rfl rfl rfl (Nat.le_of_ble_eq_true rfl) (by first | assumption | (simp only [r9, r0, r1, r2, r3, s1, s2, q0, q1, rc, q3, q4, q5, q6, q7, q8, v2', ei, er, pr_16_12345, pr_16_32767, pr_8_16, pr_8_20, pr_8_m2, pr_i_0, pr_i_1, pr_i_m1]; first | assumption | decide | exact ⟨by assumption, by assumption⟩ | exact ⟨Or.inl (by assumption), by assumption⟩ | omega) | decide | exact ⟨Or.inl (by assumption), by assumption⟩ | exact ⟨by assumption, by assumption⟩ | omega) (Nat.le_of_ble_eq_true rfl) (hac) ?_
                refine pr_seqT (pc' := 54) 2 rfl ⟨⟨trivial, trivial⟩, trivial⟩ ?_
                try simp only [r9, r0, r1, r2, r3, s1, s2, q0, q1, rc, q3, q4, q5, q6, q7, q8, v2', ei, er, pr_16_12345, pr_16_32767, pr_8_16, pr_8_20, pr_8_m2, pr_i_0, pr_i_1, pr_i_m1]
                exact hh
        refine pr_seqT (pc' := 4) 3 rfl ⟨⟨⟨trivial, trivial⟩, trivial⟩, trivial⟩ ?_
        try simp only [r9, r0, r1, r2, r3, s1, s2, q0, q1, rc, q3, q4, q5, q6, q7, q8, v2, pr_16_12345, pr_16_32767, pr_8_16, pr_8_20, pr_8_m2, pr_i_0, pr_i_1, pr_i_m1]
        refine pr_csT [_, _, _] rfl rfl rfl rfl rfl (Nat.le_of_ble_eq_true rfl) (Nat.le_of_ble_eq_true rfl) (hp) ?_
        refine pr_ifT rfl (fun h7 => ?_) (fun h7 => ?_)
        · simp only [ab_cmp, pr_16_12345, pr_16_32767, pr_8_16, pr_8_20, pr_8_m2, pr_i_0, pr_i_1, pr_i_m1] at h7
          first
          | contradiction
          | exact absurd trivial h7
          | exact absurd h7 (by decide)
          | exact absurd (Classical.not_not.mp h7) (by decide)
          | skip
            refine pr_seqT (pc' := 20) 1 rfl ⟨trivial, trivial⟩ ?_
            try simp only [r9, r0, r1, r2, r3, s1, s2, q0, q1, rc, q3, q4, q5, q6, q7, q8, v2, pr_16_12345, pr_16_32767, pr_8_16, pr_8_20, pr_8_m2, pr_i_0, pr_i_1, pr_i_m1]
            exact pr_irT rfl trivial (by first | rfl | (simp only [r9, r0, r1, r2, r3, s1, s2, q0, q1, rc, q3, q4, q5, q6, q7, q8, v2, pr_16_12345, pr_16_32767, pr_8_16, pr_8_20, pr_8_m2, pr_i_0, pr_i_1, pr_i_m1]; done) | (simp [pr_b, pr_16_12345, pr_16_32767, pr_8_16, pr_8_20, pr_8_m2, pr_i_0, pr_i_1, pr_i_m1, *]; done) | (simp_all [pr_b, pr_16_12345, pr_16_32767, pr_8_16, pr_8_20, pr_8_m2, pr_i_0, pr_i_1, pr_i_m1]; done))
        · simp only [ab_cmp, pr_16_12345, pr_16_32767, pr_8_16, pr_8_20, pr_8_m2, pr_i_0, pr_i_1, pr_i_m1] at h7
          first
          | contradiction
          | exact absurd trivial h7
          | exact absurd h7 (by decide)
          | exact absurd (Classical.not_not.mp h7) (by decide)
          | skip
            refine pr_seqT (pc' := 13) 3 rfl ⟨⟨⟨trivial, trivial⟩, trivial⟩, trivial⟩ ?_
            try simp only [r9, r0, r1, r2, r3, s1, s2, q0, q1, rc, q3, q4, q5, q6, q7, q8, v2, pr_16_12345, pr_16_32767, pr_8_16, pr_8_20, pr_8_m2, pr_i_0, pr_i_1, pr_i_m1]
            refine pr_csT [_, _, _] rfl rfl rfl rfl rfl (Nat.le_of_ble_eq_true rfl) (Nat.le_of_ble_eq_true rfl) (hw) ?_
            refine pr_ifT rfl (fun h16 => ?_) (fun h16 => ?_)
            · simp only [ab_cmp, pr_16_12345, pr_16_32767, pr_8_16, pr_8_20, pr_8_m2, pr_i_0, pr_i_1, pr_i_m1] at h16
              first
              | contradiction
              | exact absurd trivial h16
              | exact absurd h16 (by decide)
              | exact absurd (Classical.not_not.mp h16) (by decide)
              | skip
                refine pr_seqT (pc' := 28) 3 rfl ⟨⟨⟨trivial, (by first | assumption | (simp only [r9, r0, r1, r2, r3, s1, s2, q0, q1, rc, q3, q4, q5, q6, q7, q8, v2, pr_16_12345, pr_16_32767, pr_8_16, pr_8_20, pr_8_m2, pr_i_0, pr_i_1, pr_i_m1]; first | assumption | decide | exact ⟨by assumption, by assumption⟩ | exact ⟨Or.inl (by assumption), by assumption⟩ | omega) | decide | exact ⟨Or.inl (by assumption), by assumption⟩ | exact ⟨by assumption, by assumption⟩ | omega)⟩, (by first | assumption | (simp only [r9, r0, r1, r2, r3, s1, s2, q0, q1, rc, q3, q4, q5, q6, q7, q8, v2, pr_16_12345, pr_16_32767, pr_8_16, pr_8_20, pr_8_m2, pr_i_0, pr_i_1, pr_i_m1]; first | assumption | decide | exact ⟨by assumption, by assumption⟩ | exact ⟨Or.inl (by assumption), by assumption⟩ | omega) | decide | exact ⟨Or.inl (by assumption), by assumption⟩ | exact ⟨by assumption, by assumption⟩ | omega)⟩, (by first | assumption | (simp only [r9, r0, r1, r2, r3, s1, s2, q0, q1, rc, q3, q4, q5, q6, q7, q8, v2, pr_16_12345, pr_16_32767, pr_8_16, pr_8_20, pr_8_m2, pr_i_0, pr_i_1, pr_i_m1]; first | assumption | decide | exact ⟨by assumption, by assumption⟩ | exact ⟨Or.inl (by assumption), by assumption⟩ | omega) | decide | exact ⟨Or.inl (by assumption), by assumption⟩ | exact ⟨by assumption, by assumption⟩ | omega)⟩ ?_
                try simp only [r9, r0, r1, r2, r3, s1, s2, q0, q1, rc, q3, q4, q5, q6, q7, q8, v2, pr_16_12345, pr_16_32767, pr_8_16, pr_8_20, pr_8_m2, pr_i_0, pr_i_1, pr_i_m1]
                refine pr_ifT rfl (fun h28 => ?_) (fun h28 => ?_)
                · simp only [ab_cmp, pr_16_12345, pr_16_32767, pr_8_16, pr_8_20, pr_8_m2, pr_i_0, pr_i_1, pr_i_m1] at h28
                  first
                  | contradiction
                  | exact absurd trivial h28
                  | exact absurd h28 (by decide)
                  | exact absurd (Classical.not_not.mp h28) (by decide)
                  | skip
                    refine pr_seqT (pc' := 45) 5 rfl ⟨⟨⟨⟨⟨trivial, (by first | assumption | (simp only [r9, r0, r1, r2, r3, s1, s2, q0, q1, rc, q3, q4, q5, q6, q7, q8, v2, pr_16_12345, pr_16_32767, pr_8_16, pr_8_20, pr_8_m2, pr_i_0, pr_i_1, pr_i_m1]; first | assumption | decide | exact ⟨by assumption, by assumption⟩ | exact ⟨Or.inl (by assumption), by assumption⟩ | omega) | decide | exact ⟨Or.inl (by assumption), by assumption⟩ | exact ⟨by assumption, by assumption⟩ | omega)⟩, (by first | assumption | (simp only [r9, r0, r1, r2, r3, s1, s2, q0, q1, rc, q3, q4, q5, q6, q7, q8, v2, pr_16_12345, pr_16_32767, pr_8_16, pr_8_20, pr_8_m2, pr_i_0, pr_i_1, pr_i_m1]; first | assumption | decide | exact ⟨by assumption, by assumption⟩ | exact ⟨Or.inl (by assumption), by assumption⟩ | omega) | decide | exact ⟨Or.inl (by assumption), by assumption⟩ | exact ⟨by assumption, by assumption⟩ | omega)⟩, (by first | assumption | (simp only [r9, r0, r1, r2, r3, s1, s2, q0, q1, rc, q3, q4, q5, q6, q7, q8, v2, pr_16_12345, pr_16_32767, pr_8_16, pr_8_20, pr_8_m2, pr_i_0, pr_i_1, pr_i_m1]; first | assumption | decide | exact ⟨by assumption, by assumption⟩ | exact ⟨Or.inl (by assumption), by assumption⟩ | omega) | decide | exact ⟨Or.inl (by assumption), by assumption⟩ | exact ⟨by assumption, by assumption⟩ | omega)⟩, (by first | assumption | (simp only [r9, r0, r1, r2, r3, s1, s2, q0, q1, rc, q3, q4, q5, q6, q7, q8, v2, pr_16_12345, pr_16_32767, pr_8_16, pr_8_20, pr_8_m2, pr_i_0, pr_i_1, pr_i_m1]; first | assumption | decide | exact ⟨by assumption, by assumption⟩ | exact ⟨Or.inl (by assumption), by assumption⟩ | omega) | decide | exact ⟨Or.inl (by assumption), by assumption⟩ | exact ⟨by assumption, by assumption⟩ | omega)⟩, (by first | assumption | (simp only [r9, r0, r1, r2, r3, s1, s2, q0, q1, rc, q3, q4, q5, q6, q7, q8, v2, pr_16_12345, pr_16_32767, pr_8_16, pr_8_20, pr_8_m2, pr_i_0, pr_i_1, pr_i_m1]; first | assumption | decide | exact ⟨by assumption, by assumption⟩ | exact ⟨Or.inl (by assumption), by assumption⟩ | omega) | decide | exact ⟨Or.inl (by assumption), by assumption⟩ | exact ⟨by assumption, by assumption⟩ | omega)⟩ ?_
                    try simp only [r9, r0, r1, r2, r3, s1, s2, q0, q1, rc, q3, q4, q5, q6, q7, q8, v2, pr_16_12345, pr_16_32767, pr_8_16, pr_8_20, pr_8_m2, pr_i_0, pr_i_1, pr_i_m1]
                    refine pr_cvX [_] rfl rfl rfl rfl rfl (Nat.le_of_ble_eq_true rfl) (by first | assumption | (simp only [r9, r0, r1, r2, r3, s1, s2, q0, q1, rc, q3, q4, q5, q6, q7, q8, v2, pr_16_12345, pr_16_32767, pr_8_16, pr_8_20, pr_8_m2, pr_i_0, pr_i_1, pr_i_m1]; first | assumption | decide | exact ⟨by assumption, by assumption⟩ | exact ⟨Or.inl (by assumption), by assumption⟩ | omega) | decide | exact ⟨Or.inl (by assumption), by assumption⟩ | exact ⟨by assumption, by assumption⟩ | omega) (Nat.le_of_ble_eq_true rfl) (c_take h M hc hg hb hd) (fun v45 M45 q45 => ?_)
                    obtain ⟨rfl, e2, e3, e4⟩ := q45
                    obtain ⟨I1, Z1⟩ := M45
                    dsimp only at e2 e3 e4
                    subst e2
                    refine pr_seqT (pc' := 54) 4 rfl ⟨⟨⟨⟨trivial, trivial⟩, trivial⟩, trivial⟩, trivial⟩ ?_
                    try simp only [r9, r0, r1, r2, r3, s1, s2, q0, q1, rc, q3, q4, q5, q6, q7, q8, v2, pr_16_12345, pr_16_32767, pr_8_16, pr_8_20, pr_8_m2, pr_i_0, pr_i_1, pr_i_m1]
                    exact loop a 0 (by omega) I1 (cs_same e4) (cs_xch0 _ e3)
                · simp only [ab_cmp, pr_16_12345, pr_16_32767, pr_8_16, pr_8_20, pr_8_m2, pr_i_0, pr_i_1, pr_i_m1] at h28
                  first
                  | contradiction
                  | exact absurd trivial h28
                  | exact absurd h28 (by decide)
                  | exact absurd (Classical.not_not.mp h28) (by decide)
                  | skip
                    refine pr_seqT (pc' := 33) 1 rfl ⟨trivial, trivial⟩ ?_
                    try simp only [r9, r0, r1, r2, r3, s1, s2, q0, q1, rc, q3, q4, q5, q6, q7, q8, v2, pr_16_12345, pr_16_32767, pr_8_16, pr_8_20, pr_8_m2, pr_i_0, pr_i_1, pr_i_m1]
                    exact pr_irT rfl trivial (by first | rfl | (simp only [r9, r0, r1, r2, r3, s1, s2, q0, q1, rc, q3, q4, q5, q6, q7, q8, v2, pr_16_12345, pr_16_32767, pr_8_16, pr_8_20, pr_8_m2, pr_i_0, pr_i_1, pr_i_m1]; done) | (simp [pr_b, pr_16_12345, pr_16_32767, pr_8_16, pr_8_20, pr_8_m2, pr_i_0, pr_i_1, pr_i_m1, *]; done) | (simp_all [pr_b, pr_16_12345, pr_16_32767, pr_8_16, pr_8_20, pr_8_m2, pr_i_0, pr_i_1, pr_i_m1]; done))
            · simp only [ab_cmp, pr_16_12345, pr_16_32767, pr_8_16, pr_8_20, pr_8_m2, pr_i_0, pr_i_1, pr_i_m1] at h16
              first
              | contradiction
              | exact absurd trivial h16
              | exact absurd h16 (by decide)
              | exact absurd (Classical.not_not.mp h16) (by decide)
              | skip
                refine pr_seqT (pc' := 20) 1 rfl ⟨trivial, trivial⟩ ?_
                try simp only [r9, r0, r1, r2, r3, s1, s2, q0, q1, rc, q3, q4, q5, q6, q7, q8, v2, pr_16_12345, pr_16_32767, pr_8_16, pr_8_20, pr_8_m2, pr_i_0, pr_i_1, pr_i_m1]
                exact pr_irT rfl trivial (by first | rfl | (simp only [r9, r0, r1, r2, r3, s1, s2, q0, q1, rc, q3, q4, q5, q6, q7, q8, v2, pr_16_12345, pr_16_32767, pr_8_16, pr_8_20, pr_8_m2, pr_i_0, pr_i_1, pr_i_m1]; done) | (simp [pr_b, pr_16_12345, pr_16_32767, pr_8_16, pr_8_20, pr_8_m2, pr_i_0, pr_i_1, pr_i_m1, *]; done) | (simp_all [pr_b, pr_16_12345, pr_16_32767, pr_8_16, pr_8_20, pr_8_m2, pr_i_0, pr_i_1, pr_i_m1]; done))
