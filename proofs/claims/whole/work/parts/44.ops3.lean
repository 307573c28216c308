
/-! ===== the class's operations, on: birth, images, sheets, the tape ===== -/
theorem ld_push {I I' : Nat → Nat → Int32} {g : Nat} {d : Ld} {q : Pn} (hv : ld_v I g d) (h8 : d.2.1.length < 8) (hf : ∀ a, g < a → a < g + 27 → (a < g + 3 + 3 * d.2.1.length ∨ g + 3 + 3 * d.2.1.length + 3 ≤ a) → I' a = I a) (h2 : I' g 2 = nI (d.2.1.length + 1)) (h3 : I' g 3 = I g 3) (h4 : I' g 4 = I g 4) (hq : on_v I' (g + 3 + 3 * d.2.1.length) q) : ld_v I' g (d.1, d.2.1 ++ [q], d.2.2) := by
  obtain ⟨d1, d2, d3, d4, d5, d6, d7, d8⟩ := hv
  refine ⟨?_, ?_, by rw [h3]; exact d3, d4, by rw [h4]; exact d5, d6, fun l hl => by rw [hf (g + 1) (by omega) (by omega) (by omega)]; exact d7 l hl, fun p' q' hq' => ?_⟩
  · show I' g 2 = nI (d.2.1 ++ [q]).length
    rw [List.length_append]; exact h2
  · show (d.2.1 ++ [q]).length ≤ 8
    rw [List.length_append]
    simp only [List.length_singleton]
    omega
  · have hq' : (d.2.1 ++ [q])[p']? = some q' := hq'
    by_cases hi : p' < d.2.1.length
    · rw [List.getElem?_append_left hi] at hq'
      exact on_v_congr (hf _ (by omega) (by omega) (by omega)) (hf _ (by omega) (by omega) (by omega)) (hf _ (by omega) (by omega) (by omega)) (d8 p' q' hq')
    · rw [List.getElem?_append_right (by omega)] at hq'
      have hi2 : p' = d.2.1.length := by
        have := (List.getElem?_eq_some_iff.mp hq').1
        simp only [List.length_singleton] at this
        omega
      subst hi2
      rw [Nat.sub_self] at hq'
      cases hq'
      exact hq
theorem x_ln_at {X : St} {j : Nat} (hj : j < X.1.2.1.length) : X.1.2.1[j]? = some (x_ln X j) := by
  unfold x_ln
  rw [List.getD_eq_getElem?_getD, List.getElem?_eq_getElem hj]
  rfl
theorem p_bear {b : Bool} {X : St} (x : Int32) (h : ab_H) (M : ab_M) (hl : Lay h M.2.2 b) (hv : cl_v M.1 b X) : pr_X pX10_bear [.ref 1, .int x] h M (cp h M (f_bear X x)) := by
  obtain ⟨k1, q0, q1, rc, q3, q4, q5, q6, q7, q8, r9⟩ := id hl.1
  have ht := ly_told hl
  obtain ⟨t0, t1, r0, r1, r2, r3, hg, ⟨ka, kb⟩, ⟨kc, kd⟩, ⟨ke, kf⟩, hnm⟩ := id ht
  obtain ⟨g0, g1, s1, s2, m1, m2, ⟨m3, m4⟩, hon⟩ := id hg
  obtain ⟨hT, hIm, hSh, hTp, hFa, hTo⟩ := id hv
  obtain ⟨hd, v2, v3, v4, v5, v6, v7⟩ := id hT
  obtain ⟨d1, d2, d3, d4, d5, d6, d7, d8⟩ := id hd
  have b0 := tB_ne b
  have hc := hl.2.2.2.2.2.1
  have hb : 49 + 5 < tB b + 1 ∨ tB b + 1 + 27 ≤ 49 := by cases b <;> decide
  have hb2 : 63 < tB b ∧ tB b + 43 ≤ 110 ∨ 5 < tB b ∧ tB b + 43 ≤ 49 := by cases b <;> decide
  have c1 := hc.2.1
  unfold f_bear
  have hp := c_lists x h M t0 t1 v2
  rcases pr_ix x (show X.1.2.1.length ≤ 1000000 by omega) with q | ⟨j, hj, rfl, q⟩
  · rw [q] at hp
    rw [show ixb x X.1.2.1.length = false from q]
    refine pr_seqT (pc' := 5) 3 rfl ⟨⟨⟨trivial, (by first | assumption | (simp only [r9, r0, r1, r2, r3, s1, s2, q0, q1, rc, q3, q4, q5, q6, q7, q8, pr_8_8, pr_8_m3, pr_i_0, pr_i_1, pr_i_m1]; first | assumption | decide | exact ⟨by assumption, by assumption⟩ | exact ⟨Or.inl (by assumption), by assumption⟩ | omega) | decide | exact ⟨Or.inl (by assumption), by assumption⟩ | exact ⟨by assumption, by assumption⟩ | omega)⟩, (by first | assumption | (simp only [r9, r0, r1, r2, r3, s1, s2, q0, q1, rc, q3, q4, q5, q6, q7, q8, pr_8_8, pr_8_m3, pr_i_0, pr_i_1, pr_i_m1]; first | assumption | decide | exact ⟨by assumption, by assumption⟩ | exact ⟨Or.inl (by assumption), by assumption⟩ | omega) | decide | exact ⟨Or.inl (by assumption), by assumption⟩ | exact ⟨by assumption, by assumption⟩ | omega)⟩, trivial⟩ ?_
    try simp only [r9, r0, r1, r2, r3, s1, s2, q0, q1, rc, q3, q4, q5, q6, q7, q8, pr_8_8, pr_8_m3, pr_i_0, pr_i_1, pr_i_m1]
    refine pr_cvT [_] rfl rfl rfl rfl rfl (Nat.le_of_ble_eq_true rfl) (by first | assumption | (simp only [r9, r0, r1, r2, r3, s1, s2, q0, q1, rc, q3, q4, q5, q6, q7, q8, pr_8_8, pr_8_m3, pr_i_0, pr_i_1, pr_i_m1]; first | assumption | decide | exact ⟨by assumption, by assumption⟩ | exact ⟨Or.inl (by assumption), by assumption⟩ | omega) | decide | exact ⟨Or.inl (by assumption), by assumption⟩ | exact ⟨by assumption, by assumption⟩ | omega) (Nat.le_of_ble_eq_true rfl) (hp) ?_
    refine pr_ifT rfl (fun h8 => ?_) (fun h8 => ?_)
    · simp only [ab_cmp, pr_8_8, pr_8_m3, pr_i_0, pr_i_1, pr_i_m1] at h8
      first
      | contradiction
      | exact absurd trivial h8
      | exact absurd h8 (by decide)
      | exact absurd (Classical.not_not.mp h8) (by decide)
      | skip
        refine pr_seqT (pc' := 27) 7 rfl ⟨⟨⟨⟨⟨⟨⟨trivial, (by first | assumption | (simp only [r9, r0, r1, r2, r3, s1, s2, q0, q1, rc, q3, q4, q5, q6, q7, q8, pr_8_8, pr_8_m3, pr_i_0, pr_i_1, pr_i_m1]; first | assumption | decide | exact ⟨by assumption, by assumption⟩ | exact ⟨Or.inl (by assumption), by assumption⟩ | omega) | decide | exact ⟨Or.inl (by assumption), by assumption⟩ | exact ⟨by assumption, by assumption⟩ | omega)⟩, (by first | assumption | (simp only [r9, r0, r1, r2, r3, s1, s2, q0, q1, rc, q3, q4, q5, q6, q7, q8, pr_8_8, pr_8_m3, pr_i_0, pr_i_1, pr_i_m1]; first | assumption | decide | exact ⟨by assumption, by assumption⟩ | exact ⟨Or.inl (by assumption), by assumption⟩ | omega) | decide | exact ⟨Or.inl (by assumption), by assumption⟩ | exact ⟨by assumption, by assumption⟩ | omega)⟩, (by first | assumption | (simp only [r9, r0, r1, r2, r3, s1, s2, q0, q1, rc, q3, q4, q5, q6, q7, q8, pr_8_8, pr_8_m3, pr_i_0, pr_i_1, pr_i_m1]; first | assumption | decide | exact ⟨by assumption, by assumption⟩ | exact ⟨Or.inl (by assumption), by assumption⟩ | omega) | decide | exact ⟨Or.inl (by assumption), by assumption⟩ | exact ⟨by assumption, by assumption⟩ | omega)⟩, (by first | assumption | (simp only [r9, r0, r1, r2, r3, s1, s2, q0, q1, rc, q3, q4, q5, q6, q7, q8, pr_8_8, pr_8_m3, pr_i_0, pr_i_1, pr_i_m1]; first | assumption | decide | exact ⟨by assumption, by assumption⟩ | exact ⟨Or.inl (by assumption), by assumption⟩ | omega) | decide | exact ⟨Or.inl (by assumption), by assumption⟩ | exact ⟨by assumption, by assumption⟩ | omega)⟩, (by first | assumption | (simp only [r9, r0, r1, r2, r3, s1, s2, q0, q1, rc, q3, q4, q5, q6, q7, q8, pr_8_8, pr_8_m3, pr_i_0, pr_i_1, pr_i_m1]; first | assumption | decide | exact ⟨by assumption, by assumption⟩ | exact ⟨Or.inl (by assumption), by assumption⟩ | omega) | decide | exact ⟨Or.inl (by assumption), by assumption⟩ | exact ⟨by assumption, by assumption⟩ | omega)⟩, (by first | assumption | (simp only [r9, r0, r1, r2, r3, s1, s2, q0, q1, rc, q3, q4, q5, q6, q7, q8, pr_8_8, pr_8_m3, pr_i_0, pr_i_1, pr_i_m1]; first | assumption | decide | exact ⟨by assumption, by assumption⟩ | exact ⟨Or.inl (by assumption), by assumption⟩ | omega) | decide | exact ⟨Or.inl (by assumption), by assumption⟩ | exact ⟨by assumption, by assumption⟩ | omega)⟩, trivial⟩ ?_
        try simp only [r9, r0, r1, r2, r3, s1, s2, q0, q1, rc, q3, q4, q5, q6, q7, q8, pr_8_8, pr_8_m3, pr_i_0, pr_i_1, pr_i_m1]
        refine pr_icT rfl (fun h27 => ?_) (fun h27 => ?_)
        · simp only [ab_cmp, pr_8_8, pr_8_m3, pr_i_0, pr_i_1, pr_i_m1] at h27
          first
          | contradiction
          | exact absurd trivial h27
          | exact absurd h27 (by decide)
          | exact absurd (Classical.not_not.mp h27) (by decide)
          | skip
            refine pr_seqT (pc' := 71) 22 rfl ⟨⟨⟨⟨⟨⟨⟨⟨⟨⟨⟨⟨⟨⟨⟨⟨⟨⟨⟨⟨⟨⟨trivial, (by first | assumption | (simp only [r9, r0, r1, r2, r3, s1, s2, q0, q1, rc, q3, q4, q5, q6, q7, q8, pr_8_8, pr_8_m3, pr_i_0, pr_i_1, pr_i_m1]; first | assumption | decide | exact ⟨by assumption, by assumption⟩ | exact ⟨Or.inl (by assumption), by assumption⟩ | omega) | decide | exact ⟨Or.inl (by assumption), by assumption⟩ | exact ⟨by assumption, by assumption⟩ | omega)⟩, (by first | assumption | (simp only [r9, r0, r1, r2, r3, s1, s2, q0, q1, rc, q3, q4, q5, q6, q7, q8, pr_8_8, pr_8_m3, pr_i_0, pr_i_1, pr_i_m1]; first | assumption | decide | exact ⟨by assumption, by assumption⟩ | exact ⟨Or.inl (by assumption), by assumption⟩ | omega) | decide | exact ⟨Or.inl (by assumption), by assumption⟩ | exact ⟨by assumption, by assumption⟩ | omega)⟩, (by first | assumption | (simp only [r9, r0, r1, r2, r3, s1, s2, q0, q1, rc, q3, q4, q5, q6, q7, q8, pr_8_8, pr_8_m3, pr_i_0, pr_i_1, pr_i_m1]; first | assumption | decide | exact ⟨by assumption, by assumption⟩ | exact ⟨Or.inl (by assumption), by assumption⟩ | omega) | decide | exact ⟨Or.inl (by assumption), by assumption⟩ | exact ⟨by assumption, by assumption⟩ | omega)⟩, (by first | assumption | (simp only [r9, r0, r1, r2, r3, s1, s2, q0, q1, rc, q3, q4, q5, q6, q7, q8, pr_8_8, pr_8_m3, pr_i_0, pr_i_1, pr_i_m1]; first | assumption | decide | exact ⟨by assumption, by assumption⟩ | exact ⟨Or.inl (by assumption), by assumption⟩ | omega) | decide | exact ⟨Or.inl (by assumption), by assumption⟩ | exact ⟨by assumption, by assumption⟩ | omega)⟩, (by first | assumption | (simp only [r9, r0, r1, r2, r3, s1, s2, q0, q1, rc, q3, q4, q5, q6, q7, q8, pr_8_8, pr_8_m3, pr_i_0, pr_i_1, pr_i_m1]; first | assumption | decide | exact ⟨by assumption, by assumption⟩ | exact ⟨Or.inl (by assumption), by assumption⟩ | omega) | decide | exact ⟨Or.inl (by assumption), by assumption⟩ | exact ⟨by assumption, by assumption⟩ | omega)⟩, (by first | assumption | (simp only [r9, r0, r1, r2, r3, s1, s2, q0, q1, rc, q3, q4, q5, q6, q7, q8, pr_8_8, pr_8_m3, pr_i_0, pr_i_1, pr_i_m1]; first | assumption | decide | exact ⟨by assumption, by assumption⟩ | exact ⟨Or.inl (by assumption), by assumption⟩ | omega) | decide | exact ⟨Or.inl (by assumption), by assumption⟩ | exact ⟨by assumption, by assumption⟩ | omega)⟩, (by first | assumption | (simp only [r9, r0, r1, r2, r3, s1, s2, q0, q1, rc, q3, q4, q5, q6, q7, q8, pr_8_8, pr_8_m3, pr_i_0, pr_i_1, pr_i_m1]; first | assumption | decide | exact ⟨by assumption, by assumption⟩ | exact ⟨Or.inl (by assumption), by assumption⟩ | omega) | decide | exact ⟨Or.inl (by assumption), by assumption⟩ | exact ⟨by assumption, by assumption⟩ | omega)⟩, trivial⟩, (by first | assumption | (simp only [r9, r0, r1, r2, r3, s1, s2, q0, q1, rc, q3, q4, q5, q6, q7, q8, pr_8_8, pr_8_m3, pr_i_0, pr_i_1, pr_i_m1]; first | assumption | decide | exact ⟨by assumption, by assumption⟩ | exact ⟨Or.inl (by assumption), by assumption⟩ | omega) | decide | exact ⟨Or.inl (by assumption), by assumption⟩ | exact ⟨by assumption, by assumption⟩ | omega)⟩, (by first | assumption | (simp only [r9, r0, r1, r2, r3, s1, s2, q0, q1, rc, q3, q4, q5, q6, q7, q8, pr_8_8, pr_8_m3, pr_i_0, pr_i_1, pr_i_m1]; first | assumption | decide | exact ⟨by assumption, by assumption⟩ | exact ⟨Or.inl (by assumption), by assumption⟩ | omega) | decide | exact ⟨Or.inl (by assumption), by assumption⟩ | exact ⟨by assumption, by assumption⟩ | omega)⟩, trivial⟩, (by first | assumption | (simp only [r9, r0, r1, r2, r3, s1, s2, q0, q1, rc, q3, q4, q5, q6, q7, q8, pr_8_8, pr_8_m3, pr_i_0, pr_i_1, pr_i_m1]; first | assumption | decide | exact ⟨by assumption, by assumption⟩ | exact ⟨Or.inl (by assumption), by assumption⟩ | omega) | decide | exact ⟨Or.inl (by assumption), by assumption⟩ | exact ⟨by assumption, by assumption⟩ | omega)⟩, (by first | assumption | (simp only [r9, r0, r1, r2, r3, s1, s2, q0, q1, rc, q3, q4, q5, q6, q7, q8, pr_8_8, pr_8_m3, pr_i_0, pr_i_1, pr_i_m1]; first | assumption | decide | exact ⟨by assumption, by assumption⟩ | exact ⟨Or.inl (by assumption), by assumption⟩ | omega) | decide | exact ⟨Or.inl (by assumption), by assumption⟩ | exact ⟨by assumption, by assumption⟩ | omega)⟩, trivial⟩, (by first | assumption | (simp only [r9, r0, r1, r2, r3, s1, s2, q0, q1, rc, q3, q4, q5, q6, q7, q8, pr_8_8, pr_8_m3, pr_i_0, pr_i_1, pr_i_m1]; first | assumption | decide | exact ⟨by assumption, by assumption⟩ | exact ⟨Or.inl (by assumption), by assumption⟩ | omega) | decide | exact ⟨Or.inl (by assumption), by assumption⟩ | exact ⟨by assumption, by assumption⟩ | omega)⟩, (by first | assumption | (simp only [r9, r0, r1, r2, r3, s1, s2, q0, q1, rc, q3, q4, q5, q6, q7, q8, pr_8_8, pr_8_m3, pr_i_0, pr_i_1, pr_i_m1]; first | assumption | decide | exact ⟨by assumption, by assumption⟩ | exact ⟨Or.inl (by assumption), by assumption⟩ | omega) | decide | exact ⟨Or.inl (by assumption), by assumption⟩ | exact ⟨by assumption, by assumption⟩ | omega)⟩, (by first | assumption | (simp only [r9, r0, r1, r2, r3, s1, s2, q0, q1, rc, q3, q4, q5, q6, q7, q8, pr_8_8, pr_8_m3, pr_i_0, pr_i_1, pr_i_m1]; first | assumption | decide | exact ⟨by assumption, by assumption⟩ | exact ⟨Or.inl (by assumption), by assumption⟩ | omega) | decide | exact ⟨Or.inl (by assumption), by assumption⟩ | exact ⟨by assumption, by assumption⟩ | omega)⟩, (by first | assumption | (simp only [r9, r0, r1, r2, r3, s1, s2, q0, q1, rc, q3, q4, q5, q6, q7, q8, pr_8_8, pr_8_m3, pr_i_0, pr_i_1, pr_i_m1]; first | assumption | decide | exact ⟨by assumption, by assumption⟩ | exact ⟨Or.inl (by assumption), by assumption⟩ | omega) | decide | exact ⟨Or.inl (by assumption), by assumption⟩ | exact ⟨by assumption, by assumption⟩ | omega)⟩, (by first | assumption | (simp only [r9, r0, r1, r2, r3, s1, s2, q0, q1, rc, q3, q4, q5, q6, q7, q8, pr_8_8, pr_8_m3, pr_i_0, pr_i_1, pr_i_m1]; first | assumption | decide | exact ⟨by assumption, by assumption⟩ | exact ⟨Or.inl (by assumption), by assumption⟩ | omega) | decide | exact ⟨Or.inl (by assumption), by assumption⟩ | exact ⟨by assumption, by assumption⟩ | omega)⟩, (by first | assumption | (simp only [r9, r0, r1, r2, r3, s1, s2, q0, q1, rc, q3, q4, q5, q6, q7, q8, pr_8_8, pr_8_m3, pr_i_0, pr_i_1, pr_i_m1]; first | assumption | decide | exact ⟨by assumption, by assumption⟩ | exact ⟨Or.inl (by assumption), by assumption⟩ | omega) | decide | exact ⟨Or.inl (by assumption), by assumption⟩ | exact ⟨by assumption, by assumption⟩ | omega)⟩, trivial⟩, (by first | assumption | (simp only [r9, r0, r1, r2, r3, s1, s2, q0, q1, rc, q3, q4, q5, q6, q7, q8, pr_8_8, pr_8_m3, pr_i_0, pr_i_1, pr_i_m1]; first | assumption | decide | exact ⟨by assumption, by assumption⟩ | exact ⟨Or.inl (by assumption), by assumption⟩ | omega) | decide | exact ⟨Or.inl (by assumption), by assumption⟩ | exact ⟨by assumption, by assumption⟩ | omega)⟩ ?_
            try simp only [r9, r0, r1, r2, r3, s1, s2, q0, q1, rc, q3, q4, q5, q6, q7, q8, pr_8_8, pr_8_m3, pr_i_0, pr_i_1, pr_i_m1]
            fail "no call@71 yX2_copy"
        · simp only [ab_cmp, pr_8_8, pr_8_m3, pr_i_0, pr_i_1, pr_i_m1] at h27
          first
          | contradiction
          | exact absurd trivial h27
          | exact absurd h27 (by decide)
          | exact absurd (Classical.not_not.mp h27) (by decide)
          | skip
            refine pr_seqT (pc' := 32) 1 rfl ⟨trivial, trivial⟩ ?_
            try simp only [r9, r0, r1, r2, r3, s1, s2, q0, q1, rc, q3, q4, q5, q6, q7, q8, pr_8_8, pr_8_m3, pr_i_0, pr_i_1, pr_i_m1]
            exact pr_irT rfl trivial (by first | rfl | (simp only [r9, r0, r1, r2, r3, s1, s2, q0, q1, rc, q3, q4, q5, q6, q7, q8, pr_8_8, pr_8_m3, pr_i_0, pr_i_1, pr_i_m1]; done) | (simp [pr_b, pr_8_8, pr_8_m3, pr_i_0, pr_i_1, pr_i_m1, *]; done) | (simp_all [pr_b, pr_8_8, pr_8_m3, pr_i_0, pr_i_1, pr_i_m1]; done))
    · simp only [ab_cmp, pr_8_8, pr_8_m3, pr_i_0, pr_i_1, pr_i_m1] at h8
      first
      | contradiction
      | exact absurd trivial h8
      | exact absurd h8 (by decide)
      | exact absurd (Classical.not_not.mp h8) (by decide)
      | skip
        refine pr_seqT (pc' := 12) 1 rfl ⟨trivial, trivial⟩ ?_
        try simp only [r9, r0, r1, r2, r3, s1, s2, q0, q1, rc, q3, q4, q5, q6, q7, q8, pr_8_8, pr_8_m3, pr_i_0, pr_i_1, pr_i_m1]
        exact pr_irT rfl trivial (by exact cp_s hl hv)
  · rw [q] at hp
    rw [show ixb (nI j) X.1.2.1.length = true from q, if_pos rfl]
    have n8 : (8 : Int32) = nI 8 := rfl
    by_cases c8 : x_n X < 8
    · rw [if_pos c8]
      have c8 : X.1.1.2.1.length < 8 := c8
      have e8 : nI X.1.1.2.1.length < nI 8 := nI_lt c8 (by decide)
      have e3 : (nI j).toNatClampNeg = j := nI_clamp (by omega)
      have e4 : (nI X.1.1.2.1.length).toNatClampNeg = X.1.1.2.1.length := nI_clamp (by omega)
      have hw := x_ln_at hj
      obtain ⟨y1, y2⟩ := hnm j (by omega)
      have n1 := y2.2.1
      obtain ⟨u7, u8⟩ := v6 j _ hw
      obtain ⟨z1, z2⟩ := hon _ c8
      obtain ⟨o1, o2, o3, o4⟩ := id z2
      have on1 := o4.2.1
      have vi : (24 ≤ ab_k h (tB b + 28) ∧ ab_k h (tB b + 28) ≤ 27) ∧ vp_in (nI j) (ab_n h (tB b + 28)) := ⟨by rw [ka]; decide, by rw [kb]; exact vp_in_nI (by omega) (by decide)⟩
      have vj : (24 ≤ ab_k h (tB b + 1 + 2) ∧ ab_k h (tB b + 1 + 2) ≤ 27) ∧ vp_in (nI X.1.1.2.1.length) (ab_n h (tB b + 1 + 2)) := ⟨by rw [m3]; decide, by rw [m4]; exact vp_in_nI (by omega) (by decide)⟩
      rw [e3]
      generalize hO : tB b + 1 + 3 + 3 * X.1.1.2.1.length = o at *
      have hu7 : nm_v (ab_u (ab_u (ab_u M.1 o 1 0) o 2 0) o 3 0) (tB b + 31 + 2 * j) (x_ln X j) := nm_v_congr (by rw [ab_u_ne (by omega), ab_u_ne (by omega), ab_u_ne (by omega)]) (by rw [ab_u_ne (by omega), ab_u_ne (by omega), ab_u_ne (by omega)]) u7
      have hcp := c_ncopy (m := (x_ln X j).length) h (ab_u (ab_u (ab_u M.1 o 1 0) o 2 0) o 3 0, M.2.1, M.2.2) o4 y2 (by omega) hu7.1 hu7.2.1
      have hcv := nm_v_cp (n := o + 1) (by omega) hu7
      have hfar : ∀ a, a ≠ o → a ≠ o + 1 → a ≠ o + 2 → nm_cp (ab_u (ab_u (ab_u M.1 o 1 0) o 2 0) o 3 0) (o + 1) (tB b + 31 + 2 * j) (x_ln X j).length a = M.1 a := fun a a1 a2 a3 => by rw [nm_cp_far a2 (by omega), ab_u_ne a1, ab_u_ne a1, ab_u_ne a1]
      have ho : nm_cp (ab_u (ab_u (ab_u M.1 o 1 0) o 2 0) o 3 0) (o + 1) (tB b + 31 + 2 * j) (x_ln X j).length o = ab_u (ab_u (ab_u M.1 o 1 0) o 2 0) o 3 0 o := nm_cp_far (by omega) (by omega)
      generalize nm_cp (ab_u (ab_u (ab_u M.1 o 1 0) o 2 0) o 3 0) (o + 1) (tB b + 31 + 2 * j) (x_ln X j).length = N at *
      have hN2 : N (tB b + 1) 2 = nI X.1.1.2.1.length := by rw [hfar _ (by omega) (by omega) (by omega)]; exact d1
      have hlast : nI (X.1.1.2.1.length + 1) - 1 = nI X.1.1.2.1.length := nI_pred _
      refine pr_seqT (pc' := 5) 3 rfl ⟨⟨⟨trivial, (by first | assumption | (simp only [r9, r0, r1, r2, r3, s1, s2, q0, q1, rc, q3, q4, q5, q6, q7, q8, e3, e4, y1, z1, o3, d1, hN2, n8, nI_1, ab_u_at, hlast, pr_8_8, pr_8_m3, pr_i_0, pr_i_1, pr_i_m1]; first | assumption | decide | exact ⟨by assumption, by assumption⟩ | exact ⟨Or.inl (by assumption), by assumption⟩ | omega) | decide | exact ⟨Or.inl (by assumption), by assumption⟩ | exact ⟨by assumption, by assumption⟩ | omega)⟩, (by first | assumption | (simp only [r9, r0, r1, r2, r3, s1, s2, q0, q1, rc, q3, q4, q5, q6, q7, q8, e3, e4, y1, z1, o3, d1, hN2, n8, nI_1, ab_u_at, hlast, pr_8_8, pr_8_m3, pr_i_0, pr_i_1, pr_i_m1]; first | assumption | decide | exact ⟨by assumption, by assumption⟩ | exact ⟨Or.inl (by assumption), by assumption⟩ | omega) | decide | exact ⟨Or.inl (by assumption), by assumption⟩ | exact ⟨by assumption, by assumption⟩ | omega)⟩, trivial⟩ ?_
      try simp only [r9, r0, r1, r2, r3, s1, s2, q0, q1, rc, q3, q4, q5, q6, q7, q8, e3, e4, y1, z1, o3, d1, hN2, n8, nI_1, ab_u_at, hlast, pr_8_8, pr_8_m3, pr_i_0, pr_i_1, pr_i_m1]
      refine pr_cvT [_] rfl rfl rfl rfl rfl (Nat.le_of_ble_eq_true rfl) (by first | assumption | (simp only [r9, r0, r1, r2, r3, s1, s2, q0, q1, rc, q3, q4, q5, q6, q7, q8, e3, e4, y1, z1, o3, d1, hN2, n8, nI_1, ab_u_at, hlast, pr_8_8, pr_8_m3, pr_i_0, pr_i_1, pr_i_m1]; first | assumption | decide | exact ⟨by assumption, by assumption⟩ | exact ⟨Or.inl (by assumption), by assumption⟩ | omega) | decide | exact ⟨Or.inl (by assumption), by assumption⟩ | exact ⟨by assumption, by assumption⟩ | omega) (Nat.le_of_ble_eq_true rfl) (hp) ?_
      refine pr_ifT rfl (fun h8 => ?_) (fun h8 => ?_)
      · simp only [ab_cmp, pr_8_8, pr_8_m3, pr_i_0, pr_i_1, pr_i_m1] at h8
        first
        | contradiction
        | exact absurd trivial h8
        | exact absurd h8 (by decide)
        | exact absurd (Classical.not_not.mp h8) (by decide)
        | skip
          refine pr_seqT (pc' := 27) 7 rfl ⟨⟨⟨⟨⟨⟨⟨trivial, (by first | assumption | (simp only [r9, r0, r1, r2, r3, s1, s2, q0, q1, rc, q3, q4, q5, q6, q7, q8, e3, e4, y1, z1, o3, d1, hN2, n8, nI_1, ab_u_at, hlast, pr_8_8, pr_8_m3, pr_i_0, pr_i_1, pr_i_m1]; first | assumption | decide | exact ⟨by assumption, by assumption⟩ | exact ⟨Or.inl (by assumption), by assumption⟩ | omega) | decide | exact ⟨Or.inl (by assumption), by assumption⟩ | exact ⟨by assumption, by assumption⟩ | omega)⟩, (by first | assumption | (simp only [r9, r0, r1, r2, r3, s1, s2, q0, q1, rc, q3, q4, q5, q6, q7, q8, e3, e4, y1, z1, o3, d1, hN2, n8, nI_1, ab_u_at, hlast, pr_8_8, pr_8_m3, pr_i_0, pr_i_1, pr_i_m1]; first | assumption | decide | exact ⟨by assumption, by assumption⟩ | exact ⟨Or.inl (by assumption), by assumption⟩ | omega) | decide | exact ⟨Or.inl (by assumption), by assumption⟩ | exact ⟨by assumption, by assumption⟩ | omega)⟩, (by first | assumption | (simp only [r9, r0, r1, r2, r3, s1, s2, q0, q1, rc, q3, q4, q5, q6, q7, q8, e3, e4, y1, z1, o3, d1, hN2, n8, nI_1, ab_u_at, hlast, pr_8_8, pr_8_m3, pr_i_0, pr_i_1, pr_i_m1]; first | assumption | decide | exact ⟨by assumption, by assumption⟩ | exact ⟨Or.inl (by assumption), by assumption⟩ | omega) | decide | exact ⟨Or.inl (by assumption), by assumption⟩ | exact ⟨by assumption, by assumption⟩ | omega)⟩, (by first | assumption | (simp only [r9, r0, r1, r2, r3, s1, s2, q0, q1, rc, q3, q4, q5, q6, q7, q8, e3, e4, y1, z1, o3, d1, hN2, n8, nI_1, ab_u_at, hlast, pr_8_8, pr_8_m3, pr_i_0, pr_i_1, pr_i_m1]; first | assumption | decide | exact ⟨by assumption, by assumption⟩ | exact ⟨Or.inl (by assumption), by assumption⟩ | omega) | decide | exact ⟨Or.inl (by assumption), by assumption⟩ | exact ⟨by assumption, by assumption⟩ | omega)⟩, (by first | assumption | (simp only [r9, r0, r1, r2, r3, s1, s2, q0, q1, rc, q3, q4, q5, q6, q7, q8, e3, e4, y1, z1, o3, d1, hN2, n8, nI_1, ab_u_at, hlast, pr_8_8, pr_8_m3, pr_i_0, pr_i_1, pr_i_m1]; first | assumption | decide | exact ⟨by assumption, by assumption⟩ | exact ⟨Or.inl (by assumption), by assumption⟩ | omega) | decide | exact ⟨Or.inl (by assumption), by assumption⟩ | exact ⟨by assumption, by assumption⟩ | omega)⟩, (by first | assumption | (simp only [r9, r0, r1, r2, r3, s1, s2, q0, q1, rc, q3, q4, q5, q6, q7, q8, e3, e4, y1, z1, o3, d1, hN2, n8, nI_1, ab_u_at, hlast, pr_8_8, pr_8_m3, pr_i_0, pr_i_1, pr_i_m1]; first | assumption | decide | exact ⟨by assumption, by assumption⟩ | exact ⟨Or.inl (by assumption), by assumption⟩ | omega) | decide | exact ⟨Or.inl (by assumption), by assumption⟩ | exact ⟨by assumption, by assumption⟩ | omega)⟩, trivial⟩ ?_
          try simp only [r9, r0, r1, r2, r3, s1, s2, q0, q1, rc, q3, q4, q5, q6, q7, q8, e3, e4, y1, z1, o3, d1, hN2, n8, nI_1, ab_u_at, hlast, pr_8_8, pr_8_m3, pr_i_0, pr_i_1, pr_i_m1]
          refine pr_icT rfl (fun h27 => ?_) (fun h27 => ?_)
          · simp only [ab_cmp, pr_8_8, pr_8_m3, pr_i_0, pr_i_1, pr_i_m1] at h27
            first
            | contradiction
            | exact absurd trivial h27
            | exact absurd h27 (by decide)
            | exact absurd (Classical.not_not.mp h27) (by decide)
            | skip
              refine pr_seqT (pc' := 71) 22 rfl ⟨⟨⟨⟨⟨⟨⟨⟨⟨⟨⟨⟨⟨⟨⟨⟨⟨⟨⟨⟨⟨⟨trivial, (by first | assumption | (simp only [r9, r0, r1, r2, r3, s1, s2, q0, q1, rc, q3, q4, q5, q6, q7, q8, e3, e4, y1, z1, o3, d1, hN2, n8, nI_1, ab_u_at, hlast, pr_8_8, pr_8_m3, pr_i_0, pr_i_1, pr_i_m1]; first | assumption | decide | exact ⟨by assumption, by assumption⟩ | exact ⟨Or.inl (by assumption), by assumption⟩ | omega) | decide | exact ⟨Or.inl (by assumption), by assumption⟩ | exact ⟨by assumption, by assumption⟩ | omega)⟩, (by first | assumption | (simp only [r9, r0, r1, r2, r3, s1, s2, q0, q1, rc, q3, q4, q5, q6, q7, q8, e3, e4, y1, z1, o3, d1, hN2, n8, nI_1, ab_u_at, hlast, pr_8_8, pr_8_m3, pr_i_0, pr_i_1, pr_i_m1]; first | assumption | decide | exact ⟨by assumption, by assumption⟩ | exact ⟨Or.inl (by assumption), by assumption⟩ | omega) | decide | exact ⟨Or.inl (by assumption), by assumption⟩ | exact ⟨by assumption, by assumption⟩ | omega)⟩, (by first | assumption | (simp only [r9, r0, r1, r2, r3, s1, s2, q0, q1, rc, q3, q4, q5, q6, q7, q8, e3, e4, y1, z1, o3, d1, hN2, n8, nI_1, ab_u_at, hlast, pr_8_8, pr_8_m3, pr_i_0, pr_i_1, pr_i_m1]; first | assumption | decide | exact ⟨by assumption, by assumption⟩ | exact ⟨Or.inl (by assumption), by assumption⟩ | omega) | decide | exact ⟨Or.inl (by assumption), by assumption⟩ | exact ⟨by assumption, by assumption⟩ | omega)⟩, (by first | assumption | (simp only [r9, r0, r1, r2, r3, s1, s2, q0, q1, rc, q3, q4, q5, q6, q7, q8, e3, e4, y1, z1, o3, d1, hN2, n8, nI_1, ab_u_at, hlast, pr_8_8, pr_8_m3, pr_i_0, pr_i_1, pr_i_m1]; first | assumption | decide | exact ⟨by assumption, by assumption⟩ | exact ⟨Or.inl (by assumption), by assumption⟩ | omega) | decide | exact ⟨Or.inl (by assumption), by assumption⟩ | exact ⟨by assumption, by assumption⟩ | omega)⟩, (by first | assumption | (simp only [r9, r0, r1, r2, r3, s1, s2, q0, q1, rc, q3, q4, q5, q6, q7, q8, e3, e4, y1, z1, o3, d1, hN2, n8, nI_1, ab_u_at, hlast, pr_8_8, pr_8_m3, pr_i_0, pr_i_1, pr_i_m1]; first | assumption | decide | exact ⟨by assumption, by assumption⟩ | exact ⟨Or.inl (by assumption), by assumption⟩ | omega) | decide | exact ⟨Or.inl (by assumption), by assumption⟩ | exact ⟨by assumption, by assumption⟩ | omega)⟩, (by first | assumption | (simp only [r9, r0, r1, r2, r3, s1, s2, q0, q1, rc, q3, q4, q5, q6, q7, q8, e3, e4, y1, z1, o3, d1, hN2, n8, nI_1, ab_u_at, hlast, pr_8_8, pr_8_m3, pr_i_0, pr_i_1, pr_i_m1]; first | assumption | decide | exact ⟨by assumption, by assumption⟩ | exact ⟨Or.inl (by assumption), by assumption⟩ | omega) | decide | exact ⟨Or.inl (by assumption), by assumption⟩ | exact ⟨by assumption, by assumption⟩ | omega)⟩, (by first | assumption | (simp only [r9, r0, r1, r2, r3, s1, s2, q0, q1, rc, q3, q4, q5, q6, q7, q8, e3, e4, y1, z1, o3, d1, hN2, n8, nI_1, ab_u_at, hlast, pr_8_8, pr_8_m3, pr_i_0, pr_i_1, pr_i_m1]; first | assumption | decide | exact ⟨by assumption, by assumption⟩ | exact ⟨Or.inl (by assumption), by assumption⟩ | omega) | decide | exact ⟨Or.inl (by assumption), by assumption⟩ | exact ⟨by assumption, by assumption⟩ | omega)⟩, trivial⟩, (by first | assumption | (simp only [r9, r0, r1, r2, r3, s1, s2, q0, q1, rc, q3, q4, q5, q6, q7, q8, e3, e4, y1, z1, o3, d1, hN2, n8, nI_1, ab_u_at, hlast, pr_8_8, pr_8_m3, pr_i_0, pr_i_1, pr_i_m1]; first | assumption | decide | exact ⟨by assumption, by assumption⟩ | exact ⟨Or.inl (by assumption), by assumption⟩ | omega) | decide | exact ⟨Or.inl (by assumption), by assumption⟩ | exact ⟨by assumption, by assumption⟩ | omega)⟩, (by first | assumption | (simp only [r9, r0, r1, r2, r3, s1, s2, q0, q1, rc, q3, q4, q5, q6, q7, q8, e3, e4, y1, z1, o3, d1, hN2, n8, nI_1, ab_u_at, hlast, pr_8_8, pr_8_m3, pr_i_0, pr_i_1, pr_i_m1]; first | assumption | decide | exact ⟨by assumption, by assumption⟩ | exact ⟨Or.inl (by assumption), by assumption⟩ | omega) | decide | exact ⟨Or.inl (by assumption), by assumption⟩ | exact ⟨by assumption, by assumption⟩ | omega)⟩, trivial⟩, (by first | assumption | (simp only [r9, r0, r1, r2, r3, s1, s2, q0, q1, rc, q3, q4, q5, q6, q7, q8, e3, e4, y1, z1, o3, d1, hN2, n8, nI_1, ab_u_at, hlast, pr_8_8, pr_8_m3, pr_i_0, pr_i_1, pr_i_m1]; first | assumption | decide | exact ⟨by assumption, by assumption⟩ | exact ⟨Or.inl (by assumption), by assumption⟩ | omega) | decide | exact ⟨Or.inl (by assumption), by assumption⟩ | exact ⟨by assumption, by assumption⟩ | omega)⟩, (by first | assumption | (simp only [r9, r0, r1, r2, r3, s1, s2, q0, q1, rc, q3, q4, q5, q6, q7, q8, e3, e4, y1, z1, o3, d1, hN2, n8, nI_1, ab_u_at, hlast, pr_8_8, pr_8_m3, pr_i_0, pr_i_1, pr_i_m1]; first | assumption | decide | exact ⟨by assumption, by assumption⟩ | exact ⟨Or.inl (by assumption), by assumption⟩ | omega) | decide | exact ⟨Or.inl (by assumption), by assumption⟩ | exact ⟨by assumption, by assumption⟩ | omega)⟩, trivial⟩, (by first | assumption | (simp only [r9, r0, r1, r2, r3, s1, s2, q0, q1, rc, q3, q4, q5, q6, q7, q8, e3, e4, y1, z1, o3, d1, hN2, n8, nI_1, ab_u_at, hlast, pr_8_8, pr_8_m3, pr_i_0, pr_i_1, pr_i_m1]; first | assumption | decide | exact ⟨by assumption, by assumption⟩ | exact ⟨Or.inl (by assumption), by assumption⟩ | omega) | decide | exact ⟨Or.inl (by assumption), by assumption⟩ | exact ⟨by assumption, by assumption⟩ | omega)⟩, (by first | assumption | (simp only [r9, r0, r1, r2, r3, s1, s2, q0, q1, rc, q3, q4, q5, q6, q7, q8, e3, e4, y1, z1, o3, d1, hN2, n8, nI_1, ab_u_at, hlast, pr_8_8, pr_8_m3, pr_i_0, pr_i_1, pr_i_m1]; first | assumption | decide | exact ⟨by assumption, by assumption⟩ | exact ⟨Or.inl (by assumption), by assumption⟩ | omega) | decide | exact ⟨Or.inl (by assumption), by assumption⟩ | exact ⟨by assumption, by assumption⟩ | omega)⟩, (by first | assumption | (simp only [r9, r0, r1, r2, r3, s1, s2, q0, q1, rc, q3, q4, q5, q6, q7, q8, e3, e4, y1, z1, o3, d1, hN2, n8, nI_1, ab_u_at, hlast, pr_8_8, pr_8_m3, pr_i_0, pr_i_1, pr_i_m1]; first | assumption | decide | exact ⟨by assumption, by assumption⟩ | exact ⟨Or.inl (by assumption), by assumption⟩ | omega) | decide | exact ⟨Or.inl (by assumption), by assumption⟩ | exact ⟨by assumption, by assumption⟩ | omega)⟩, (by first | assumption | (simp only [r9, r0, r1, r2, r3, s1, s2, q0, q1, rc, q3, q4, q5, q6, q7, q8, e3, e4, y1, z1, o3, d1, hN2, n8, nI_1, ab_u_at, hlast, pr_8_8, pr_8_m3, pr_i_0, pr_i_1, pr_i_m1]; first | assumption | decide | exact ⟨by assumption, by assumption⟩ | exact ⟨Or.inl (by assumption), by assumption⟩ | omega) | decide | exact ⟨Or.inl (by assumption), by assumption⟩ | exact ⟨by assumption, by assumption⟩ | omega)⟩, (by first | assumption | (simp only [r9, r0, r1, r2, r3, s1, s2, q0, q1, rc, q3, q4, q5, q6, q7, q8, e3, e4, y1, z1, o3, d1, hN2, n8, nI_1, ab_u_at, hlast, pr_8_8, pr_8_m3, pr_i_0, pr_i_1, pr_i_m1]; first | assumption | decide | exact ⟨by assumption, by assumption⟩ | exact ⟨Or.inl (by assumption), by assumption⟩ | omega) | decide | exact ⟨Or.inl (by assumption), by assumption⟩ | exact ⟨by assumption, by assumption⟩ | omega)⟩, (by first | assumption | (simp only [r9, r0, r1, r2, r3, s1, s2, q0, q1, rc, q3, q4, q5, q6, q7, q8, e3, e4, y1, z1, o3, d1, hN2, n8, nI_1, ab_u_at, hlast, pr_8_8, pr_8_m3, pr_i_0, pr_i_1, pr_i_m1]; first | assumption | decide | exact ⟨by assumption, by assumption⟩ | exact ⟨Or.inl (by assumption), by assumption⟩ | omega) | decide | exact ⟨Or.inl (by assumption), by assumption⟩ | exact ⟨by assumption, by assumption⟩ | omega)⟩, trivial⟩, (by first | assumption | (simp only [r9, r0, r1, r2, r3, s1, s2, q0, q1, rc, q3, q4, q5, q6, q7, q8, e3, e4, y1, z1, o3, d1, hN2, n8, nI_1, ab_u_at, hlast, pr_8_8, pr_8_m3, pr_i_0, pr_i_1, pr_i_m1]; first | assumption | decide | exact ⟨by assumption, by assumption⟩ | exact ⟨Or.inl (by assumption), by assumption⟩ | omega) | decide | exact ⟨Or.inl (by assumption), by assumption⟩ | exact ⟨by assumption, by assumption⟩ | omega)⟩ ?_
              try simp only [r9, r0, r1, r2, r3, s1, s2, q0, q1, rc, q3, q4, q5, q6, q7, q8, e3, e4, y1, z1, o3, d1, hN2, n8, nI_1, ab_u_at, hlast, pr_8_8, pr_8_m3, pr_i_0, pr_i_1, pr_i_m1]
              refine pr_cvT [_] rfl rfl rfl rfl rfl (Nat.le_of_ble_eq_true rfl) (by first | assumption | (simp only [r9, r0, r1, r2, r3, s1, s2, q0, q1, rc, q3, q4, q5, q6, q7, q8, e3, e4, y1, z1, o3, d1, hN2, n8, nI_1, ab_u_at, hlast, pr_8_8, pr_8_m3, pr_i_0, pr_i_1, pr_i_m1]; first | assumption | decide | exact ⟨by assumption, by assumption⟩ | exact ⟨Or.inl (by assumption), by assumption⟩ | omega) | decide | exact ⟨Or.inl (by assumption), by assumption⟩ | exact ⟨by assumption, by assumption⟩ | omega) (Nat.le_of_ble_eq_true rfl) (hcp) ?_
              refine pr_seqT (pc' := 90) 10 rfl ⟨⟨⟨⟨⟨⟨⟨⟨⟨⟨trivial, (by first | assumption | (simp only [r9, r0, r1, r2, r3, s1, s2, q0, q1, rc, q3, q4, q5, q6, q7, q8, e3, e4, y1, z1, o3, d1, hN2, n8, nI_1, ab_u_at, hlast, pr_8_8, pr_8_m3, pr_i_0, pr_i_1, pr_i_m1]; first | assumption | decide | exact ⟨by assumption, by assumption⟩ | exact ⟨Or.inl (by assumption), by assumption⟩ | omega) | decide | exact ⟨Or.inl (by assumption), by assumption⟩ | exact ⟨by assumption, by assumption⟩ | omega)⟩, trivial⟩, (by first | assumption | (simp only [r9, r0, r1, r2, r3, s1, s2, q0, q1, rc, q3, q4, q5, q6, q7, q8, e3, e4, y1, z1, o3, d1, hN2, n8, nI_1, ab_u_at, hlast, pr_8_8, pr_8_m3, pr_i_0, pr_i_1, pr_i_m1]; first | assumption | decide | exact ⟨by assumption, by assumption⟩ | exact ⟨Or.inl (by assumption), by assumption⟩ | omega) | decide | exact ⟨Or.inl (by assumption), by assumption⟩ | exact ⟨by assumption, by assumption⟩ | omega)⟩, trivial⟩, trivial⟩, (by first | assumption | (simp only [r9, r0, r1, r2, r3, s1, s2, q0, q1, rc, q3, q4, q5, q6, q7, q8, e3, e4, y1, z1, o3, d1, hN2, n8, nI_1, ab_u_at, hlast, pr_8_8, pr_8_m3, pr_i_0, pr_i_1, pr_i_m1]; first | assumption | decide | exact ⟨by assumption, by assumption⟩ | exact ⟨Or.inl (by assumption), by assumption⟩ | omega) | decide | exact ⟨Or.inl (by assumption), by assumption⟩ | exact ⟨by assumption, by assumption⟩ | omega)⟩, (by first | assumption | (simp only [r9, r0, r1, r2, r3, s1, s2, q0, q1, rc, q3, q4, q5, q6, q7, q8, e3, e4, y1, z1, o3, d1, hN2, n8, nI_1, ab_u_at, hlast, pr_8_8, pr_8_m3, pr_i_0, pr_i_1, pr_i_m1]; first | assumption | decide | exact ⟨by assumption, by assumption⟩ | exact ⟨Or.inl (by assumption), by assumption⟩ | omega) | decide | exact ⟨Or.inl (by assumption), by assumption⟩ | exact ⟨by assumption, by assumption⟩ | omega)⟩, (by first | assumption | (simp only [r9, r0, r1, r2, r3, s1, s2, q0, q1, rc, q3, q4, q5, q6, q7, q8, e3, e4, y1, z1, o3, d1, hN2, n8, nI_1, ab_u_at, hlast, pr_8_8, pr_8_m3, pr_i_0, pr_i_1, pr_i_m1]; first | assumption | decide | exact ⟨by assumption, by assumption⟩ | exact ⟨Or.inl (by assumption), by assumption⟩ | omega) | decide | exact ⟨Or.inl (by assumption), by assumption⟩ | exact ⟨by assumption, by assumption⟩ | omega)⟩, trivial⟩, trivial⟩ ?_
              try simp only [r9, r0, r1, r2, r3, s1, s2, q0, q1, rc, q3, q4, q5, q6, q7, q8, e3, e4, y1, z1, o3, d1, hN2, n8, nI_1, ab_u_at, hlast, pr_8_8, pr_8_m3, pr_i_0, pr_i_1, pr_i_m1]
              refine pr_irT rfl trivial (cp_I hl (cl_land hv (fun a x1 x2 => by rw [ab_u_ne (by omega), hfar a (by omega) (by omega) (by omega)]) (ld_push hd c8 (fun a x0 x1 x2 => by rw [ab_u_ne (by omega), hfar a (by omega) (by omega) (by omega)]) ab_u_at (by rw [ab_u_j (by decide), hfar _ (by omega) (by omega) (by omega)]) (by rw [ab_u_j (by decide), hfar _ (by omega) (by omega) (by omega)]) ?_)) (fun a ha => by rw [ab_u_ne (by omega), hfar a (by omega) (by omega) (by omega)]))
              rw [hO]
              exact ⟨by rw [ab_u_ne (by omega), ho, ab_u_j (by decide), ab_u_j (by decide), ab_u_at]; rfl, Nat.zero_le _, by rw [ab_u_ne (by omega), ho, ab_u_j (by decide), ab_u_at]; rfl, Nat.zero_le _, by rw [ab_u_ne (by omega), ho, ab_u_at]; rfl, Nat.zero_le _, nm_v_congr (ab_u_ne (by omega)) (ab_u_ne (by omega)) hcv⟩
          · simp only [ab_cmp, pr_8_8, pr_8_m3, pr_i_0, pr_i_1, pr_i_m1] at h27
            first
            | contradiction
            | exact absurd trivial h27
            | exact absurd h27 (by decide)
            | exact absurd (Classical.not_not.mp h27) (by decide)
            | skip
              refine pr_seqT (pc' := 32) 1 rfl ⟨trivial, trivial⟩ ?_
              try simp only [r9, r0, r1, r2, r3, s1, s2, q0, q1, rc, q3, q4, q5, q6, q7, q8, e3, e4, y1, z1, o3, d1, hN2, n8, nI_1, ab_u_at, hlast, pr_8_8, pr_8_m3, pr_i_0, pr_i_1, pr_i_m1]
              exact pr_irT rfl trivial (by first | rfl | (simp only [r9, r0, r1, r2, r3, s1, s2, q0, q1, rc, q3, q4, q5, q6, q7, q8, e3, e4, y1, z1, o3, d1, hN2, n8, nI_1, ab_u_at, hlast, pr_8_8, pr_8_m3, pr_i_0, pr_i_1, pr_i_m1]; done) | (simp [pr_b, pr_8_8, pr_8_m3, pr_i_0, pr_i_1, pr_i_m1, *]; done) | (simp_all [pr_b, pr_8_8, pr_8_m3, pr_i_0, pr_i_1, pr_i_m1]; done))
      · simp only [ab_cmp, pr_8_8, pr_8_m3, pr_i_0, pr_i_1, pr_i_m1] at h8
        first
        | contradiction
        | exact absurd trivial h8
        | exact absurd h8 (by decide)
        | exact absurd (Classical.not_not.mp h8) (by decide)
        | skip
          refine pr_seqT (pc' := 12) 1 rfl ⟨trivial, trivial⟩ ?_
          try simp only [r9, r0, r1, r2, r3, s1, s2, q0, q1, rc, q3, q4, q5, q6, q7, q8, e3, e4, y1, z1, o3, d1, hN2, n8, nI_1, ab_u_at, hlast, pr_8_8, pr_8_m3, pr_i_0, pr_i_1, pr_i_m1]
          exact pr_irT rfl trivial (by first | rfl | (simp only [r9, r0, r1, r2, r3, s1, s2, q0, q1, rc, q3, q4, q5, q6, q7, q8, e3, e4, y1, z1, o3, d1, hN2, n8, nI_1, ab_u_at, hlast, pr_8_8, pr_8_m3, pr_i_0, pr_i_1, pr_i_m1]; done) | (simp [pr_b, pr_8_8, pr_8_m3, pr_i_0, pr_i_1, pr_i_m1, *]; done) | (simp_all [pr_b, pr_8_8, pr_8_m3, pr_i_0, pr_i_1, pr_i_m1]; done))
    · rw [if_neg c8]
      have e8 : ¬ nI X.1.1.2.1.length < nI 8 := nI_nlt (Nat.not_lt.mp c8) (by omega)
      refine pr_seqT (pc' := 5) 3 rfl ⟨⟨⟨trivial, (by first | assumption | (simp only [r9, r0, r1, r2, r3, s1, s2, q0, q1, rc, q3, q4, q5, q6, q7, q8, d1, n8, pr_8_8, pr_8_m3, pr_i_0, pr_i_1, pr_i_m1]; first | assumption | decide | exact ⟨by assumption, by assumption⟩ | exact ⟨Or.inl (by assumption), by assumption⟩ | omega) | decide | exact ⟨Or.inl (by assumption), by assumption⟩ | exact ⟨by assumption, by assumption⟩ | omega)⟩, (by first | assumption | (simp only [r9, r0, r1, r2, r3, s1, s2, q0, q1, rc, q3, q4, q5, q6, q7, q8, d1, n8, pr_8_8, pr_8_m3, pr_i_0, pr_i_1, pr_i_m1]; first | assumption | decide | exact ⟨by assumption, by assumption⟩ | exact ⟨Or.inl (by assumption), by assumption⟩ | omega) | decide | exact ⟨Or.inl (by assumption), by assumption⟩ | exact ⟨by assumption, by assumption⟩ | omega)⟩, trivial⟩ ?_
      try simp only [r9, r0, r1, r2, r3, s1, s2, q0, q1, rc, q3, q4, q5, q6, q7, q8, d1, n8, pr_8_8, pr_8_m3, pr_i_0, pr_i_1, pr_i_m1]
      refine pr_cvT [_] rfl rfl rfl rfl rfl (Nat.le_of_ble_eq_true rfl) (by first | assumption | (simp only [r9, r0, r1, r2, r3, s1, s2, q0, q1, rc, q3, q4, q5, q6, q7, q8, d1, n8, pr_8_8, pr_8_m3, pr_i_0, pr_i_1, pr_i_m1]; first | assumption | decide | exact ⟨by assumption, by assumption⟩ | exact ⟨Or.inl (by assumption), by assumption⟩ | omega) | decide | exact ⟨Or.inl (by assumption), by assumption⟩ | exact ⟨by assumption, by assumption⟩ | omega) (Nat.le_of_ble_eq_true rfl) (hp) ?_
      refine pr_ifT rfl (fun h8 => ?_) (fun h8 => ?_)
      · simp only [ab_cmp, pr_8_8, pr_8_m3, pr_i_0, pr_i_1, pr_i_m1] at h8
        first
        | contradiction
        | exact absurd trivial h8
        | exact absurd h8 (by decide)
        | exact absurd (Classical.not_not.mp h8) (by decide)
        | skip
          refine pr_seqT (pc' := 27) 7 rfl ⟨⟨⟨⟨⟨⟨⟨trivial, (by first | assumption | (simp only [r9, r0, r1, r2, r3, s1, s2, q0, q1, rc, q3, q4, q5, q6, q7, q8, d1, n8, pr_8_8, pr_8_m3, pr_i_0, pr_i_1, pr_i_m1]; first | assumption | decide | exact ⟨by assumption, by assumption⟩ | exact ⟨Or.inl (by assumption), by assumption⟩ | omega) | decide | exact ⟨Or.inl (by assumption), by assumption⟩ | exact ⟨by assumption, by assumption⟩ | omega)⟩, (by first | assumption | (simp only [r9, r0, r1, r2, r3, s1, s2, q0, q1, rc, q3, q4, q5, q6, q7, q8, d1, n8, pr_8_8, pr_8_m3, pr_i_0, pr_i_1, pr_i_m1]; first | assumption | decide | exact ⟨by assumption, by assumption⟩ | exact ⟨Or.inl (by assumption), by assumption⟩ | omega) | decide | exact ⟨Or.inl (by assumption), by assumption⟩ | exact ⟨by assumption, by assumption⟩ | omega)⟩, (by first | assumption | (simp only [r9, r0, r1, r2, r3, s1, s2, q0, q1, rc, q3, q4, q5, q6, q7, q8, d1, n8, pr_8_8, pr_8_m3, pr_i_0, pr_i_1, pr_i_m1]; first | assumption | decide | exact ⟨by assumption, by assumption⟩ | exact ⟨Or.inl (by assumption), by assumption⟩ | omega) | decide | exact ⟨Or.inl (by assumption), by assumption⟩ | exact ⟨by assumption, by assumption⟩ | omega)⟩, (by first | assumption | (simp only [r9, r0, r1, r2, r3, s1, s2, q0, q1, rc, q3, q4, q5, q6, q7, q8, d1, n8, pr_8_8, pr_8_m3, pr_i_0, pr_i_1, pr_i_m1]; first | assumption | decide | exact ⟨by assumption, by assumption⟩ | exact ⟨Or.inl (by assumption), by assumption⟩ | omega) | decide | exact ⟨Or.inl (by assumption), by assumption⟩ | exact ⟨by assumption, by assumption⟩ | omega)⟩, (by first | assumption | (simp only [r9, r0, r1, r2, r3, s1, s2, q0, q1, rc, q3, q4, q5, q6, q7, q8, d1, n8, pr_8_8, pr_8_m3, pr_i_0, pr_i_1, pr_i_m1]; first | assumption | decide | exact ⟨by assumption, by assumption⟩ | exact ⟨Or.inl (by assumption), by assumption⟩ | omega) | decide | exact ⟨Or.inl (by assumption), by assumption⟩ | exact ⟨by assumption, by assumption⟩ | omega)⟩, (by first | assumption | (simp only [r9, r0, r1, r2, r3, s1, s2, q0, q1, rc, q3, q4, q5, q6, q7, q8, d1, n8, pr_8_8, pr_8_m3, pr_i_0, pr_i_1, pr_i_m1]; first | assumption | decide | exact ⟨by assumption, by assumption⟩ | exact ⟨Or.inl (by assumption), by assumption⟩ | omega) | decide | exact ⟨Or.inl (by assumption), by assumption⟩ | exact ⟨by assumption, by assumption⟩ | omega)⟩, trivial⟩ ?_
          try simp only [r9, r0, r1, r2, r3, s1, s2, q0, q1, rc, q3, q4, q5, q6, q7, q8, d1, n8, pr_8_8, pr_8_m3, pr_i_0, pr_i_1, pr_i_m1]
          refine pr_icT rfl (fun h27 => ?_) (fun h27 => ?_)
          · simp only [ab_cmp, pr_8_8, pr_8_m3, pr_i_0, pr_i_1, pr_i_m1] at h27
            first
            | contradiction
            | exact absurd trivial h27
            | exact absurd h27 (by decide)
            | exact absurd (Classical.not_not.mp h27) (by decide)
            | skip
              refine pr_seqT (pc' := 71) 22 rfl ⟨⟨⟨⟨⟨⟨⟨⟨⟨⟨⟨⟨⟨⟨⟨⟨⟨⟨⟨⟨⟨⟨trivial, (by first | assumption | (simp only [r9, r0, r1, r2, r3, s1, s2, q0, q1, rc, q3, q4, q5, q6, q7, q8, d1, n8, pr_8_8, pr_8_m3, pr_i_0, pr_i_1, pr_i_m1]; first | assumption | decide | exact ⟨by assumption, by assumption⟩ | exact ⟨Or.inl (by assumption), by assumption⟩ | omega) | decide | exact ⟨Or.inl (by assumption), by assumption⟩ | exact ⟨by assumption, by assumption⟩ | omega)⟩, (by first | assumption | (simp only [r9, r0, r1, r2, r3, s1, s2, q0, q1, rc, q3, q4, q5, q6, q7, q8, d1, n8, pr_8_8, pr_8_m3, pr_i_0, pr_i_1, pr_i_m1]; first | assumption | decide | exact ⟨by assumption, by assumption⟩ | exact ⟨Or.inl (by assumption), by assumption⟩ | omega) | decide | exact ⟨Or.inl (by assumption), by assumption⟩ | exact ⟨by assumption, by assumption⟩ | omega)⟩, (by first | assumption | (simp only [r9, r0, r1, r2, r3, s1, s2, q0, q1, rc, q3, q4, q5, q6, q7, q8, d1, n8, pr_8_8, pr_8_m3, pr_i_0, pr_i_1, pr_i_m1]; first | assumption | decide | exact ⟨by assumption, by assumption⟩ | exact ⟨Or.inl (by assumption), by assumption⟩ | omega) | decide | exact ⟨Or.inl (by assumption), by assumption⟩ | exact ⟨by assumption, by assumption⟩ | omega)⟩, (by first | assumption | (simp only [r9, r0, r1, r2, r3, s1, s2, q0, q1, rc, q3, q4, q5, q6, q7, q8, d1, n8, pr_8_8, pr_8_m3, pr_i_0, pr_i_1, pr_i_m1]; first | assumption | decide | exact ⟨by assumption, by assumption⟩ | exact ⟨Or.inl (by assumption), by assumption⟩ | omega) | decide | exact ⟨Or.inl (by assumption), by assumption⟩ | exact ⟨by assumption, by assumption⟩ | omega)⟩, (by first | assumption | (simp only [r9, r0, r1, r2, r3, s1, s2, q0, q1, rc, q3, q4, q5, q6, q7, q8, d1, n8, pr_8_8, pr_8_m3, pr_i_0, pr_i_1, pr_i_m1]; first | assumption | decide | exact ⟨by assumption, by assumption⟩ | exact ⟨Or.inl (by assumption), by assumption⟩ | omega) | decide | exact ⟨Or.inl (by assumption), by assumption⟩ | exact ⟨by assumption, by assumption⟩ | omega)⟩, (by first | assumption | (simp only [r9, r0, r1, r2, r3, s1, s2, q0, q1, rc, q3, q4, q5, q6, q7, q8, d1, n8, pr_8_8, pr_8_m3, pr_i_0, pr_i_1, pr_i_m1]; first | assumption | decide | exact ⟨by assumption, by assumption⟩ | exact ⟨Or.inl (by assumption), by assumption⟩ | omega) | decide | exact ⟨Or.inl (by assumption), by assumption⟩ | exact ⟨by assumption, by assumption⟩ | omega)⟩, (by first | assumption | (simp only [r9, r0, r1, r2, r3, s1, s2, q0, q1, rc, q3, q4, q5, q6, q7, q8, d1, n8, pr_8_8, pr_8_m3, pr_i_0, pr_i_1, pr_i_m1]; first | assumption | decide | exact ⟨by assumption, by assumption⟩ | exact ⟨Or.inl (by assumption), by assumption⟩ | omega) | decide | exact ⟨Or.inl (by assumption), by assumption⟩ | exact ⟨by assumption, by assumption⟩ | omega)⟩, trivial⟩, (by first | assumption | (simp only [r9, r0, r1, r2, r3, s1, s2, q0, q1, rc, q3, q4, q5, q6, q7, q8, d1, n8, pr_8_8, pr_8_m3, pr_i_0, pr_i_1, pr_i_m1]; first | assumption | decide | exact ⟨by assumption, by assumption⟩ | exact ⟨Or.inl (by assumption), by assumption⟩ | omega) | decide | exact ⟨Or.inl (by assumption), by assumption⟩ | exact ⟨by assumption, by assumption⟩ | omega)⟩, (by first | assumption | (simp only [r9, r0, r1, r2, r3, s1, s2, q0, q1, rc, q3, q4, q5, q6, q7, q8, d1, n8, pr_8_8, pr_8_m3, pr_i_0, pr_i_1, pr_i_m1]; first | assumption | decide | exact ⟨by assumption, by assumption⟩ | exact ⟨Or.inl (by assumption), by assumption⟩ | omega) | decide | exact ⟨Or.inl (by assumption), by assumption⟩ | exact ⟨by assumption, by assumption⟩ | omega)⟩, trivial⟩, (by first | assumption | (simp only [r9, r0, r1, r2, r3, s1, s2, q0, q1, rc, q3, q4, q5, q6, q7, q8, d1, n8, pr_8_8, pr_8_m3, pr_i_0, pr_i_1, pr_i_m1]; first | assumption | decide | exact ⟨by assumption, by assumption⟩ | exact ⟨Or.inl (by assumption), by assumption⟩ | omega) | decide | exact ⟨Or.inl (by assumption), by assumption⟩ | exact ⟨by assumption, by assumption⟩ | omega)⟩, (by first | assumption | (simp only [r9, r0, r1, r2, r3, s1, s2, q0, q1, rc, q3, q4, q5, q6, q7, q8, d1, n8, pr_8_8, pr_8_m3, pr_i_0, pr_i_1, pr_i_m1]; first | assumption | decide | exact ⟨by assumption, by assumption⟩ | exact ⟨Or.inl (by assumption), by assumption⟩ | omega) | decide | exact ⟨Or.inl (by assumption), by assumption⟩ | exact ⟨by assumption, by assumption⟩ | omega)⟩, trivial⟩, (by first | assumption | (simp only [r9, r0, r1, r2, r3, s1, s2, q0, q1, rc, q3, q4, q5, q6, q7, q8, d1, n8, pr_8_8, pr_8_m3, pr_i_0, pr_i_1, pr_i_m1]; first | assumption | decide | exact ⟨by assumption, by assumption⟩ | exact ⟨Or.inl (by assumption), by assumption⟩ | omega) | decide | exact ⟨Or.inl (by assumption), by assumption⟩ | exact ⟨by assumption, by assumption⟩ | omega)⟩, (by first | assumption | (simp only [r9, r0, r1, r2, r3, s1, s2, q0, q1, rc, q3, q4, q5, q6, q7, q8, d1, n8, pr_8_8, pr_8_m3, pr_i_0, pr_i_1, pr_i_m1]; first | assumption | decide | exact ⟨by assumption, by assumption⟩ | exact ⟨Or.inl (by assumption), by assumption⟩ | omega) | decide | exact ⟨Or.inl (by assumption), by assumption⟩ | exact ⟨by assumption, by assumption⟩ | omega)⟩, (by first | assumption | (simp only [r9, r0, r1, r2, r3, s1, s2, q0, q1, rc, q3, q4, q5, q6, q7, q8, d1, n8, pr_8_8, pr_8_m3, pr_i_0, pr_i_1, pr_i_m1]; first | assumption | decide | exact ⟨by assumption, by assumption⟩ | exact ⟨Or.inl (by assumption), by assumption⟩ | omega) | decide | exact ⟨Or.inl (by assumption), by assumption⟩ | exact ⟨by assumption, by assumption⟩ | omega)⟩, (by first | assumption | (simp only [r9, r0, r1, r2, r3, s1, s2, q0, q1, rc, q3, q4, q5, q6, q7, q8, d1, n8, pr_8_8, pr_8_m3, pr_i_0, pr_i_1, pr_i_m1]; first | assumption | decide | exact ⟨by assumption, by assumption⟩ | exact ⟨Or.inl (by assumption), by assumption⟩ | omega) | decide | exact ⟨Or.inl (by assumption), by assumption⟩ | exact ⟨by assumption, by assumption⟩ | omega)⟩, (by first | assumption | (simp only [r9, r0, r1, r2, r3, s1, s2, q0, q1, rc, q3, q4, q5, q6, q7, q8, d1, n8, pr_8_8, pr_8_m3, pr_i_0, pr_i_1, pr_i_m1]; first | assumption | decide | exact ⟨by assumption, by assumption⟩ | exact ⟨Or.inl (by assumption), by assumption⟩ | omega) | decide | exact ⟨Or.inl (by assumption), by assumption⟩ | exact ⟨by assumption, by assumption⟩ | omega)⟩, (by first | assumption | (simp only [r9, r0, r1, r2, r3, s1, s2, q0, q1, rc, q3, q4, q5, q6, q7, q8, d1, n8, pr_8_8, pr_8_m3, pr_i_0, pr_i_1, pr_i_m1]; first | assumption | decide | exact ⟨by assumption, by assumption⟩ | exact ⟨Or.inl (by assumption), by assumption⟩ | omega) | decide | exact ⟨Or.inl (by assumption), by assumption⟩ | exact ⟨by assumption, by assumption⟩ | omega)⟩, trivial⟩, (by first | assumption | (simp only [r9, r0, r1, r2, r3, s1, s2, q0, q1, rc, q3, q4, q5, q6, q7, q8, d1, n8, pr_8_8, pr_8_m3, pr_i_0, pr_i_1, pr_i_m1]; first | assumption | decide | exact ⟨by assumption, by assumption⟩ | exact ⟨Or.inl (by assumption), by assumption⟩ | omega) | decide | exact ⟨Or.inl (by assumption), by assumption⟩ | exact ⟨by assumption, by assumption⟩ | omega)⟩ ?_
              try simp only [r9, r0, r1, r2, r3, s1, s2, q0, q1, rc, q3, q4, q5, q6, q7, q8, d1, n8, pr_8_8, pr_8_m3, pr_i_0, pr_i_1, pr_i_m1]
              fail "no call@71 yX2_copy"
          · simp only [ab_cmp, pr_8_8, pr_8_m3, pr_i_0, pr_i_1, pr_i_m1] at h27
            first
            | contradiction
            | exact absurd trivial h27
            | exact absurd h27 (by decide)
            | exact absurd (Classical.not_not.mp h27) (by decide)
            | skip
              refine pr_seqT (pc' := 32) 1 rfl ⟨trivial, trivial⟩ ?_
              try simp only [r9, r0, r1, r2, r3, s1, s2, q0, q1, rc, q3, q4, q5, q6, q7, q8, d1, n8, pr_8_8, pr_8_m3, pr_i_0, pr_i_1, pr_i_m1]
              exact pr_irT rfl trivial (by exact cp_s hl hv)
      · simp only [ab_cmp, pr_8_8, pr_8_m3, pr_i_0, pr_i_1, pr_i_m1] at h8
        first
        | contradiction
        | exact absurd trivial h8
        | exact absurd h8 (by decide)
        | exact absurd (Classical.not_not.mp h8) (by decide)
        | skip
          refine pr_seqT (pc' := 12) 1 rfl ⟨trivial, trivial⟩ ?_
          try simp only [r9, r0, r1, r2, r3, s1, s2, q0, q1, rc, q3, q4, q5, q6, q7, q8, d1, n8, pr_8_8, pr_8_m3, pr_i_0, pr_i_1, pr_i_m1]
          exact pr_irT rfl trivial (by first | rfl | (simp only [r9, r0, r1, r2, r3, s1, s2, q0, q1, rc, q3, q4, q5, q6, q7, q8, d1, n8, pr_8_8, pr_8_m3, pr_i_0, pr_i_1, pr_i_m1]; done) | (simp [pr_b, pr_8_8, pr_8_m3, pr_i_0, pr_i_1, pr_i_m1, *]; done) | (simp_all [pr_b, pr_8_8, pr_8_m3, pr_i_0, pr_i_1, pr_i_m1]; done))
theorem cl_img {I I' : Nat → Nat → Int32} {b : Bool} {X : St} {k : Nat} {o : Option Ld} (hv : cl_v I b X) (hk : k < 2) (hf : ∀ a, (a < 110 + 27 * k ∨ 110 + 27 * k + 27 ≤ a) → a ≠ 65 → I' a = I a) (h5 : ∀ j, j ≠ k → I' 65 j = I 65 j) (ho : im_v I' k o) : cl_v I' b (X.1, va_up X.2.1 k o, X.2.2) := by
  have hb := tB_r b
  obtain ⟨v1, v2, v3, v4, v5, v6⟩ := hv
  refine ⟨?_, fun k' hk' => ?_, fun k' hk' => sh_v_congr (hf _ (by omega) (by omega)) (hf _ (by omega) (by omega)) (v3 k' hk'), tp_v_congr (hf 2 (by omega) (by omega)) (hf 3 (by omega) (by omega)) v4, by rw [hf 1 (by omega) (by omega)]; exact v5, by rw [hf 1 (by omega) (by omega)]; exact v6⟩
  · obtain ⟨w1, w2, w3, w4, w5, w6, w7⟩ := v1
    refine ⟨ld_v_congr (fun a _ _ => hf a (by omega) (by omega)) w1, by rw [hf _ (by omega) (by omega)]; exact w2, w3, by rw [hf _ (by omega) (by omega)]; exact w4, w5, fun q w hq => ?_, fun i kk hkk => ?_⟩
    · have hl : q < X.1.2.1.length := (List.getElem?_eq_some_iff.mp hq).1
      exact ⟨nm_v_congr (hf _ (by omega) (by omega)) (hf _ (by omega) (by omega)) (w6 q w hq).1, (w6 q w hq).2⟩
    · rw [hf _ (by omega) (by omega), hf _ (by omega) (by omega)]
      exact w7 i kk hkk
  · show im_v I' k' (va_up X.2.1 k o k')
    by_cases e : k' = k
    · subst e; rw [va_up_at]; exact ho
    · rw [va_up_n e]; exact im_v_congr hk' (h5 k' e) (fun a x1 x2 => hf a (by omega) (by omega)) (v2 k' hk')
theorem im_b {I : Nat → Nat → Int32} {k : Nat} {o : Option Ld} (h : im_v I k o) : I 65 k = pr_b o.isSome := by
  cases o with
  | none => exact h
  | some d => exact h.1
theorem p_keep {b : Bool} {X : St} (v : Int32) (h : ab_H) (M : ab_M) (hl : Lay h M.2.2 b) (hv : cl_v M.1 b X) : pr_X pX10_keep [.ref 1, .int v] h M (cp h M (f_keep X v)) := by
  obtain ⟨k1, q0, q1, rc, q3, q4, q5, q6, q7, q8, r9⟩ := id hl.1
  have ht := ly_told hl
  obtain ⟨t0, t1, r0, r1, r2, r3, hg, ⟨ka, kb⟩, ⟨kc, kd⟩, ⟨ke, kf⟩, hnm⟩ := id ht
  obtain ⟨g0, g1, s1, s2, m1, m2, ⟨m3, m4⟩, hon⟩ := id hg
  obtain ⟨hT, hIm, hSh, hTp, hFa, hTo⟩ := id hv
  obtain ⟨hd, v2, v3, v4, v5, v6, v7⟩ := id hT
  obtain ⟨d1, d2, d3, d4, d5, d6, d7, d8⟩ := id hd
  have b0 := tB_ne b
  have hc := hl.2.2.2.2.2.1
  have hb : 49 + 5 < tB b + 1 ∨ tB b + 1 + 27 ≤ 49 := by cases b <;> decide
  have hb2 : 63 < tB b ∧ tB b + 43 ≤ 110 ∨ 5 < tB b ∧ tB b + 43 ≤ 49 := by cases b <;> decide
  have c1 := hc.2.1
  unfold f_keep
  have hp := c_within v 0 1 h M
  rcases pr_rg v 1 1 rfl (by decide) with z | ⟨k, hk, rfl, z⟩
  · rw [z] at hp ⊢
    refine pr_seqT (pc' := 3) 3 rfl ⟨⟨⟨trivial, trivial⟩, trivial⟩, trivial⟩ ?_
    try simp only [r9, r0, r1, r2, r3, s1, s2, q0, q1, rc, q3, q4, q5, q6, q7, q8, pr_i_0, pr_i_1, pr_i_m1]
    refine pr_csT [_, _, _] rfl rfl rfl rfl rfl (Nat.le_of_ble_eq_true rfl) (Nat.le_of_ble_eq_true rfl) (hp) ?_
    refine pr_ifT rfl (fun h6 => ?_) (fun h6 => ?_)
    · simp only [ab_cmp, pr_i_0, pr_i_1, pr_i_m1] at h6
      first
      | contradiction
      | exact absurd trivial h6
      | exact absurd h6 (by decide)
      | exact absurd (Classical.not_not.mp h6) (by decide)
      | skip
        refine pr_seqT (pc' := 17) 4 rfl ⟨⟨⟨⟨trivial, (by first | assumption | (simp only [r9, r0, r1, r2, r3, s1, s2, q0, q1, rc, q3, q4, q5, q6, q7, q8, pr_i_0, pr_i_1, pr_i_m1]; first | assumption | decide | exact ⟨by assumption, by assumption⟩ | exact ⟨Or.inl (by assumption), by assumption⟩ | omega) | decide | exact ⟨Or.inl (by assumption), by assumption⟩ | exact ⟨by assumption, by assumption⟩ | omega)⟩, (by first | assumption | (simp only [r9, r0, r1, r2, r3, s1, s2, q0, q1, rc, q3, q4, q5, q6, q7, q8, pr_i_0, pr_i_1, pr_i_m1]; first | assumption | decide | exact ⟨by assumption, by assumption⟩ | exact ⟨Or.inl (by assumption), by assumption⟩ | omega) | decide | exact ⟨Or.inl (by assumption), by assumption⟩ | exact ⟨by assumption, by assumption⟩ | omega)⟩, trivial⟩, (by first | assumption | (simp only [r9, r0, r1, r2, r3, s1, s2, q0, q1, rc, q3, q4, q5, q6, q7, q8, pr_i_0, pr_i_1, pr_i_m1]; first | assumption | decide | exact ⟨by assumption, by assumption⟩ | exact ⟨Or.inl (by assumption), by assumption⟩ | omega) | decide | exact ⟨Or.inl (by assumption), by assumption⟩ | exact ⟨by assumption, by assumption⟩ | omega)⟩ ?_
        try simp only [r9, r0, r1, r2, r3, s1, s2, q0, q1, rc, q3, q4, q5, q6, q7, q8, pr_i_0, pr_i_1, pr_i_m1]
        refine pr_ifT rfl (fun h17 => ?_) (fun h17 => ?_)
        · simp only [ab_cmp, pr_i_0, pr_i_1, pr_i_m1] at h17
          first
          | contradiction
          | exact absurd trivial h17
          | exact absurd h17 (by decide)
          | exact absurd (Classical.not_not.mp h17) (by decide)
          | skip
            refine pr_seqT (pc' := 39) 9 rfl ⟨⟨⟨⟨⟨⟨⟨⟨⟨trivial, trivial⟩, trivial⟩, (by first | assumption | (simp only [r9, r0, r1, r2, r3, s1, s2, q0, q1, rc, q3, q4, q5, q6, q7, q8, pr_i_0, pr_i_1, pr_i_m1]; first | assumption | decide | exact ⟨by assumption, by assumption⟩ | exact ⟨Or.inl (by assumption), by assumption⟩ | omega) | decide | exact ⟨Or.inl (by assumption), by assumption⟩ | exact ⟨by assumption, by assumption⟩ | omega)⟩, (by first | assumption | (simp only [r9, r0, r1, r2, r3, s1, s2, q0, q1, rc, q3, q4, q5, q6, q7, q8, pr_i_0, pr_i_1, pr_i_m1]; first | assumption | decide | exact ⟨by assumption, by assumption⟩ | exact ⟨Or.inl (by assumption), by assumption⟩ | omega) | decide | exact ⟨Or.inl (by assumption), by assumption⟩ | exact ⟨by assumption, by assumption⟩ | omega)⟩, trivial⟩, (by first | assumption | (simp only [r9, r0, r1, r2, r3, s1, s2, q0, q1, rc, q3, q4, q5, q6, q7, q8, pr_i_0, pr_i_1, pr_i_m1]; first | assumption | decide | exact ⟨by assumption, by assumption⟩ | exact ⟨Or.inl (by assumption), by assumption⟩ | omega) | decide | exact ⟨Or.inl (by assumption), by assumption⟩ | exact ⟨by assumption, by assumption⟩ | omega)⟩, (by first | assumption | (simp only [r9, r0, r1, r2, r3, s1, s2, q0, q1, rc, q3, q4, q5, q6, q7, q8, pr_i_0, pr_i_1, pr_i_m1]; first | assumption | decide | exact ⟨by assumption, by assumption⟩ | exact ⟨Or.inl (by assumption), by assumption⟩ | omega) | decide | exact ⟨Or.inl (by assumption), by assumption⟩ | exact ⟨by assumption, by assumption⟩ | omega)⟩, (by first | assumption | (simp only [r9, r0, r1, r2, r3, s1, s2, q0, q1, rc, q3, q4, q5, q6, q7, q8, pr_i_0, pr_i_1, pr_i_m1]; first | assumption | decide | exact ⟨by assumption, by assumption⟩ | exact ⟨Or.inl (by assumption), by assumption⟩ | omega) | decide | exact ⟨Or.inl (by assumption), by assumption⟩ | exact ⟨by assumption, by assumption⟩ | omega)⟩, (by first | assumption | (simp only [r9, r0, r1, r2, r3, s1, s2, q0, q1, rc, q3, q4, q5, q6, q7, q8, pr_i_0, pr_i_1, pr_i_m1]; first | assumption | decide | exact ⟨by assumption, by assumption⟩ | exact ⟨Or.inl (by assumption), by assumption⟩ | omega) | decide | exact ⟨Or.inl (by assumption), by assumption⟩ | exact ⟨by assumption, by assumption⟩ | omega)⟩ ?_
            try simp only [r9, r0, r1, r2, r3, s1, s2, q0, q1, rc, q3, q4, q5, q6, q7, q8, pr_i_0, pr_i_1, pr_i_m1]
            fail "no call@39 yX1_copy"
        · simp only [ab_cmp, pr_i_0, pr_i_1, pr_i_m1] at h17
          first
          | contradiction
          | exact absurd trivial h17
          | exact absurd h17 (by decide)
          | exact absurd (Classical.not_not.mp h17) (by decide)
          | skip
            refine pr_seqT (pc' := 39) 10 rfl ⟨⟨⟨⟨⟨⟨⟨⟨⟨⟨trivial, trivial⟩, trivial⟩, trivial⟩, (by first | assumption | (simp only [r9, r0, r1, r2, r3, s1, s2, q0, q1, rc, q3, q4, q5, q6, q7, q8, pr_i_0, pr_i_1, pr_i_m1]; first | assumption | decide | exact ⟨by assumption, by assumption⟩ | exact ⟨Or.inl (by assumption), by assumption⟩ | omega) | decide | exact ⟨Or.inl (by assumption), by assumption⟩ | exact ⟨by assumption, by assumption⟩ | omega)⟩, (by first | assumption | (simp only [r9, r0, r1, r2, r3, s1, s2, q0, q1, rc, q3, q4, q5, q6, q7, q8, pr_i_0, pr_i_1, pr_i_m1]; first | assumption | decide | exact ⟨by assumption, by assumption⟩ | exact ⟨Or.inl (by assumption), by assumption⟩ | omega) | decide | exact ⟨Or.inl (by assumption), by assumption⟩ | exact ⟨by assumption, by assumption⟩ | omega)⟩, trivial⟩, (by first | assumption | (simp only [r9, r0, r1, r2, r3, s1, s2, q0, q1, rc, q3, q4, q5, q6, q7, q8, pr_i_0, pr_i_1, pr_i_m1]; first | assumption | decide | exact ⟨by assumption, by assumption⟩ | exact ⟨Or.inl (by assumption), by assumption⟩ | omega) | decide | exact ⟨Or.inl (by assumption), by assumption⟩ | exact ⟨by assumption, by assumption⟩ | omega)⟩, (by first | assumption | (simp only [r9, r0, r1, r2, r3, s1, s2, q0, q1, rc, q3, q4, q5, q6, q7, q8, pr_i_0, pr_i_1, pr_i_m1]; first | assumption | decide | exact ⟨by assumption, by assumption⟩ | exact ⟨Or.inl (by assumption), by assumption⟩ | omega) | decide | exact ⟨Or.inl (by assumption), by assumption⟩ | exact ⟨by assumption, by assumption⟩ | omega)⟩, (by first | assumption | (simp only [r9, r0, r1, r2, r3, s1, s2, q0, q1, rc, q3, q4, q5, q6, q7, q8, pr_i_0, pr_i_1, pr_i_m1]; first | assumption | decide | exact ⟨by assumption, by assumption⟩ | exact ⟨Or.inl (by assumption), by assumption⟩ | omega) | decide | exact ⟨Or.inl (by assumption), by assumption⟩ | exact ⟨by assumption, by assumption⟩ | omega)⟩, (by first | assumption | (simp only [r9, r0, r1, r2, r3, s1, s2, q0, q1, rc, q3, q4, q5, q6, q7, q8, pr_i_0, pr_i_1, pr_i_m1]; first | assumption | decide | exact ⟨by assumption, by assumption⟩ | exact ⟨Or.inl (by assumption), by assumption⟩ | omega) | decide | exact ⟨Or.inl (by assumption), by assumption⟩ | exact ⟨by assumption, by assumption⟩ | omega)⟩ ?_
            try simp only [r9, r0, r1, r2, r3, s1, s2, q0, q1, rc, q3, q4, q5, q6, q7, q8, pr_i_0, pr_i_1, pr_i_m1]
            fail "no call@39 yX1_copy"
    · simp only [ab_cmp, pr_i_0, pr_i_1, pr_i_m1] at h6
      first
      | contradiction
      | exact absurd trivial h6
      | exact absurd h6 (by decide)
      | exact absurd (Classical.not_not.mp h6) (by decide)
      | skip
        refine pr_seqT (pc' := 10) 1 rfl ⟨trivial, trivial⟩ ?_
        try simp only [r9, r0, r1, r2, r3, s1, s2, q0, q1, rc, q3, q4, q5, q6, q7, q8, pr_i_0, pr_i_1, pr_i_m1]
        exact pr_irT rfl trivial (by exact cp_s hl hv)
  · rw [z] at hp ⊢
    have e4 : (nI k).toNatClampNeg = k := nI_clamp (by omega)
    rw [if_pos rfl, e4]
    obtain ⟨⟨ia, ib⟩, ⟨ic, id'⟩, hi⟩ := hl.2.2.1
    obtain ⟨i1, i2⟩ := hi k (by omega)
    have gi := i2.2.1
    have hkb := im_b (hIm k (by omega))
    have vi : (24 ≤ ab_k h 64 ∧ ab_k h 64 ≤ 27) ∧ vp_in (nI k) (ab_n h 64) := ⟨by rw [ia]; decide, by rw [ib]; exact vp_in_nI (by omega) (by decide)⟩
    have vk : (ab_k h 65 = 21 ∨ ab_k h 65 = 22) ∧ vp_in (nI k) (ab_n h 65) := ⟨Or.inr ic, by rw [id']; exact vp_in_nI (by omega) (by decide)⟩
    have vs : (ab_k h 65 = 21 ∨ ab_k h 65 = 22 ∧ ((1 : Int32) = 0 ∨ (1 : Int32) = 1)) ∧ vp_in (nI k) (ab_n h 65) := ⟨Or.inr ⟨ic, Or.inr rfl⟩, vk.2⟩
    cases hs : (X.2.1 k).isSome with
    | false =>
      rw [hs] at hkb
      refine pr_seqT (pc' := 3) 3 rfl ⟨⟨⟨trivial, trivial⟩, trivial⟩, trivial⟩ ?_
      try simp only [r9, r0, r1, r2, r3, s1, s2, q0, q1, rc, q3, q4, q5, q6, q7, q8, e4, i1, hkb, pr_i_0, pr_i_1, pr_i_m1]
      refine pr_csT [_, _, _] rfl rfl rfl rfl rfl (Nat.le_of_ble_eq_true rfl) (Nat.le_of_ble_eq_true rfl) (hp) ?_
      refine pr_ifT rfl (fun h6 => ?_) (fun h6 => ?_)
      · simp only [ab_cmp, pr_i_0, pr_i_1, pr_i_m1] at h6
        first
        | contradiction
        | exact absurd trivial h6
        | exact absurd h6 (by decide)
        | exact absurd (Classical.not_not.mp h6) (by decide)
        | skip
          refine pr_seqT (pc' := 17) 4 rfl ⟨⟨⟨⟨trivial, (by first | assumption | (simp only [r9, r0, r1, r2, r3, s1, s2, q0, q1, rc, q3, q4, q5, q6, q7, q8, e4, i1, hkb, pr_i_0, pr_i_1, pr_i_m1]; first | assumption | decide | exact ⟨by assumption, by assumption⟩ | exact ⟨Or.inl (by assumption), by assumption⟩ | omega) | decide | exact ⟨Or.inl (by assumption), by assumption⟩ | exact ⟨by assumption, by assumption⟩ | omega)⟩, (by first | assumption | (simp only [r9, r0, r1, r2, r3, s1, s2, q0, q1, rc, q3, q4, q5, q6, q7, q8, e4, i1, hkb, pr_i_0, pr_i_1, pr_i_m1]; first | assumption | decide | exact ⟨by assumption, by assumption⟩ | exact ⟨Or.inl (by assumption), by assumption⟩ | omega) | decide | exact ⟨Or.inl (by assumption), by assumption⟩ | exact ⟨by assumption, by assumption⟩ | omega)⟩, trivial⟩, (by first | assumption | (simp only [r9, r0, r1, r2, r3, s1, s2, q0, q1, rc, q3, q4, q5, q6, q7, q8, e4, i1, hkb, pr_i_0, pr_i_1, pr_i_m1]; first | assumption | decide | exact ⟨by assumption, by assumption⟩ | exact ⟨Or.inl (by assumption), by assumption⟩ | omega) | decide | exact ⟨Or.inl (by assumption), by assumption⟩ | exact ⟨by assumption, by assumption⟩ | omega)⟩ ?_
          try simp only [r9, r0, r1, r2, r3, s1, s2, q0, q1, rc, q3, q4, q5, q6, q7, q8, e4, i1, hkb, pr_i_0, pr_i_1, pr_i_m1]
          refine pr_ifT rfl (fun h17 => ?_) (fun h17 => ?_)
          · simp only [ab_cmp, pr_i_0, pr_i_1, pr_i_m1] at h17
            first
            | contradiction
            | exact absurd trivial h17
            | exact absurd h17 (by decide)
            | exact absurd (Classical.not_not.mp h17) (by decide)
            | skip
              refine pr_seqT (pc' := 39) 9 rfl ⟨⟨⟨⟨⟨⟨⟨⟨⟨trivial, trivial⟩, trivial⟩, (by first | assumption | (simp only [r9, r0, r1, r2, r3, s1, s2, q0, q1, rc, q3, q4, q5, q6, q7, q8, e4, i1, hkb, pr_i_0, pr_i_1, pr_i_m1]; first | assumption | decide | exact ⟨by assumption, by assumption⟩ | exact ⟨Or.inl (by assumption), by assumption⟩ | omega) | decide | exact ⟨Or.inl (by assumption), by assumption⟩ | exact ⟨by assumption, by assumption⟩ | omega)⟩, (by first | assumption | (simp only [r9, r0, r1, r2, r3, s1, s2, q0, q1, rc, q3, q4, q5, q6, q7, q8, e4, i1, hkb, pr_i_0, pr_i_1, pr_i_m1]; first | assumption | decide | exact ⟨by assumption, by assumption⟩ | exact ⟨Or.inl (by assumption), by assumption⟩ | omega) | decide | exact ⟨Or.inl (by assumption), by assumption⟩ | exact ⟨by assumption, by assumption⟩ | omega)⟩, trivial⟩, (by first | assumption | (simp only [r9, r0, r1, r2, r3, s1, s2, q0, q1, rc, q3, q4, q5, q6, q7, q8, e4, i1, hkb, pr_i_0, pr_i_1, pr_i_m1]; first | assumption | decide | exact ⟨by assumption, by assumption⟩ | exact ⟨Or.inl (by assumption), by assumption⟩ | omega) | decide | exact ⟨Or.inl (by assumption), by assumption⟩ | exact ⟨by assumption, by assumption⟩ | omega)⟩, (by first | assumption | (simp only [r9, r0, r1, r2, r3, s1, s2, q0, q1, rc, q3, q4, q5, q6, q7, q8, e4, i1, hkb, pr_i_0, pr_i_1, pr_i_m1]; first | assumption | decide | exact ⟨by assumption, by assumption⟩ | exact ⟨Or.inl (by assumption), by assumption⟩ | omega) | decide | exact ⟨Or.inl (by assumption), by assumption⟩ | exact ⟨by assumption, by assumption⟩ | omega)⟩, (by first | assumption | (simp only [r9, r0, r1, r2, r3, s1, s2, q0, q1, rc, q3, q4, q5, q6, q7, q8, e4, i1, hkb, pr_i_0, pr_i_1, pr_i_m1]; first | assumption | decide | exact ⟨by assumption, by assumption⟩ | exact ⟨Or.inl (by assumption), by assumption⟩ | omega) | decide | exact ⟨Or.inl (by assumption), by assumption⟩ | exact ⟨by assumption, by assumption⟩ | omega)⟩, (by first | assumption | (simp only [r9, r0, r1, r2, r3, s1, s2, q0, q1, rc, q3, q4, q5, q6, q7, q8, e4, i1, hkb, pr_i_0, pr_i_1, pr_i_m1]; first | assumption | decide | exact ⟨by assumption, by assumption⟩ | exact ⟨Or.inl (by assumption), by assumption⟩ | omega) | decide | exact ⟨Or.inl (by assumption), by assumption⟩ | exact ⟨by assumption, by assumption⟩ | omega)⟩ ?_
              try simp only [r9, r0, r1, r2, r3, s1, s2, q0, q1, rc, q3, q4, q5, q6, q7, q8, e4, i1, hkb, pr_i_0, pr_i_1, pr_i_m1]
              refine pr_cvX [_] rfl rfl rfl rfl rfl (Nat.le_of_ble_eq_true rfl) (by first | assumption | (simp only [r9, r0, r1, r2, r3, s1, s2, q0, q1, rc, q3, q4, q5, q6, q7, q8, e4, i1, hkb, pr_i_0, pr_i_1, pr_i_m1]; first | assumption | decide | exact ⟨by assumption, by assumption⟩ | exact ⟨Or.inl (by assumption), by assumption⟩ | omega) | decide | exact ⟨Or.inl (by assumption), by assumption⟩ | exact ⟨by assumption, by assumption⟩ | omega) (Nat.le_of_ble_eq_true rfl) (c_lcopy h M i2 hg (by omega) hd) (fun v39 M39 q39 => ?_)
              obtain ⟨rfl, z2, z3, z4⟩ := q39
              obtain ⟨I1, Z1⟩ := M39
              dsimp only at z2 z3 z4
              subst z2
              refine pr_seqT (pc' := 50) 6 rfl ⟨⟨⟨⟨⟨⟨trivial, (by first | assumption | (simp only [r9, r0, r1, r2, r3, s1, s2, q0, q1, rc, q3, q4, q5, q6, q7, q8, e4, i1, hkb, pr_i_0, pr_i_1, pr_i_m1]; first | assumption | decide | exact ⟨by assumption, by assumption⟩ | exact ⟨Or.inl (by assumption), by assumption⟩ | omega) | decide | exact ⟨Or.inl (by assumption), by assumption⟩ | exact ⟨by assumption, by assumption⟩ | omega)⟩, (by first | assumption | (simp only [r9, r0, r1, r2, r3, s1, s2, q0, q1, rc, q3, q4, q5, q6, q7, q8, e4, i1, hkb, pr_i_0, pr_i_1, pr_i_m1]; first | assumption | decide | exact ⟨by assumption, by assumption⟩ | exact ⟨Or.inl (by assumption), by assumption⟩ | omega) | decide | exact ⟨Or.inl (by assumption), by assumption⟩ | exact ⟨by assumption, by assumption⟩ | omega)⟩, trivial⟩, trivial⟩, (by (show (ab_k h (M.2.2 1 7) = 21 ∨ ab_k h (M.2.2 1 7) = 22 ∧ ((1 : Int32) = 0 ∨ (1 : Int32) = 1)) ∧ vp_in (nI k) (ab_n h (M.2.2 1 7))); rw [q7]; exact vs)⟩, trivial⟩ ?_
              try simp only [r9, r0, r1, r2, r3, s1, s2, q0, q1, rc, q3, q4, q5, q6, q7, q8, e4, i1, hkb, pr_i_0, pr_i_1, pr_i_m1]
              refine pr_irT rfl trivial (cp_I hl (cl_img hv (by omega) (fun a x1 x2 => by rw [ab_u_ne (by omega), z4 a (by omega)]) (fun j hj => by rw [ab_u_j hj, z4 65 (by omega)]) ⟨by rw [ab_u_at]; rfl, ld_v_congr (fun a _ _ => ab_u_ne (by omega)) z3⟩) (fun a ha => by rw [ab_u_ne (by omega), z4 a (by omega)]))
          · simp only [ab_cmp, pr_i_0, pr_i_1, pr_i_m1] at h17
            first
            | contradiction
            | exact absurd trivial h17
            | exact absurd h17 (by decide)
            | exact absurd (Classical.not_not.mp h17) (by decide)
            | skip
              refine pr_seqT (pc' := 39) 10 rfl ⟨⟨⟨⟨⟨⟨⟨⟨⟨⟨trivial, trivial⟩, trivial⟩, trivial⟩, (by first | assumption | (simp only [r9, r0, r1, r2, r3, s1, s2, q0, q1, rc, q3, q4, q5, q6, q7, q8, e4, i1, hkb, pr_i_0, pr_i_1, pr_i_m1]; first | assumption | decide | exact ⟨by assumption, by assumption⟩ | exact ⟨Or.inl (by assumption), by assumption⟩ | omega) | decide | exact ⟨Or.inl (by assumption), by assumption⟩ | exact ⟨by assumption, by assumption⟩ | omega)⟩, (by first | assumption | (simp only [r9, r0, r1, r2, r3, s1, s2, q0, q1, rc, q3, q4, q5, q6, q7, q8, e4, i1, hkb, pr_i_0, pr_i_1, pr_i_m1]; first | assumption | decide | exact ⟨by assumption, by assumption⟩ | exact ⟨Or.inl (by assumption), by assumption⟩ | omega) | decide | exact ⟨Or.inl (by assumption), by assumption⟩ | exact ⟨by assumption, by assumption⟩ | omega)⟩, trivial⟩, (by first | assumption | (simp only [r9, r0, r1, r2, r3, s1, s2, q0, q1, rc, q3, q4, q5, q6, q7, q8, e4, i1, hkb, pr_i_0, pr_i_1, pr_i_m1]; first | assumption | decide | exact ⟨by assumption, by assumption⟩ | exact ⟨Or.inl (by assumption), by assumption⟩ | omega) | decide | exact ⟨Or.inl (by assumption), by assumption⟩ | exact ⟨by assumption, by assumption⟩ | omega)⟩, (by first | assumption | (simp only [r9, r0, r1, r2, r3, s1, s2, q0, q1, rc, q3, q4, q5, q6, q7, q8, e4, i1, hkb, pr_i_0, pr_i_1, pr_i_m1]; first | assumption | decide | exact ⟨by assumption, by assumption⟩ | exact ⟨Or.inl (by assumption), by assumption⟩ | omega) | decide | exact ⟨Or.inl (by assumption), by assumption⟩ | exact ⟨by assumption, by assumption⟩ | omega)⟩, (by first | assumption | (simp only [r9, r0, r1, r2, r3, s1, s2, q0, q1, rc, q3, q4, q5, q6, q7, q8, e4, i1, hkb, pr_i_0, pr_i_1, pr_i_m1]; first | assumption | decide | exact ⟨by assumption, by assumption⟩ | exact ⟨Or.inl (by assumption), by assumption⟩ | omega) | decide | exact ⟨Or.inl (by assumption), by assumption⟩ | exact ⟨by assumption, by assumption⟩ | omega)⟩, (by first | assumption | (simp only [r9, r0, r1, r2, r3, s1, s2, q0, q1, rc, q3, q4, q5, q6, q7, q8, e4, i1, hkb, pr_i_0, pr_i_1, pr_i_m1]; first | assumption | decide | exact ⟨by assumption, by assumption⟩ | exact ⟨Or.inl (by assumption), by assumption⟩ | omega) | decide | exact ⟨Or.inl (by assumption), by assumption⟩ | exact ⟨by assumption, by assumption⟩ | omega)⟩ ?_
              try simp only [r9, r0, r1, r2, r3, s1, s2, q0, q1, rc, q3, q4, q5, q6, q7, q8, e4, i1, hkb, pr_i_0, pr_i_1, pr_i_m1]
              refine pr_cvX [_] rfl rfl rfl rfl rfl (Nat.le_of_ble_eq_true rfl) (by first | assumption | (simp only [r9, r0, r1, r2, r3, s1, s2, q0, q1, rc, q3, q4, q5, q6, q7, q8, e4, i1, hkb, pr_i_0, pr_i_1, pr_i_m1]; first | assumption | decide | exact ⟨by assumption, by assumption⟩ | exact ⟨Or.inl (by assumption), by assumption⟩ | omega) | decide | exact ⟨Or.inl (by assumption), by assumption⟩ | exact ⟨by assumption, by assumption⟩ | omega) (Nat.le_of_ble_eq_true rfl) (c_lcopy h M i2 hg (by omega) hd) (fun v39 M39 q39 => ?_)
              obtain ⟨rfl, z2, z3, z4⟩ := q39
              obtain ⟨I1, Z1⟩ := M39
              dsimp only at z2 z3 z4
              subst z2
              refine pr_seqT (pc' := 50) 6 rfl ⟨⟨⟨⟨⟨⟨trivial, (by first | assumption | (simp only [r9, r0, r1, r2, r3, s1, s2, q0, q1, rc, q3, q4, q5, q6, q7, q8, e4, i1, hkb, pr_i_0, pr_i_1, pr_i_m1]; first | assumption | decide | exact ⟨by assumption, by assumption⟩ | exact ⟨Or.inl (by assumption), by assumption⟩ | omega) | decide | exact ⟨Or.inl (by assumption), by assumption⟩ | exact ⟨by assumption, by assumption⟩ | omega)⟩, (by first | assumption | (simp only [r9, r0, r1, r2, r3, s1, s2, q0, q1, rc, q3, q4, q5, q6, q7, q8, e4, i1, hkb, pr_i_0, pr_i_1, pr_i_m1]; first | assumption | decide | exact ⟨by assumption, by assumption⟩ | exact ⟨Or.inl (by assumption), by assumption⟩ | omega) | decide | exact ⟨Or.inl (by assumption), by assumption⟩ | exact ⟨by assumption, by assumption⟩ | omega)⟩, trivial⟩, trivial⟩, (by (show (ab_k h (M.2.2 1 7) = 21 ∨ ab_k h (M.2.2 1 7) = 22 ∧ ((1 : Int32) = 0 ∨ (1 : Int32) = 1)) ∧ vp_in (nI k) (ab_n h (M.2.2 1 7))); rw [q7]; exact vs)⟩, trivial⟩ ?_
              try simp only [r9, r0, r1, r2, r3, s1, s2, q0, q1, rc, q3, q4, q5, q6, q7, q8, e4, i1, hkb, pr_i_0, pr_i_1, pr_i_m1]
              refine pr_irT rfl trivial (cp_I hl (cl_img hv (by omega) (fun a x1 x2 => by rw [ab_u_ne (by omega), z4 a (by omega)]) (fun j hj => by rw [ab_u_j hj, z4 65 (by omega)]) ⟨by rw [ab_u_at]; rfl, ld_v_congr (fun a _ _ => ab_u_ne (by omega)) z3⟩) (fun a ha => by rw [ab_u_ne (by omega), z4 a (by omega)]))
      · simp only [ab_cmp, pr_i_0, pr_i_1, pr_i_m1] at h6
        first
        | contradiction
        | exact absurd trivial h6
        | exact absurd h6 (by decide)
        | exact absurd (Classical.not_not.mp h6) (by decide)
        | skip
          refine pr_seqT (pc' := 10) 1 rfl ⟨trivial, trivial⟩ ?_
          try simp only [r9, r0, r1, r2, r3, s1, s2, q0, q1, rc, q3, q4, q5, q6, q7, q8, e4, i1, hkb, pr_i_0, pr_i_1, pr_i_m1]
          exact pr_irT rfl trivial (by first | rfl | (simp only [r9, r0, r1, r2, r3, s1, s2, q0, q1, rc, q3, q4, q5, q6, q7, q8, e4, i1, hkb, pr_i_0, pr_i_1, pr_i_m1]; done) | (simp [pr_b, pr_i_0, pr_i_1, pr_i_m1, *]; done) | (simp_all [pr_b, pr_i_0, pr_i_1, pr_i_m1]; done))
    | true =>
      rw [hs] at hkb
      refine pr_seqT (pc' := 3) 3 rfl ⟨⟨⟨trivial, trivial⟩, trivial⟩, trivial⟩ ?_
      try simp only [r9, r0, r1, r2, r3, s1, s2, q0, q1, rc, q3, q4, q5, q6, q7, q8, e4, i1, hkb, pr_i_0, pr_i_1, pr_i_m1]
      refine pr_csT [_, _, _] rfl rfl rfl rfl rfl (Nat.le_of_ble_eq_true rfl) (Nat.le_of_ble_eq_true rfl) (hp) ?_
      refine pr_ifT rfl (fun h6 => ?_) (fun h6 => ?_)
      · simp only [ab_cmp, pr_i_0, pr_i_1, pr_i_m1] at h6
        first
        | contradiction
        | exact absurd trivial h6
        | exact absurd h6 (by decide)
        | exact absurd (Classical.not_not.mp h6) (by decide)
        | skip
          refine pr_seqT (pc' := 17) 4 rfl ⟨⟨⟨⟨trivial, (by first | assumption | (simp only [r9, r0, r1, r2, r3, s1, s2, q0, q1, rc, q3, q4, q5, q6, q7, q8, e4, i1, hkb, pr_i_0, pr_i_1, pr_i_m1]; first | assumption | decide | exact ⟨by assumption, by assumption⟩ | exact ⟨Or.inl (by assumption), by assumption⟩ | omega) | decide | exact ⟨Or.inl (by assumption), by assumption⟩ | exact ⟨by assumption, by assumption⟩ | omega)⟩, (by first | assumption | (simp only [r9, r0, r1, r2, r3, s1, s2, q0, q1, rc, q3, q4, q5, q6, q7, q8, e4, i1, hkb, pr_i_0, pr_i_1, pr_i_m1]; first | assumption | decide | exact ⟨by assumption, by assumption⟩ | exact ⟨Or.inl (by assumption), by assumption⟩ | omega) | decide | exact ⟨Or.inl (by assumption), by assumption⟩ | exact ⟨by assumption, by assumption⟩ | omega)⟩, trivial⟩, (by first | assumption | (simp only [r9, r0, r1, r2, r3, s1, s2, q0, q1, rc, q3, q4, q5, q6, q7, q8, e4, i1, hkb, pr_i_0, pr_i_1, pr_i_m1]; first | assumption | decide | exact ⟨by assumption, by assumption⟩ | exact ⟨Or.inl (by assumption), by assumption⟩ | omega) | decide | exact ⟨Or.inl (by assumption), by assumption⟩ | exact ⟨by assumption, by assumption⟩ | omega)⟩ ?_
          try simp only [r9, r0, r1, r2, r3, s1, s2, q0, q1, rc, q3, q4, q5, q6, q7, q8, e4, i1, hkb, pr_i_0, pr_i_1, pr_i_m1]
          refine pr_ifT rfl (fun h17 => ?_) (fun h17 => ?_)
          · simp only [ab_cmp, pr_i_0, pr_i_1, pr_i_m1] at h17
            first
            | contradiction
            | exact absurd trivial h17
            | exact absurd h17 (by decide)
            | exact absurd (Classical.not_not.mp h17) (by decide)
            | skip
              refine pr_seqT (pc' := 39) 9 rfl ⟨⟨⟨⟨⟨⟨⟨⟨⟨trivial, trivial⟩, trivial⟩, (by first | assumption | (simp only [r9, r0, r1, r2, r3, s1, s2, q0, q1, rc, q3, q4, q5, q6, q7, q8, e4, i1, hkb, pr_i_0, pr_i_1, pr_i_m1]; first | assumption | decide | exact ⟨by assumption, by assumption⟩ | exact ⟨Or.inl (by assumption), by assumption⟩ | omega) | decide | exact ⟨Or.inl (by assumption), by assumption⟩ | exact ⟨by assumption, by assumption⟩ | omega)⟩, (by first | assumption | (simp only [r9, r0, r1, r2, r3, s1, s2, q0, q1, rc, q3, q4, q5, q6, q7, q8, e4, i1, hkb, pr_i_0, pr_i_1, pr_i_m1]; first | assumption | decide | exact ⟨by assumption, by assumption⟩ | exact ⟨Or.inl (by assumption), by assumption⟩ | omega) | decide | exact ⟨Or.inl (by assumption), by assumption⟩ | exact ⟨by assumption, by assumption⟩ | omega)⟩, trivial⟩, (by first | assumption | (simp only [r9, r0, r1, r2, r3, s1, s2, q0, q1, rc, q3, q4, q5, q6, q7, q8, e4, i1, hkb, pr_i_0, pr_i_1, pr_i_m1]; first | assumption | decide | exact ⟨by assumption, by assumption⟩ | exact ⟨Or.inl (by assumption), by assumption⟩ | omega) | decide | exact ⟨Or.inl (by assumption), by assumption⟩ | exact ⟨by assumption, by assumption⟩ | omega)⟩, (by first | assumption | (simp only [r9, r0, r1, r2, r3, s1, s2, q0, q1, rc, q3, q4, q5, q6, q7, q8, e4, i1, hkb, pr_i_0, pr_i_1, pr_i_m1]; first | assumption | decide | exact ⟨by assumption, by assumption⟩ | exact ⟨Or.inl (by assumption), by assumption⟩ | omega) | decide | exact ⟨Or.inl (by assumption), by assumption⟩ | exact ⟨by assumption, by assumption⟩ | omega)⟩, (by first | assumption | (simp only [r9, r0, r1, r2, r3, s1, s2, q0, q1, rc, q3, q4, q5, q6, q7, q8, e4, i1, hkb, pr_i_0, pr_i_1, pr_i_m1]; first | assumption | decide | exact ⟨by assumption, by assumption⟩ | exact ⟨Or.inl (by assumption), by assumption⟩ | omega) | decide | exact ⟨Or.inl (by assumption), by assumption⟩ | exact ⟨by assumption, by assumption⟩ | omega)⟩, (by first | assumption | (simp only [r9, r0, r1, r2, r3, s1, s2, q0, q1, rc, q3, q4, q5, q6, q7, q8, e4, i1, hkb, pr_i_0, pr_i_1, pr_i_m1]; first | assumption | decide | exact ⟨by assumption, by assumption⟩ | exact ⟨Or.inl (by assumption), by assumption⟩ | omega) | decide | exact ⟨Or.inl (by assumption), by assumption⟩ | exact ⟨by assumption, by assumption⟩ | omega)⟩ ?_
              try simp only [r9, r0, r1, r2, r3, s1, s2, q0, q1, rc, q3, q4, q5, q6, q7, q8, e4, i1, hkb, pr_i_0, pr_i_1, pr_i_m1]
              refine pr_cvX [_] rfl rfl rfl rfl rfl (Nat.le_of_ble_eq_true rfl) (by first | assumption | (simp only [r9, r0, r1, r2, r3, s1, s2, q0, q1, rc, q3, q4, q5, q6, q7, q8, e4, i1, hkb, pr_i_0, pr_i_1, pr_i_m1]; first | assumption | decide | exact ⟨by assumption, by assumption⟩ | exact ⟨Or.inl (by assumption), by assumption⟩ | omega) | decide | exact ⟨Or.inl (by assumption), by assumption⟩ | exact ⟨by assumption, by assumption⟩ | omega) (Nat.le_of_ble_eq_true rfl) (c_lcopy h M i2 hg (by omega) hd) (fun v39 M39 q39 => ?_)
              obtain ⟨rfl, z2, z3, z4⟩ := q39
              obtain ⟨I1, Z1⟩ := M39
              dsimp only at z2 z3 z4
              subst z2
              refine pr_seqT (pc' := 50) 6 rfl ⟨⟨⟨⟨⟨⟨trivial, (by first | assumption | (simp only [r9, r0, r1, r2, r3, s1, s2, q0, q1, rc, q3, q4, q5, q6, q7, q8, e4, i1, hkb, pr_i_0, pr_i_1, pr_i_m1]; first | assumption | decide | exact ⟨by assumption, by assumption⟩ | exact ⟨Or.inl (by assumption), by assumption⟩ | omega) | decide | exact ⟨Or.inl (by assumption), by assumption⟩ | exact ⟨by assumption, by assumption⟩ | omega)⟩, (by first | assumption | (simp only [r9, r0, r1, r2, r3, s1, s2, q0, q1, rc, q3, q4, q5, q6, q7, q8, e4, i1, hkb, pr_i_0, pr_i_1, pr_i_m1]; first | assumption | decide | exact ⟨by assumption, by assumption⟩ | exact ⟨Or.inl (by assumption), by assumption⟩ | omega) | decide | exact ⟨Or.inl (by assumption), by assumption⟩ | exact ⟨by assumption, by assumption⟩ | omega)⟩, trivial⟩, trivial⟩, (by (show (ab_k h (M.2.2 1 7) = 21 ∨ ab_k h (M.2.2 1 7) = 22 ∧ ((1 : Int32) = 0 ∨ (1 : Int32) = 1)) ∧ vp_in (nI k) (ab_n h (M.2.2 1 7))); rw [q7]; exact vs)⟩, trivial⟩ ?_
              try simp only [r9, r0, r1, r2, r3, s1, s2, q0, q1, rc, q3, q4, q5, q6, q7, q8, e4, i1, hkb, pr_i_0, pr_i_1, pr_i_m1]
              refine pr_irT rfl trivial (cp_I hl (cl_img hv (by omega) (fun a x1 x2 => by rw [ab_u_ne (by omega), z4 a (by omega)]) (fun j hj => by rw [ab_u_j hj, z4 65 (by omega)]) ⟨by rw [ab_u_at]; rfl, ld_v_congr (fun a _ _ => ab_u_ne (by omega)) z3⟩) (fun a ha => by rw [ab_u_ne (by omega), z4 a (by omega)]))
          · simp only [ab_cmp, pr_i_0, pr_i_1, pr_i_m1] at h17
            first
            | contradiction
            | exact absurd trivial h17
            | exact absurd h17 (by decide)
            | exact absurd (Classical.not_not.mp h17) (by decide)
            | skip
              refine pr_seqT (pc' := 39) 10 rfl ⟨⟨⟨⟨⟨⟨⟨⟨⟨⟨trivial, trivial⟩, trivial⟩, trivial⟩, (by first | assumption | (simp only [r9, r0, r1, r2, r3, s1, s2, q0, q1, rc, q3, q4, q5, q6, q7, q8, e4, i1, hkb, pr_i_0, pr_i_1, pr_i_m1]; first | assumption | decide | exact ⟨by assumption, by assumption⟩ | exact ⟨Or.inl (by assumption), by assumption⟩ | omega) | decide | exact ⟨Or.inl (by assumption), by assumption⟩ | exact ⟨by assumption, by assumption⟩ | omega)⟩, (by first | assumption | (simp only [r9, r0, r1, r2, r3, s1, s2, q0, q1, rc, q3, q4, q5, q6, q7, q8, e4, i1, hkb, pr_i_0, pr_i_1, pr_i_m1]; first | assumption | decide | exact ⟨by assumption, by assumption⟩ | exact ⟨Or.inl (by assumption), by assumption⟩ | omega) | decide | exact ⟨Or.inl (by assumption), by assumption⟩ | exact ⟨by assumption, by assumption⟩ | omega)⟩, trivial⟩, (by first | assumption | (simp only [r9, r0, r1, r2, r3, s1, s2, q0, q1, rc, q3, q4, q5, q6, q7, q8, e4, i1, hkb, pr_i_0, pr_i_1, pr_i_m1]; first | assumption | decide | exact ⟨by assumption, by assumption⟩ | exact ⟨Or.inl (by assumption), by assumption⟩ | omega) | decide | exact ⟨Or.inl (by assumption), by assumption⟩ | exact ⟨by assumption, by assumption⟩ | omega)⟩, (by first | assumption | (simp only [r9, r0, r1, r2, r3, s1, s2, q0, q1, rc, q3, q4, q5, q6, q7, q8, e4, i1, hkb, pr_i_0, pr_i_1, pr_i_m1]; first | assumption | decide | exact ⟨by assumption, by assumption⟩ | exact ⟨Or.inl (by assumption), by assumption⟩ | omega) | decide | exact ⟨Or.inl (by assumption), by assumption⟩ | exact ⟨by assumption, by assumption⟩ | omega)⟩, (by first | assumption | (simp only [r9, r0, r1, r2, r3, s1, s2, q0, q1, rc, q3, q4, q5, q6, q7, q8, e4, i1, hkb, pr_i_0, pr_i_1, pr_i_m1]; first | assumption | decide | exact ⟨by assumption, by assumption⟩ | exact ⟨Or.inl (by assumption), by assumption⟩ | omega) | decide | exact ⟨Or.inl (by assumption), by assumption⟩ | exact ⟨by assumption, by assumption⟩ | omega)⟩, (by first | assumption | (simp only [r9, r0, r1, r2, r3, s1, s2, q0, q1, rc, q3, q4, q5, q6, q7, q8, e4, i1, hkb, pr_i_0, pr_i_1, pr_i_m1]; first | assumption | decide | exact ⟨by assumption, by assumption⟩ | exact ⟨Or.inl (by assumption), by assumption⟩ | omega) | decide | exact ⟨Or.inl (by assumption), by assumption⟩ | exact ⟨by assumption, by assumption⟩ | omega)⟩ ?_
              try simp only [r9, r0, r1, r2, r3, s1, s2, q0, q1, rc, q3, q4, q5, q6, q7, q8, e4, i1, hkb, pr_i_0, pr_i_1, pr_i_m1]
              refine pr_cvX [_] rfl rfl rfl rfl rfl (Nat.le_of_ble_eq_true rfl) (by first | assumption | (simp only [r9, r0, r1, r2, r3, s1, s2, q0, q1, rc, q3, q4, q5, q6, q7, q8, e4, i1, hkb, pr_i_0, pr_i_1, pr_i_m1]; first | assumption | decide | exact ⟨by assumption, by assumption⟩ | exact ⟨Or.inl (by assumption), by assumption⟩ | omega) | decide | exact ⟨Or.inl (by assumption), by assumption⟩ | exact ⟨by assumption, by assumption⟩ | omega) (Nat.le_of_ble_eq_true rfl) (c_lcopy h M i2 hg (by omega) hd) (fun v39 M39 q39 => ?_)
              obtain ⟨rfl, z2, z3, z4⟩ := q39
              obtain ⟨I1, Z1⟩ := M39
              dsimp only at z2 z3 z4
              subst z2
              refine pr_seqT (pc' := 50) 6 rfl ⟨⟨⟨⟨⟨⟨trivial, (by first | assumption | (simp only [r9, r0, r1, r2, r3, s1, s2, q0, q1, rc, q3, q4, q5, q6, q7, q8, e4, i1, hkb, pr_i_0, pr_i_1, pr_i_m1]; first | assumption | decide | exact ⟨by assumption, by assumption⟩ | exact ⟨Or.inl (by assumption), by assumption⟩ | omega) | decide | exact ⟨Or.inl (by assumption), by assumption⟩ | exact ⟨by assumption, by assumption⟩ | omega)⟩, (by first | assumption | (simp only [r9, r0, r1, r2, r3, s1, s2, q0, q1, rc, q3, q4, q5, q6, q7, q8, e4, i1, hkb, pr_i_0, pr_i_1, pr_i_m1]; first | assumption | decide | exact ⟨by assumption, by assumption⟩ | exact ⟨Or.inl (by assumption), by assumption⟩ | omega) | decide | exact ⟨Or.inl (by assumption), by assumption⟩ | exact ⟨by assumption, by assumption⟩ | omega)⟩, trivial⟩, trivial⟩, (by (show (ab_k h (M.2.2 1 7) = 21 ∨ ab_k h (M.2.2 1 7) = 22 ∧ ((1 : Int32) = 0 ∨ (1 : Int32) = 1)) ∧ vp_in (nI k) (ab_n h (M.2.2 1 7))); rw [q7]; exact vs)⟩, trivial⟩ ?_
              try simp only [r9, r0, r1, r2, r3, s1, s2, q0, q1, rc, q3, q4, q5, q6, q7, q8, e4, i1, hkb, pr_i_0, pr_i_1, pr_i_m1]
              refine pr_irT rfl trivial (cp_I hl (cl_img hv (by omega) (fun a x1 x2 => by rw [ab_u_ne (by omega), z4 a (by omega)]) (fun j hj => by rw [ab_u_j hj, z4 65 (by omega)]) ⟨by rw [ab_u_at]; rfl, ld_v_congr (fun a _ _ => ab_u_ne (by omega)) z3⟩) (fun a ha => by rw [ab_u_ne (by omega), z4 a (by omega)]))
      · simp only [ab_cmp, pr_i_0, pr_i_1, pr_i_m1] at h6
        first
        | contradiction
        | exact absurd trivial h6
        | exact absurd h6 (by decide)
        | exact absurd (Classical.not_not.mp h6) (by decide)
        | skip
          refine pr_seqT (pc' := 10) 1 rfl ⟨trivial, trivial⟩ ?_
          try simp only [r9, r0, r1, r2, r3, s1, s2, q0, q1, rc, q3, q4, q5, q6, q7, q8, e4, i1, hkb, pr_i_0, pr_i_1, pr_i_m1]
          exact pr_irT rfl trivial (by first | rfl | (simp only [r9, r0, r1, r2, r3, s1, s2, q0, q1, rc, q3, q4, q5, q6, q7, q8, e4, i1, hkb, pr_i_0, pr_i_1, pr_i_m1]; done) | (simp [pr_b, pr_i_0, pr_i_1, pr_i_m1, *]; done) | (simp_all [pr_b, pr_i_0, pr_i_1, pr_i_m1]; done))
theorem p_back {b : Bool} {X : St} (v : Int32) (h : ab_H) (M : ab_M) (hl : Lay h M.2.2 b) (hv : cl_v M.1 b X) : pr_X pX10_back [.ref 1, .int v] h M (cp h M (f_back X v)) := by
  obtain ⟨k1, q0, q1, rc, q3, q4, q5, q6, q7, q8, r9⟩ := id hl.1
  have ht := ly_told hl
  obtain ⟨t0, t1, r0, r1, r2, r3, hg, ⟨ka, kb⟩, ⟨kc, kd⟩, ⟨ke, kf⟩, hnm⟩ := id ht
  obtain ⟨g0, g1, s1, s2, m1, m2, ⟨m3, m4⟩, hon⟩ := id hg
  obtain ⟨hT, hIm, hSh, hTp, hFa, hTo⟩ := id hv
  obtain ⟨hd, v2, v3, v4, v5, v6, v7⟩ := id hT
  obtain ⟨d1, d2, d3, d4, d5, d6, d7, d8⟩ := id hd
  have b0 := tB_ne b
  have hc := hl.2.2.2.2.2.1
  have hb : 49 + 5 < tB b + 1 ∨ tB b + 1 + 27 ≤ 49 := by cases b <;> decide
  have hb2 : 63 < tB b ∧ tB b + 43 ≤ 110 ∨ 5 < tB b ∧ tB b + 43 ≤ 49 := by cases b <;> decide
  have c1 := hc.2.1
  unfold f_back
  have hp := c_within v 0 1 h M
  rcases pr_rg v 1 1 rfl (by decide) with z | ⟨k, hk, rfl, z⟩
  · rw [z] at hp ⊢
    refine pr_seqT (pc' := 3) 3 rfl ⟨⟨⟨trivial, trivial⟩, trivial⟩, trivial⟩ ?_
    try simp only [r9, r0, r1, r2, r3, s1, s2, q0, q1, rc, q3, q4, q5, q6, q7, q8, pr_8_m2, pr_i_0, pr_i_1, pr_i_m1]
    refine pr_csT [_, _, _] rfl rfl rfl rfl rfl (Nat.le_of_ble_eq_true rfl) (Nat.le_of_ble_eq_true rfl) (hp) ?_
    refine pr_ifT rfl (fun h6 => ?_) (fun h6 => ?_)
    · simp only [ab_cmp, pr_8_m2, pr_i_0, pr_i_1, pr_i_m1] at h6
      first
      | contradiction
      | exact absurd trivial h6
      | exact absurd h6 (by decide)
      | exact absurd (Classical.not_not.mp h6) (by decide)
      | skip
        refine pr_seqT (pc' := 17) 4 rfl ⟨⟨⟨⟨trivial, (by first | assumption | (simp only [r9, r0, r1, r2, r3, s1, s2, q0, q1, rc, q3, q4, q5, q6, q7, q8, pr_8_m2, pr_i_0, pr_i_1, pr_i_m1]; first | assumption | decide | exact ⟨by assumption, by assumption⟩ | exact ⟨Or.inl (by assumption), by assumption⟩ | omega) | decide | exact ⟨Or.inl (by assumption), by assumption⟩ | exact ⟨by assumption, by assumption⟩ | omega)⟩, (by first | assumption | (simp only [r9, r0, r1, r2, r3, s1, s2, q0, q1, rc, q3, q4, q5, q6, q7, q8, pr_8_m2, pr_i_0, pr_i_1, pr_i_m1]; first | assumption | decide | exact ⟨by assumption, by assumption⟩ | exact ⟨Or.inl (by assumption), by assumption⟩ | omega) | decide | exact ⟨Or.inl (by assumption), by assumption⟩ | exact ⟨by assumption, by assumption⟩ | omega)⟩, trivial⟩, (by first | assumption | (simp only [r9, r0, r1, r2, r3, s1, s2, q0, q1, rc, q3, q4, q5, q6, q7, q8, pr_8_m2, pr_i_0, pr_i_1, pr_i_m1]; first | assumption | decide | exact ⟨by assumption, by assumption⟩ | exact ⟨Or.inl (by assumption), by assumption⟩ | omega) | decide | exact ⟨Or.inl (by assumption), by assumption⟩ | exact ⟨by assumption, by assumption⟩ | omega)⟩ ?_
        try simp only [r9, r0, r1, r2, r3, s1, s2, q0, q1, rc, q3, q4, q5, q6, q7, q8, pr_8_m2, pr_i_0, pr_i_1, pr_i_m1]
        refine pr_ifT rfl (fun h17 => ?_) (fun h17 => ?_)
        · simp only [ab_cmp, pr_8_m2, pr_i_0, pr_i_1, pr_i_m1] at h17
          first
          | contradiction
          | exact absurd trivial h17
          | exact absurd h17 (by decide)
          | exact absurd (Classical.not_not.mp h17) (by decide)
          | skip
            refine pr_seqT (pc' := 36) 7 rfl ⟨⟨⟨⟨⟨⟨⟨trivial, (by first | assumption | (simp only [r9, r0, r1, r2, r3, s1, s2, q0, q1, rc, q3, q4, q5, q6, q7, q8, pr_8_m2, pr_i_0, pr_i_1, pr_i_m1]; first | assumption | decide | exact ⟨by assumption, by assumption⟩ | exact ⟨Or.inl (by assumption), by assumption⟩ | omega) | decide | exact ⟨Or.inl (by assumption), by assumption⟩ | exact ⟨by assumption, by assumption⟩ | omega)⟩, (by first | assumption | (simp only [r9, r0, r1, r2, r3, s1, s2, q0, q1, rc, q3, q4, q5, q6, q7, q8, pr_8_m2, pr_i_0, pr_i_1, pr_i_m1]; first | assumption | decide | exact ⟨by assumption, by assumption⟩ | exact ⟨Or.inl (by assumption), by assumption⟩ | omega) | decide | exact ⟨Or.inl (by assumption), by assumption⟩ | exact ⟨by assumption, by assumption⟩ | omega)⟩, (by first | assumption | (simp only [r9, r0, r1, r2, r3, s1, s2, q0, q1, rc, q3, q4, q5, q6, q7, q8, pr_8_m2, pr_i_0, pr_i_1, pr_i_m1]; first | assumption | decide | exact ⟨by assumption, by assumption⟩ | exact ⟨Or.inl (by assumption), by assumption⟩ | omega) | decide | exact ⟨Or.inl (by assumption), by assumption⟩ | exact ⟨by assumption, by assumption⟩ | omega)⟩, (by first | assumption | (simp only [r9, r0, r1, r2, r3, s1, s2, q0, q1, rc, q3, q4, q5, q6, q7, q8, pr_8_m2, pr_i_0, pr_i_1, pr_i_m1]; first | assumption | decide | exact ⟨by assumption, by assumption⟩ | exact ⟨Or.inl (by assumption), by assumption⟩ | omega) | decide | exact ⟨Or.inl (by assumption), by assumption⟩ | exact ⟨by assumption, by assumption⟩ | omega)⟩, (by first | assumption | (simp only [r9, r0, r1, r2, r3, s1, s2, q0, q1, rc, q3, q4, q5, q6, q7, q8, pr_8_m2, pr_i_0, pr_i_1, pr_i_m1]; first | assumption | decide | exact ⟨by assumption, by assumption⟩ | exact ⟨Or.inl (by assumption), by assumption⟩ | omega) | decide | exact ⟨Or.inl (by assumption), by assumption⟩ | exact ⟨by assumption, by assumption⟩ | omega)⟩, trivial⟩, (by first | assumption | (simp only [r9, r0, r1, r2, r3, s1, s2, q0, q1, rc, q3, q4, q5, q6, q7, q8, pr_8_m2, pr_i_0, pr_i_1, pr_i_m1]; first | assumption | decide | exact ⟨by assumption, by assumption⟩ | exact ⟨Or.inl (by assumption), by assumption⟩ | omega) | decide | exact ⟨Or.inl (by assumption), by assumption⟩ | exact ⟨by assumption, by assumption⟩ | omega)⟩ ?_
            try simp only [r9, r0, r1, r2, r3, s1, s2, q0, q1, rc, q3, q4, q5, q6, q7, q8, pr_8_m2, pr_i_0, pr_i_1, pr_i_m1]
            fail "no call@36 yX1_copy"
        · simp only [ab_cmp, pr_8_m2, pr_i_0, pr_i_1, pr_i_m1] at h17
          first
          | contradiction
          | exact absurd trivial h17
          | exact absurd h17 (by decide)
          | exact absurd (Classical.not_not.mp h17) (by decide)
          | skip
            refine pr_seqT (pc' := 22) 1 rfl ⟨trivial, trivial⟩ ?_
            try simp only [r9, r0, r1, r2, r3, s1, s2, q0, q1, rc, q3, q4, q5, q6, q7, q8, pr_8_m2, pr_i_0, pr_i_1, pr_i_m1]
            exact pr_irT rfl trivial (by first | rfl | (simp only [r9, r0, r1, r2, r3, s1, s2, q0, q1, rc, q3, q4, q5, q6, q7, q8, pr_8_m2, pr_i_0, pr_i_1, pr_i_m1]; done) | (simp [pr_b, pr_8_m2, pr_i_0, pr_i_1, pr_i_m1, *]; done) | (simp_all [pr_b, pr_8_m2, pr_i_0, pr_i_1, pr_i_m1]; done))
    · simp only [ab_cmp, pr_8_m2, pr_i_0, pr_i_1, pr_i_m1] at h6
      first
      | contradiction
      | exact absurd trivial h6
      | exact absurd h6 (by decide)
      | exact absurd (Classical.not_not.mp h6) (by decide)
      | skip
        refine pr_seqT (pc' := 10) 1 rfl ⟨trivial, trivial⟩ ?_
        try simp only [r9, r0, r1, r2, r3, s1, s2, q0, q1, rc, q3, q4, q5, q6, q7, q8, pr_8_m2, pr_i_0, pr_i_1, pr_i_m1]
        exact pr_irT rfl trivial (by exact cp_s hl hv)
  · rw [z] at hp ⊢
    have e4 : (nI k).toNatClampNeg = k := nI_clamp (by omega)
    rw [if_pos rfl, e4]
    obtain ⟨⟨ia, ib⟩, ⟨ic, id'⟩, hi⟩ := hl.2.2.1
    obtain ⟨i1, i2⟩ := hi k (by omega)
    have gi := i2.2.1
    have him := hIm k (by omega)
    have vi : (24 ≤ ab_k h 64 ∧ ab_k h 64 ≤ 27) ∧ vp_in (nI k) (ab_n h 64) := ⟨by rw [ia]; decide, by rw [ib]; exact vp_in_nI (by omega) (by decide)⟩
    have vk : (ab_k h 65 = 21 ∨ ab_k h 65 = 22) ∧ vp_in (nI k) (ab_n h 65) := ⟨Or.inr ic, by rw [id']; exact vp_in_nI (by omega) (by decide)⟩
    cases hs : X.2.1 k with
    | none =>
      rw [hs] at him
      have hkb : M.1 65 k = 0 := him
      refine pr_seqT (pc' := 3) 3 rfl ⟨⟨⟨trivial, trivial⟩, trivial⟩, trivial⟩ ?_
      try simp only [r9, r0, r1, r2, r3, s1, s2, q0, q1, rc, q3, q4, q5, q6, q7, q8, e4, i1, hkb, pr_8_m2, pr_i_0, pr_i_1, pr_i_m1]
      refine pr_csT [_, _, _] rfl rfl rfl rfl rfl (Nat.le_of_ble_eq_true rfl) (Nat.le_of_ble_eq_true rfl) (hp) ?_
      refine pr_ifT rfl (fun h6 => ?_) (fun h6 => ?_)
      · simp only [ab_cmp, pr_8_m2, pr_i_0, pr_i_1, pr_i_m1] at h6
        first
        | contradiction
        | exact absurd trivial h6
        | exact absurd h6 (by decide)
        | exact absurd (Classical.not_not.mp h6) (by decide)
        | skip
          refine pr_seqT (pc' := 17) 4 rfl ⟨⟨⟨⟨trivial, (by first | assumption | (simp only [r9, r0, r1, r2, r3, s1, s2, q0, q1, rc, q3, q4, q5, q6, q7, q8, e4, i1, hkb, pr_8_m2, pr_i_0, pr_i_1, pr_i_m1]; first | assumption | decide | exact ⟨by assumption, by assumption⟩ | exact ⟨Or.inl (by assumption), by assumption⟩ | omega) | decide | exact ⟨Or.inl (by assumption), by assumption⟩ | exact ⟨by assumption, by assumption⟩ | omega)⟩, (by first | assumption | (simp only [r9, r0, r1, r2, r3, s1, s2, q0, q1, rc, q3, q4, q5, q6, q7, q8, e4, i1, hkb, pr_8_m2, pr_i_0, pr_i_1, pr_i_m1]; first | assumption | decide | exact ⟨by assumption, by assumption⟩ | exact ⟨Or.inl (by assumption), by assumption⟩ | omega) | decide | exact ⟨Or.inl (by assumption), by assumption⟩ | exact ⟨by assumption, by assumption⟩ | omega)⟩, trivial⟩, (by first | assumption | (simp only [r9, r0, r1, r2, r3, s1, s2, q0, q1, rc, q3, q4, q5, q6, q7, q8, e4, i1, hkb, pr_8_m2, pr_i_0, pr_i_1, pr_i_m1]; first | assumption | decide | exact ⟨by assumption, by assumption⟩ | exact ⟨Or.inl (by assumption), by assumption⟩ | omega) | decide | exact ⟨Or.inl (by assumption), by assumption⟩ | exact ⟨by assumption, by assumption⟩ | omega)⟩ ?_
          try simp only [r9, r0, r1, r2, r3, s1, s2, q0, q1, rc, q3, q4, q5, q6, q7, q8, e4, i1, hkb, pr_8_m2, pr_i_0, pr_i_1, pr_i_m1]
          refine pr_ifT rfl (fun h17 => ?_) (fun h17 => ?_)
          · simp only [ab_cmp, pr_8_m2, pr_i_0, pr_i_1, pr_i_m1] at h17
            first
            | contradiction
            | exact absurd trivial h17
            | exact absurd h17 (by decide)
            | exact absurd (Classical.not_not.mp h17) (by decide)
            | skip
              refine pr_seqT (pc' := 36) 7 rfl ⟨⟨⟨⟨⟨⟨⟨trivial, (by first | assumption | (simp only [r9, r0, r1, r2, r3, s1, s2, q0, q1, rc, q3, q4, q5, q6, q7, q8, e4, i1, hkb, pr_8_m2, pr_i_0, pr_i_1, pr_i_m1]; first | assumption | decide | exact ⟨by assumption, by assumption⟩ | exact ⟨Or.inl (by assumption), by assumption⟩ | omega) | decide | exact ⟨Or.inl (by assumption), by assumption⟩ | exact ⟨by assumption, by assumption⟩ | omega)⟩, (by first | assumption | (simp only [r9, r0, r1, r2, r3, s1, s2, q0, q1, rc, q3, q4, q5, q6, q7, q8, e4, i1, hkb, pr_8_m2, pr_i_0, pr_i_1, pr_i_m1]; first | assumption | decide | exact ⟨by assumption, by assumption⟩ | exact ⟨Or.inl (by assumption), by assumption⟩ | omega) | decide | exact ⟨Or.inl (by assumption), by assumption⟩ | exact ⟨by assumption, by assumption⟩ | omega)⟩, (by first | assumption | (simp only [r9, r0, r1, r2, r3, s1, s2, q0, q1, rc, q3, q4, q5, q6, q7, q8, e4, i1, hkb, pr_8_m2, pr_i_0, pr_i_1, pr_i_m1]; first | assumption | decide | exact ⟨by assumption, by assumption⟩ | exact ⟨Or.inl (by assumption), by assumption⟩ | omega) | decide | exact ⟨Or.inl (by assumption), by assumption⟩ | exact ⟨by assumption, by assumption⟩ | omega)⟩, (by first | assumption | (simp only [r9, r0, r1, r2, r3, s1, s2, q0, q1, rc, q3, q4, q5, q6, q7, q8, e4, i1, hkb, pr_8_m2, pr_i_0, pr_i_1, pr_i_m1]; first | assumption | decide | exact ⟨by assumption, by assumption⟩ | exact ⟨Or.inl (by assumption), by assumption⟩ | omega) | decide | exact ⟨Or.inl (by assumption), by assumption⟩ | exact ⟨by assumption, by assumption⟩ | omega)⟩, (by first | assumption | (simp only [r9, r0, r1, r2, r3, s1, s2, q0, q1, rc, q3, q4, q5, q6, q7, q8, e4, i1, hkb, pr_8_m2, pr_i_0, pr_i_1, pr_i_m1]; first | assumption | decide | exact ⟨by assumption, by assumption⟩ | exact ⟨Or.inl (by assumption), by assumption⟩ | omega) | decide | exact ⟨Or.inl (by assumption), by assumption⟩ | exact ⟨by assumption, by assumption⟩ | omega)⟩, trivial⟩, (by first | assumption | (simp only [r9, r0, r1, r2, r3, s1, s2, q0, q1, rc, q3, q4, q5, q6, q7, q8, e4, i1, hkb, pr_8_m2, pr_i_0, pr_i_1, pr_i_m1]; first | assumption | decide | exact ⟨by assumption, by assumption⟩ | exact ⟨Or.inl (by assumption), by assumption⟩ | omega) | decide | exact ⟨Or.inl (by assumption), by assumption⟩ | exact ⟨by assumption, by assumption⟩ | omega)⟩ ?_
              try simp only [r9, r0, r1, r2, r3, s1, s2, q0, q1, rc, q3, q4, q5, q6, q7, q8, e4, i1, hkb, pr_8_m2, pr_i_0, pr_i_1, pr_i_m1]
              fail "no call@36 yX1_copy"
          · simp only [ab_cmp, pr_8_m2, pr_i_0, pr_i_1, pr_i_m1] at h17
            first
            | contradiction
            | exact absurd trivial h17
            | exact absurd h17 (by decide)
            | exact absurd (Classical.not_not.mp h17) (by decide)
            | skip
              refine pr_seqT (pc' := 22) 1 rfl ⟨trivial, trivial⟩ ?_
              try simp only [r9, r0, r1, r2, r3, s1, s2, q0, q1, rc, q3, q4, q5, q6, q7, q8, e4, i1, hkb, pr_8_m2, pr_i_0, pr_i_1, pr_i_m1]
              exact pr_irT rfl trivial (by exact cp_s hl hv)
      · simp only [ab_cmp, pr_8_m2, pr_i_0, pr_i_1, pr_i_m1] at h6
        first
        | contradiction
        | exact absurd trivial h6
        | exact absurd h6 (by decide)
        | exact absurd (Classical.not_not.mp h6) (by decide)
        | skip
          refine pr_seqT (pc' := 10) 1 rfl ⟨trivial, trivial⟩ ?_
          try simp only [r9, r0, r1, r2, r3, s1, s2, q0, q1, rc, q3, q4, q5, q6, q7, q8, e4, i1, hkb, pr_8_m2, pr_i_0, pr_i_1, pr_i_m1]
          exact pr_irT rfl trivial (by first | rfl | (simp only [r9, r0, r1, r2, r3, s1, s2, q0, q1, rc, q3, q4, q5, q6, q7, q8, e4, i1, hkb, pr_8_m2, pr_i_0, pr_i_1, pr_i_m1]; done) | (simp [pr_b, pr_8_m2, pr_i_0, pr_i_1, pr_i_m1, *]; done) | (simp_all [pr_b, pr_8_m2, pr_i_0, pr_i_1, pr_i_m1]; done))
    | some d' =>
      rw [hs] at him
      obtain ⟨hkb, him⟩ := him
      refine pr_seqT (pc' := 3) 3 rfl ⟨⟨⟨trivial, trivial⟩, trivial⟩, trivial⟩ ?_
      try simp only [r9, r0, r1, r2, r3, s1, s2, q0, q1, rc, q3, q4, q5, q6, q7, q8, e4, i1, hkb, pr_8_m2, pr_i_0, pr_i_1, pr_i_m1]
      refine pr_csT [_, _, _] rfl rfl rfl rfl rfl (Nat.le_of_ble_eq_true rfl) (Nat.le_of_ble_eq_true rfl) (hp) ?_
      refine pr_ifT rfl (fun h6 => ?_) (fun h6 => ?_)
      · simp only [ab_cmp, pr_8_m2, pr_i_0, pr_i_1, pr_i_m1] at h6
        first
        | contradiction
        | exact absurd trivial h6
        | exact absurd h6 (by decide)
        | exact absurd (Classical.not_not.mp h6) (by decide)
        | skip
          refine pr_seqT (pc' := 17) 4 rfl ⟨⟨⟨⟨trivial, (by first | assumption | (simp only [r9, r0, r1, r2, r3, s1, s2, q0, q1, rc, q3, q4, q5, q6, q7, q8, e4, i1, hkb, pr_8_m2, pr_i_0, pr_i_1, pr_i_m1]; first | assumption | decide | exact ⟨by assumption, by assumption⟩ | exact ⟨Or.inl (by assumption), by assumption⟩ | omega) | decide | exact ⟨Or.inl (by assumption), by assumption⟩ | exact ⟨by assumption, by assumption⟩ | omega)⟩, (by first | assumption | (simp only [r9, r0, r1, r2, r3, s1, s2, q0, q1, rc, q3, q4, q5, q6, q7, q8, e4, i1, hkb, pr_8_m2, pr_i_0, pr_i_1, pr_i_m1]; first | assumption | decide | exact ⟨by assumption, by assumption⟩ | exact ⟨Or.inl (by assumption), by assumption⟩ | omega) | decide | exact ⟨Or.inl (by assumption), by assumption⟩ | exact ⟨by assumption, by assumption⟩ | omega)⟩, trivial⟩, (by first | assumption | (simp only [r9, r0, r1, r2, r3, s1, s2, q0, q1, rc, q3, q4, q5, q6, q7, q8, e4, i1, hkb, pr_8_m2, pr_i_0, pr_i_1, pr_i_m1]; first | assumption | decide | exact ⟨by assumption, by assumption⟩ | exact ⟨Or.inl (by assumption), by assumption⟩ | omega) | decide | exact ⟨Or.inl (by assumption), by assumption⟩ | exact ⟨by assumption, by assumption⟩ | omega)⟩ ?_
          try simp only [r9, r0, r1, r2, r3, s1, s2, q0, q1, rc, q3, q4, q5, q6, q7, q8, e4, i1, hkb, pr_8_m2, pr_i_0, pr_i_1, pr_i_m1]
          refine pr_ifT rfl (fun h17 => ?_) (fun h17 => ?_)
          · simp only [ab_cmp, pr_8_m2, pr_i_0, pr_i_1, pr_i_m1] at h17
            first
            | contradiction
            | exact absurd trivial h17
            | exact absurd h17 (by decide)
            | exact absurd (Classical.not_not.mp h17) (by decide)
            | skip
              refine pr_seqT (pc' := 36) 7 rfl ⟨⟨⟨⟨⟨⟨⟨trivial, (by first | assumption | (simp only [r9, r0, r1, r2, r3, s1, s2, q0, q1, rc, q3, q4, q5, q6, q7, q8, e4, i1, hkb, pr_8_m2, pr_i_0, pr_i_1, pr_i_m1]; first | assumption | decide | exact ⟨by assumption, by assumption⟩ | exact ⟨Or.inl (by assumption), by assumption⟩ | omega) | decide | exact ⟨Or.inl (by assumption), by assumption⟩ | exact ⟨by assumption, by assumption⟩ | omega)⟩, (by first | assumption | (simp only [r9, r0, r1, r2, r3, s1, s2, q0, q1, rc, q3, q4, q5, q6, q7, q8, e4, i1, hkb, pr_8_m2, pr_i_0, pr_i_1, pr_i_m1]; first | assumption | decide | exact ⟨by assumption, by assumption⟩ | exact ⟨Or.inl (by assumption), by assumption⟩ | omega) | decide | exact ⟨Or.inl (by assumption), by assumption⟩ | exact ⟨by assumption, by assumption⟩ | omega)⟩, (by first | assumption | (simp only [r9, r0, r1, r2, r3, s1, s2, q0, q1, rc, q3, q4, q5, q6, q7, q8, e4, i1, hkb, pr_8_m2, pr_i_0, pr_i_1, pr_i_m1]; first | assumption | decide | exact ⟨by assumption, by assumption⟩ | exact ⟨Or.inl (by assumption), by assumption⟩ | omega) | decide | exact ⟨Or.inl (by assumption), by assumption⟩ | exact ⟨by assumption, by assumption⟩ | omega)⟩, (by first | assumption | (simp only [r9, r0, r1, r2, r3, s1, s2, q0, q1, rc, q3, q4, q5, q6, q7, q8, e4, i1, hkb, pr_8_m2, pr_i_0, pr_i_1, pr_i_m1]; first | assumption | decide | exact ⟨by assumption, by assumption⟩ | exact ⟨Or.inl (by assumption), by assumption⟩ | omega) | decide | exact ⟨Or.inl (by assumption), by assumption⟩ | exact ⟨by assumption, by assumption⟩ | omega)⟩, (by first | assumption | (simp only [r9, r0, r1, r2, r3, s1, s2, q0, q1, rc, q3, q4, q5, q6, q7, q8, e4, i1, hkb, pr_8_m2, pr_i_0, pr_i_1, pr_i_m1]; first | assumption | decide | exact ⟨by assumption, by assumption⟩ | exact ⟨Or.inl (by assumption), by assumption⟩ | omega) | decide | exact ⟨Or.inl (by assumption), by assumption⟩ | exact ⟨by assumption, by assumption⟩ | omega)⟩, trivial⟩, (by first | assumption | (simp only [r9, r0, r1, r2, r3, s1, s2, q0, q1, rc, q3, q4, q5, q6, q7, q8, e4, i1, hkb, pr_8_m2, pr_i_0, pr_i_1, pr_i_m1]; first | assumption | decide | exact ⟨by assumption, by assumption⟩ | exact ⟨Or.inl (by assumption), by assumption⟩ | omega) | decide | exact ⟨Or.inl (by assumption), by assumption⟩ | exact ⟨by assumption, by assumption⟩ | omega)⟩ ?_
              try simp only [r9, r0, r1, r2, r3, s1, s2, q0, q1, rc, q3, q4, q5, q6, q7, q8, e4, i1, hkb, pr_8_m2, pr_i_0, pr_i_1, pr_i_m1]
              refine pr_cvX [_] rfl rfl rfl rfl rfl (Nat.le_of_ble_eq_true rfl) (by first | assumption | (simp only [r9, r0, r1, r2, r3, s1, s2, q0, q1, rc, q3, q4, q5, q6, q7, q8, e4, i1, hkb, pr_8_m2, pr_i_0, pr_i_1, pr_i_m1]; first | assumption | decide | exact ⟨by assumption, by assumption⟩ | exact ⟨Or.inl (by assumption), by assumption⟩ | omega) | decide | exact ⟨Or.inl (by assumption), by assumption⟩ | exact ⟨by assumption, by assumption⟩ | omega) (Nat.le_of_ble_eq_true rfl) (c_lcopy h M hg i2 (by omega) him) (fun v36 M36 q36 => ?_)
              obtain ⟨rfl, z2, z3, z4⟩ := q36
              obtain ⟨I1, Z1⟩ := M36
              dsimp only at z2 z3 z4
              subst z2
              have z5 := z3.1
              refine pr_seqT (pc' := 49) 4 rfl ⟨⟨⟨⟨trivial, (by first | assumption | (simp only [r9, r0, r1, r2, r3, s1, s2, q0, q1, rc, q3, q4, q5, q6, q7, q8, e4, i1, hkb, pr_8_m2, pr_i_0, pr_i_1, pr_i_m1]; first | assumption | decide | exact ⟨by assumption, by assumption⟩ | exact ⟨Or.inl (by assumption), by assumption⟩ | omega) | decide | exact ⟨Or.inl (by assumption), by assumption⟩ | exact ⟨by assumption, by assumption⟩ | omega)⟩, (by first | assumption | (simp only [r9, r0, r1, r2, r3, s1, s2, q0, q1, rc, q3, q4, q5, q6, q7, q8, e4, i1, hkb, pr_8_m2, pr_i_0, pr_i_1, pr_i_m1]; first | assumption | decide | exact ⟨by assumption, by assumption⟩ | exact ⟨Or.inl (by assumption), by assumption⟩ | omega) | decide | exact ⟨Or.inl (by assumption), by assumption⟩ | exact ⟨by assumption, by assumption⟩ | omega)⟩, (by first | assumption | (simp only [r9, r0, r1, r2, r3, s1, s2, q0, q1, rc, q3, q4, q5, q6, q7, q8, e4, i1, hkb, pr_8_m2, pr_i_0, pr_i_1, pr_i_m1]; first | assumption | decide | exact ⟨by assumption, by assumption⟩ | exact ⟨Or.inl (by assumption), by assumption⟩ | omega) | decide | exact ⟨Or.inl (by assumption), by assumption⟩ | exact ⟨by assumption, by assumption⟩ | omega)⟩, (by first | assumption | (simp only [r9, r0, r1, r2, r3, s1, s2, q0, q1, rc, q3, q4, q5, q6, q7, q8, e4, i1, hkb, pr_8_m2, pr_i_0, pr_i_1, pr_i_m1]; first | assumption | decide | exact ⟨by assumption, by assumption⟩ | exact ⟨Or.inl (by assumption), by assumption⟩ | omega) | decide | exact ⟨Or.inl (by assumption), by assumption⟩ | exact ⟨by assumption, by assumption⟩ | omega)⟩ ?_
              try simp only [r9, r0, r1, r2, r3, s1, s2, q0, q1, rc, q3, q4, q5, q6, q7, q8, e4, i1, hkb, pr_8_m2, pr_i_0, pr_i_1, pr_i_m1]
              simp only [z5]
              refine pr_irT rfl trivial (cp_I hl (cl_land hv (fun a x1 x2 => z4 a (by omega)) z3) (fun a ha => z4 a (by omega)))
          · simp only [ab_cmp, pr_8_m2, pr_i_0, pr_i_1, pr_i_m1] at h17
            first
            | contradiction
            | exact absurd trivial h17
            | exact absurd h17 (by decide)
            | exact absurd (Classical.not_not.mp h17) (by decide)
            | skip
              refine pr_seqT (pc' := 22) 1 rfl ⟨trivial, trivial⟩ ?_
              try simp only [r9, r0, r1, r2, r3, s1, s2, q0, q1, rc, q3, q4, q5, q6, q7, q8, e4, i1, hkb, pr_8_m2, pr_i_0, pr_i_1, pr_i_m1]
              exact pr_irT rfl trivial (by first | rfl | (simp only [r9, r0, r1, r2, r3, s1, s2, q0, q1, rc, q3, q4, q5, q6, q7, q8, e4, i1, hkb, pr_8_m2, pr_i_0, pr_i_1, pr_i_m1]; done) | (simp [pr_b, pr_8_m2, pr_i_0, pr_i_1, pr_i_m1, *]; done) | (simp_all [pr_b, pr_8_m2, pr_i_0, pr_i_1, pr_i_m1]; done))
      · simp only [ab_cmp, pr_8_m2, pr_i_0, pr_i_1, pr_i_m1] at h6
        first
        | contradiction
        | exact absurd trivial h6
        | exact absurd h6 (by decide)
        | exact absurd (Classical.not_not.mp h6) (by decide)
        | skip
          refine pr_seqT (pc' := 10) 1 rfl ⟨trivial, trivial⟩ ?_
          try simp only [r9, r0, r1, r2, r3, s1, s2, q0, q1, rc, q3, q4, q5, q6, q7, q8, e4, i1, hkb, pr_8_m2, pr_i_0, pr_i_1, pr_i_m1]
          exact pr_irT rfl trivial (by first | rfl | (simp only [r9, r0, r1, r2, r3, s1, s2, q0, q1, rc, q3, q4, q5, q6, q7, q8, e4, i1, hkb, pr_8_m2, pr_i_0, pr_i_1, pr_i_m1]; done) | (simp [pr_b, pr_8_m2, pr_i_0, pr_i_1, pr_i_m1, *]; done) | (simp_all [pr_b, pr_8_m2, pr_i_0, pr_i_1, pr_i_m1]; done))
