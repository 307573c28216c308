
/-! ===== call, worthOfWedding, match ===== -/
theorem mon_congr {f g : Nat → Bool} {A B : Nat → Nat} : ∀ n, (∀ q, q < n → f q = g q ∧ A q = B q) → mon f A n = mon g B n
  | 0, _ => rfl
  | n + 1, h => by
    unfold mon
    rw [mon_congr n (fun q hq => h q (by omega)), (h n (by omega)).1, (h n (by omega)).2]
theorem a_wh_congr {f g : Nat → Bool} {W D W' D' : Nat → Nat} {n : Nat} (h : ∀ q, q < n → f q = g q ∧ W q = W' q ∧ D q = D' q) : a_wh f W D n = a_wh g W' D' n := by
  unfold a_wh
  rw [mon_congr n (fun q hq => ⟨(h q hq).1, (h q hq).2.1⟩), mon_congr n (fun q hq => ⟨(h q hq).1, (h q hq).2.2⟩)]
theorem a_wh_0 {f : Nat → Bool} {W D : Nat → Nat} {n : Nat} (hW : W n = 0) (hD : D n = 0) : a_wh f W D (n + 1) = a_wh f W D n := by
  unfold a_wh
  have e1 : ∀ A : Nat → Nat, A n = 0 → mon f A (n + 1) = mon f A n := by
    intro A hA
    show mon f A n + (if f n then A n else 0) = mon f A n
    rw [hA]; simp
  rw [e1 W hW, e1 D hD]
theorem wh_child (S : Nat → Int32) (K W D : Nat → Nat) (n : Nat) (s : Int32) : a_wh (al (va_up S n s) (va_up K n 0) n) (va_up W n 0) (va_up D n 0) (n + 1) = a_wh (fun q => decide (K q ≠ 4) && decide (S q = s)) W D n := by
  rw [a_wh_0 (va_up_at _ _ _) (va_up_at _ _ _)]
  refine a_wh_congr (fun q hq => ⟨?_, va_up_n (by omega), va_up_n (by omega)⟩)
  unfold al
  rw [va_up_at, va_up_at, va_up_n (by omega), va_up_n (by omega), decide_eq_false (show ¬ n = q by omega)]
  rw [show decide ((0 : Nat) ≠ 4) = true from rfl]
  by_cases e : S q = s
  · simp [e]
  · simp [e, Ne.symm e]
theorem x_ls_at {X : St} {n : Nat} (h : n < X.1.2.1.length) : X.1.2.1[n]? = some (x_ln X n) := by
  unfold x_ln
  rw [List.getD_eq_getElem?_getD, List.getElem?_eq_getElem h]
  rfl
theorem p_call {b : Bool} {X : St} (x : Int32) (h : ab_H) (M : ab_M) (hl : Lay h M.2.2 b) (hv : cl_v M.1 b X) : pr_X pX10_call [.ref 1, .int x] h M (cp h M (f_call X x, X)) := by
  obtain ⟨k1, q0, q1, rc, q3, q4, q5, q6, q7, q8, r9⟩ := id hl.1
  have ht := ly_told hl
  obtain ⟨t0, t1, r0, r1, r2, r3, hg, ⟨ka, kb⟩, ⟨kc, kd⟩, ⟨ke, kf⟩, hnm⟩ := id ht
  obtain ⟨g0, g1, s1, s2, m1, m2, ⟨m3, m4⟩, hon⟩ := id hg
  obtain ⟨hT, hIm, hSh, hTp, hFa, hTo⟩ := id hv
  obtain ⟨hd, v2, v3, v4, v5, v6, v7⟩ := id hT
  obtain ⟨d1, d2, d3, d4, d5, d6, d7, d8⟩ := id hd
  have b0 := tB_ne b
  have hc := hl.2.2.2.2.2.1
  have hb : 49 + 5 < tB b + 1 ∨ tB b + 1 + 27 ≤ 49 := by cases b <;> decide
  have hb2 : 63 < tB b ∧ tB b + 43 ≤ 110 ∨ 5 < tB b ∧ tB b + 43 ≤ 49 := by cases b <;> decide
  have c1 := hc.2.1
  unfold f_call
  have hp := c_within x 0 1 h M
  rcases pr_rg x 1 1 rfl (by decide) with q | ⟨k, hk, rfl, q⟩
  · rw [q] at hp ⊢
    refine pr_seqT (pc' := 3) 3 rfl ⟨⟨⟨trivial, trivial⟩, trivial⟩, trivial⟩ ?_
    try simp only [r9, r0, r1, r2, r3, s1, s2, q0, q1, rc, q3, q4, q5, q6, q7, q8, pr_8_m2, pr_8_m4, pr_i_0, pr_i_1, pr_i_m1]
    refine pr_csT [_, _, _] rfl rfl rfl rfl rfl (Nat.le_of_ble_eq_true rfl) (Nat.le_of_ble_eq_true rfl) (hp) ?_
    refine pr_ifT rfl (fun h6 => ?_) (fun h6 => ?_)
    · simp only [ab_cmp, pr_8_m2, pr_8_m4, pr_i_0, pr_i_1, pr_i_m1] at h6
      first
      | contradiction
      | exact absurd trivial h6
      | exact absurd h6 (by decide)
      | exact absurd (Classical.not_not.mp h6) (by decide)
      | skip
        refine pr_seqT (pc' := 18) 3 rfl ⟨⟨⟨trivial, (by first | assumption | (simp only [r9, r0, r1, r2, r3, s1, s2, q0, q1, rc, q3, q4, q5, q6, q7, q8, pr_8_m2, pr_8_m4, pr_i_0, pr_i_1, pr_i_m1]; first | assumption | decide | exact ⟨by assumption, by assumption⟩ | exact ⟨Or.inl (by assumption), by assumption⟩ | omega) | decide | exact ⟨Or.inl (by assumption), by assumption⟩ | exact ⟨by assumption, by assumption⟩ | omega)⟩, (by first | assumption | (simp only [r9, r0, r1, r2, r3, s1, s2, q0, q1, rc, q3, q4, q5, q6, q7, q8, pr_8_m2, pr_8_m4, pr_i_0, pr_i_1, pr_i_m1]; first | assumption | decide | exact ⟨by assumption, by assumption⟩ | exact ⟨Or.inl (by assumption), by assumption⟩ | omega) | decide | exact ⟨Or.inl (by assumption), by assumption⟩ | exact ⟨by assumption, by assumption⟩ | omega)⟩, (by first | assumption | (simp only [r9, r0, r1, r2, r3, s1, s2, q0, q1, rc, q3, q4, q5, q6, q7, q8, pr_8_m2, pr_8_m4, pr_i_0, pr_i_1, pr_i_m1]; first | assumption | decide | exact ⟨by assumption, by assumption⟩ | exact ⟨Or.inl (by assumption), by assumption⟩ | omega) | decide | exact ⟨Or.inl (by assumption), by assumption⟩ | exact ⟨by assumption, by assumption⟩ | omega)⟩ ?_
        try simp only [r9, r0, r1, r2, r3, s1, s2, q0, q1, rc, q3, q4, q5, q6, q7, q8, pr_8_m2, pr_8_m4, pr_i_0, pr_i_1, pr_i_m1]
        refine pr_ifT rfl (fun h18 => ?_) (fun h18 => ?_)
        · simp only [ab_cmp, pr_8_m2, pr_8_m4, pr_i_0, pr_i_1, pr_i_m1] at h18
          first
          | contradiction
          | exact absurd trivial h18
          | exact absurd h18 (by decide)
          | exact absurd (Classical.not_not.mp h18) (by decide)
          | skip
            refine pr_seqT (pc' := 35) 5 rfl ⟨⟨⟨⟨⟨trivial, (by first | assumption | (simp only [r9, r0, r1, r2, r3, s1, s2, q0, q1, rc, q3, q4, q5, q6, q7, q8, pr_8_m2, pr_8_m4, pr_i_0, pr_i_1, pr_i_m1]; first | assumption | decide | exact ⟨by assumption, by assumption⟩ | exact ⟨Or.inl (by assumption), by assumption⟩ | omega) | decide | exact ⟨Or.inl (by assumption), by assumption⟩ | exact ⟨by assumption, by assumption⟩ | omega)⟩, (by first | assumption | (simp only [r9, r0, r1, r2, r3, s1, s2, q0, q1, rc, q3, q4, q5, q6, q7, q8, pr_8_m2, pr_8_m4, pr_i_0, pr_i_1, pr_i_m1]; first | assumption | decide | exact ⟨by assumption, by assumption⟩ | exact ⟨Or.inl (by assumption), by assumption⟩ | omega) | decide | exact ⟨Or.inl (by assumption), by assumption⟩ | exact ⟨by assumption, by assumption⟩ | omega)⟩, (by first | assumption | (simp only [r9, r0, r1, r2, r3, s1, s2, q0, q1, rc, q3, q4, q5, q6, q7, q8, pr_8_m2, pr_8_m4, pr_i_0, pr_i_1, pr_i_m1]; first | assumption | decide | exact ⟨by assumption, by assumption⟩ | exact ⟨Or.inl (by assumption), by assumption⟩ | omega) | decide | exact ⟨Or.inl (by assumption), by assumption⟩ | exact ⟨by assumption, by assumption⟩ | omega)⟩, (by first | assumption | (simp only [r9, r0, r1, r2, r3, s1, s2, q0, q1, rc, q3, q4, q5, q6, q7, q8, pr_8_m2, pr_8_m4, pr_i_0, pr_i_1, pr_i_m1]; first | assumption | decide | exact ⟨by assumption, by assumption⟩ | exact ⟨Or.inl (by assumption), by assumption⟩ | omega) | decide | exact ⟨Or.inl (by assumption), by assumption⟩ | exact ⟨by assumption, by assumption⟩ | omega)⟩, (by first | assumption | (simp only [r9, r0, r1, r2, r3, s1, s2, q0, q1, rc, q3, q4, q5, q6, q7, q8, pr_8_m2, pr_8_m4, pr_i_0, pr_i_1, pr_i_m1]; first | assumption | decide | exact ⟨by assumption, by assumption⟩ | exact ⟨Or.inl (by assumption), by assumption⟩ | omega) | decide | exact ⟨Or.inl (by assumption), by assumption⟩ | exact ⟨by assumption, by assumption⟩ | omega)⟩ ?_
            try simp only [r9, r0, r1, r2, r3, s1, s2, q0, q1, rc, q3, q4, q5, q6, q7, q8, pr_8_m2, pr_8_m4, pr_i_0, pr_i_1, pr_i_m1]
            fail "no call@35 yX0_take"
        · simp only [ab_cmp, pr_8_m2, pr_8_m4, pr_i_0, pr_i_1, pr_i_m1] at h18
          first
          | contradiction
          | exact absurd trivial h18
          | exact absurd h18 (by decide)
          | exact absurd (Classical.not_not.mp h18) (by decide)
          | skip
            refine pr_seqT (pc' := 23) 1 rfl ⟨trivial, trivial⟩ ?_
            try simp only [r9, r0, r1, r2, r3, s1, s2, q0, q1, rc, q3, q4, q5, q6, q7, q8, pr_8_m2, pr_8_m4, pr_i_0, pr_i_1, pr_i_m1]
            exact pr_irT rfl trivial (by first | rfl | (simp only [r9, r0, r1, r2, r3, s1, s2, q0, q1, rc, q3, q4, q5, q6, q7, q8, pr_8_m2, pr_8_m4, pr_i_0, pr_i_1, pr_i_m1]; done) | (simp [pr_b, pr_8_m2, pr_8_m4, pr_i_0, pr_i_1, pr_i_m1, *]; done) | (simp_all [pr_b, pr_8_m2, pr_8_m4, pr_i_0, pr_i_1, pr_i_m1]; done))
    · simp only [ab_cmp, pr_8_m2, pr_8_m4, pr_i_0, pr_i_1, pr_i_m1] at h6
      first
      | contradiction
      | exact absurd trivial h6
      | exact absurd h6 (by decide)
      | exact absurd (Classical.not_not.mp h6) (by decide)
      | skip
        refine pr_seqT (pc' := 10) 1 rfl ⟨trivial, trivial⟩ ?_
        try simp only [r9, r0, r1, r2, r3, s1, s2, q0, q1, rc, q3, q4, q5, q6, q7, q8, pr_8_m2, pr_8_m4, pr_i_0, pr_i_1, pr_i_m1]
        exact pr_irT rfl trivial (by exact cp_s hl hv)
  · rw [q] at hp ⊢
    rw [if_pos rfl]
    by_cases z : X.1.2.1.length = 0
    · rw [if_pos z]
      rw [z] at v2
      have v2 : M.1 (tB b) 4 = 0 := v2
      refine pr_seqT (pc' := 3) 3 rfl ⟨⟨⟨trivial, trivial⟩, trivial⟩, trivial⟩ ?_
      try simp only [r9, r0, r1, r2, r3, s1, s2, q0, q1, rc, q3, q4, q5, q6, q7, q8, v2, pr_8_m2, pr_8_m4, pr_i_0, pr_i_1, pr_i_m1]
      refine pr_csT [_, _, _] rfl rfl rfl rfl rfl (Nat.le_of_ble_eq_true rfl) (Nat.le_of_ble_eq_true rfl) (hp) ?_
      refine pr_ifT rfl (fun h6 => ?_) (fun h6 => ?_)
      · simp only [ab_cmp, pr_8_m2, pr_8_m4, pr_i_0, pr_i_1, pr_i_m1] at h6
        first
        | contradiction
        | exact absurd trivial h6
        | exact absurd h6 (by decide)
        | exact absurd (Classical.not_not.mp h6) (by decide)
        | skip
          refine pr_seqT (pc' := 18) 3 rfl ⟨⟨⟨trivial, (by first | assumption | (simp only [r9, r0, r1, r2, r3, s1, s2, q0, q1, rc, q3, q4, q5, q6, q7, q8, v2, pr_8_m2, pr_8_m4, pr_i_0, pr_i_1, pr_i_m1]; first | assumption | decide | exact ⟨by assumption, by assumption⟩ | exact ⟨Or.inl (by assumption), by assumption⟩ | omega) | decide | exact ⟨Or.inl (by assumption), by assumption⟩ | exact ⟨by assumption, by assumption⟩ | omega)⟩, (by first | assumption | (simp only [r9, r0, r1, r2, r3, s1, s2, q0, q1, rc, q3, q4, q5, q6, q7, q8, v2, pr_8_m2, pr_8_m4, pr_i_0, pr_i_1, pr_i_m1]; first | assumption | decide | exact ⟨by assumption, by assumption⟩ | exact ⟨Or.inl (by assumption), by assumption⟩ | omega) | decide | exact ⟨Or.inl (by assumption), by assumption⟩ | exact ⟨by assumption, by assumption⟩ | omega)⟩, (by first | assumption | (simp only [r9, r0, r1, r2, r3, s1, s2, q0, q1, rc, q3, q4, q5, q6, q7, q8, v2, pr_8_m2, pr_8_m4, pr_i_0, pr_i_1, pr_i_m1]; first | assumption | decide | exact ⟨by assumption, by assumption⟩ | exact ⟨Or.inl (by assumption), by assumption⟩ | omega) | decide | exact ⟨Or.inl (by assumption), by assumption⟩ | exact ⟨by assumption, by assumption⟩ | omega)⟩ ?_
          try simp only [r9, r0, r1, r2, r3, s1, s2, q0, q1, rc, q3, q4, q5, q6, q7, q8, v2, pr_8_m2, pr_8_m4, pr_i_0, pr_i_1, pr_i_m1]
          refine pr_ifT rfl (fun h18 => ?_) (fun h18 => ?_)
          · simp only [ab_cmp, pr_8_m2, pr_8_m4, pr_i_0, pr_i_1, pr_i_m1] at h18
            first
            | contradiction
            | exact absurd trivial h18
            | exact absurd h18 (by decide)
            | exact absurd (Classical.not_not.mp h18) (by decide)
            | skip
              refine pr_seqT (pc' := 35) 5 rfl ⟨⟨⟨⟨⟨trivial, (by first | assumption | (simp only [r9, r0, r1, r2, r3, s1, s2, q0, q1, rc, q3, q4, q5, q6, q7, q8, v2, pr_8_m2, pr_8_m4, pr_i_0, pr_i_1, pr_i_m1]; first | assumption | decide | exact ⟨by assumption, by assumption⟩ | exact ⟨Or.inl (by assumption), by assumption⟩ | omega) | decide | exact ⟨Or.inl (by assumption), by assumption⟩ | exact ⟨by assumption, by assumption⟩ | omega)⟩, (by first | assumption | (simp only [r9, r0, r1, r2, r3, s1, s2, q0, q1, rc, q3, q4, q5, q6, q7, q8, v2, pr_8_m2, pr_8_m4, pr_i_0, pr_i_1, pr_i_m1]; first | assumption | decide | exact ⟨by assumption, by assumption⟩ | exact ⟨Or.inl (by assumption), by assumption⟩ | omega) | decide | exact ⟨Or.inl (by assumption), by assumption⟩ | exact ⟨by assumption, by assumption⟩ | omega)⟩, (by first | assumption | (simp only [r9, r0, r1, r2, r3, s1, s2, q0, q1, rc, q3, q4, q5, q6, q7, q8, v2, pr_8_m2, pr_8_m4, pr_i_0, pr_i_1, pr_i_m1]; first | assumption | decide | exact ⟨by assumption, by assumption⟩ | exact ⟨Or.inl (by assumption), by assumption⟩ | omega) | decide | exact ⟨Or.inl (by assumption), by assumption⟩ | exact ⟨by assumption, by assumption⟩ | omega)⟩, (by first | assumption | (simp only [r9, r0, r1, r2, r3, s1, s2, q0, q1, rc, q3, q4, q5, q6, q7, q8, v2, pr_8_m2, pr_8_m4, pr_i_0, pr_i_1, pr_i_m1]; first | assumption | decide | exact ⟨by assumption, by assumption⟩ | exact ⟨Or.inl (by assumption), by assumption⟩ | omega) | decide | exact ⟨Or.inl (by assumption), by assumption⟩ | exact ⟨by assumption, by assumption⟩ | omega)⟩, (by first | assumption | (simp only [r9, r0, r1, r2, r3, s1, s2, q0, q1, rc, q3, q4, q5, q6, q7, q8, v2, pr_8_m2, pr_8_m4, pr_i_0, pr_i_1, pr_i_m1]; first | assumption | decide | exact ⟨by assumption, by assumption⟩ | exact ⟨Or.inl (by assumption), by assumption⟩ | omega) | decide | exact ⟨Or.inl (by assumption), by assumption⟩ | exact ⟨by assumption, by assumption⟩ | omega)⟩ ?_
              try simp only [r9, r0, r1, r2, r3, s1, s2, q0, q1, rc, q3, q4, q5, q6, q7, q8, v2, pr_8_m2, pr_8_m4, pr_i_0, pr_i_1, pr_i_m1]
              fail "no call@35 yX0_take"
          · simp only [ab_cmp, pr_8_m2, pr_8_m4, pr_i_0, pr_i_1, pr_i_m1] at h18
            first
            | contradiction
            | exact absurd trivial h18
            | exact absurd h18 (by decide)
            | exact absurd (Classical.not_not.mp h18) (by decide)
            | skip
              refine pr_seqT (pc' := 23) 1 rfl ⟨trivial, trivial⟩ ?_
              try simp only [r9, r0, r1, r2, r3, s1, s2, q0, q1, rc, q3, q4, q5, q6, q7, q8, v2, pr_8_m2, pr_8_m4, pr_i_0, pr_i_1, pr_i_m1]
              exact pr_irT rfl trivial (by exact cp_s hl hv)
      · simp only [ab_cmp, pr_8_m2, pr_8_m4, pr_i_0, pr_i_1, pr_i_m1] at h6
        first
        | contradiction
        | exact absurd trivial h6
        | exact absurd h6 (by decide)
        | exact absurd (Classical.not_not.mp h6) (by decide)
        | skip
          refine pr_seqT (pc' := 10) 1 rfl ⟨trivial, trivial⟩ ?_
          try simp only [r9, r0, r1, r2, r3, s1, s2, q0, q1, rc, q3, q4, q5, q6, q7, q8, v2, pr_8_m2, pr_8_m4, pr_i_0, pr_i_1, pr_i_m1]
          exact pr_irT rfl trivial (by first | rfl | (simp only [r9, r0, r1, r2, r3, s1, s2, q0, q1, rc, q3, q4, q5, q6, q7, q8, v2, pr_8_m2, pr_8_m4, pr_i_0, pr_i_1, pr_i_m1]; done) | (simp [pr_b, pr_8_m2, pr_8_m4, pr_i_0, pr_i_1, pr_i_m1, *]; done) | (simp_all [pr_b, pr_8_m2, pr_8_m4, pr_i_0, pr_i_1, pr_i_m1]; done))
    · rw [if_neg z]
      have z' : ¬ nI X.1.2.1.length = 0 := nI_ne (b := 0) z (by omega) (by decide)
      have loop : ∀ dd j, j + dd = X.1.2.1.length → ∀ (I : Nat → Nat → Int32) (o5 : Option Value), cl_same M.1 I → cs_v I 49 (x_n X) (x_S X) (x_K X) (x_D X) (x_W X) → pr_T pX10_call 46 [some (.ref 1), some (.int (nI k)), some (.int (bst (fun n => x_at X (nI (x_ls X n))) j).1), some (.int (bst (fun n => x_at X (nI (x_ls X n))) j).2), some (.int (nI j)), o5] [] h (I, M.2) (cp h M (if nI k = 0 then (bst (fun n => x_at X (nI (x_ls X n))) X.1.2.1.length).1 else (bst (fun n => x_at X (nI (x_ls X n))) X.1.2.1.length).2, X)) := by
        intro dd
        induction dd with
        | zero =>
          intro j hj I o5 hs hcv
          obtain rfl : j = X.1.2.1.length := by omega
          have v2 : I (tB b) 4 = nI X.1.2.1.length := by rw [hs _ (by omega)]; exact v2
          have e1 : nI X.1.2.1.length ≤ nI X.1.2.1.length := nI_le (Nat.le_refl _) (by omega)
          rcases (show k = 0 ∨ k = 1 by omega) with rfl | rfl
          · rw [if_pos (show nI 0 = 0 from rfl)]
            refine pr_seqT (pc' := 55) 4 rfl ⟨⟨⟨⟨trivial, trivial⟩, (by first | assumption | (simp only [r9, r0, r1, r2, r3, s1, s2, q0, q1, rc, q3, q4, q5, q6, q7, q8, v2, pr_8_m2, pr_8_m4, pr_i_0, pr_i_1, pr_i_m1]; first | assumption | decide | exact ⟨by assumption, by assumption⟩ | exact ⟨Or.inl (by assumption), by assumption⟩ | omega) | decide | exact ⟨Or.inl (by assumption), by assumption⟩ | exact ⟨by assumption, by assumption⟩ | omega)⟩, (by first | assumption | (simp only [r9, r0, r1, r2, r3, s1, s2, q0, q1, rc, q3, q4, q5, q6, q7, q8, v2, pr_8_m2, pr_8_m4, pr_i_0, pr_i_1, pr_i_m1]; first | assumption | decide | exact ⟨by assumption, by assumption⟩ | exact ⟨Or.inl (by assumption), by assumption⟩ | omega) | decide | exact ⟨Or.inl (by assumption), by assumption⟩ | exact ⟨by assumption, by assumption⟩ | omega)⟩, (by first | assumption | (simp only [r9, r0, r1, r2, r3, s1, s2, q0, q1, rc, q3, q4, q5, q6, q7, q8, v2, pr_8_m2, pr_8_m4, pr_i_0, pr_i_1, pr_i_m1]; first | assumption | decide | exact ⟨by assumption, by assumption⟩ | exact ⟨Or.inl (by assumption), by assumption⟩ | omega) | decide | exact ⟨Or.inl (by assumption), by assumption⟩ | exact ⟨by assumption, by assumption⟩ | omega)⟩ ?_
            try simp only [r9, r0, r1, r2, r3, s1, s2, q0, q1, rc, q3, q4, q5, q6, q7, q8, v2, pr_8_m2, pr_8_m4, pr_i_0, pr_i_1, pr_i_m1]
            refine pr_icT rfl (fun h55 => ?_) (fun h55 => ?_)
            · simp only [ab_cmp, pr_8_m2, pr_8_m4, pr_i_0, pr_i_1, pr_i_m1] at h55
              first
              | contradiction
              | exact absurd trivial h55
              | exact absurd h55 (by decide)
              | exact absurd (Classical.not_not.mp h55) (by decide)
              | exact absurd rfl h55
              | skip
                refine pr_seqT (pc' := 101) 1 rfl ⟨trivial, trivial⟩ ?_
                try simp only [r9, r0, r1, r2, r3, s1, s2, q0, q1, rc, q3, q4, q5, q6, q7, q8, v2, pr_8_m2, pr_8_m4, pr_i_0, pr_i_1, pr_i_m1]
                refine pr_ifT rfl (fun h101 => ?_) (fun h101 => ?_)
                · simp only [ab_cmp, pr_8_m2, pr_8_m4, pr_i_0, pr_i_1, pr_i_m1] at h101
                  first
                  | contradiction
                  | exact absurd trivial h101
                  | exact absurd h101 (by decide)
                  | exact absurd (Classical.not_not.mp h101) (by decide)
                  | exact absurd rfl h101
                  | skip
                    refine pr_seqT (pc' := 109) 1 rfl ⟨trivial, trivial⟩ ?_
                    try simp only [r9, r0, r1, r2, r3, s1, s2, q0, q1, rc, q3, q4, q5, q6, q7, q8, v2, pr_8_m2, pr_8_m4, pr_i_0, pr_i_1, pr_i_m1]
                    exact pr_irT rfl trivial (cp_q hl hv rfl hs)
                · simp only [ab_cmp, pr_8_m2, pr_8_m4, pr_i_0, pr_i_1, pr_i_m1] at h101
                  first
                  | contradiction
                  | exact absurd trivial h101
                  | exact absurd h101 (by decide)
                  | exact absurd (Classical.not_not.mp h101) (by decide)
                  | exact absurd rfl h101
                  | skip
                    refine pr_seqT (pc' := 109) 2 rfl ⟨⟨trivial, trivial⟩, trivial⟩ ?_
                    try simp only [r9, r0, r1, r2, r3, s1, s2, q0, q1, rc, q3, q4, q5, q6, q7, q8, v2, pr_8_m2, pr_8_m4, pr_i_0, pr_i_1, pr_i_m1]
                    exact pr_irT rfl trivial (cp_q hl hv rfl hs)
            · simp only [ab_cmp, pr_8_m2, pr_8_m4, pr_i_0, pr_i_1, pr_i_m1] at h55
              first
              | contradiction
              | exact absurd trivial h55
              | exact absurd h55 (by decide)
              | exact absurd (Classical.not_not.mp h55) (by decide)
              | exact absurd rfl h55
              | skip
                refine pr_seqT (pc' := 68) 5 rfl ⟨⟨⟨⟨⟨trivial, (by first | assumption | (simp only [r9, r0, r1, r2, r3, s1, s2, q0, q1, rc, q3, q4, q5, q6, q7, q8, v2, pr_8_m2, pr_8_m4, pr_i_0, pr_i_1, pr_i_m1]; first | assumption | decide | exact ⟨by assumption, by assumption⟩ | exact ⟨Or.inl (by assumption), by assumption⟩ | omega) | decide | exact ⟨Or.inl (by assumption), by assumption⟩ | exact ⟨by assumption, by assumption⟩ | omega)⟩, (by first | assumption | (simp only [r9, r0, r1, r2, r3, s1, s2, q0, q1, rc, q3, q4, q5, q6, q7, q8, v2, pr_8_m2, pr_8_m4, pr_i_0, pr_i_1, pr_i_m1]; first | assumption | decide | exact ⟨by assumption, by assumption⟩ | exact ⟨Or.inl (by assumption), by assumption⟩ | omega) | decide | exact ⟨Or.inl (by assumption), by assumption⟩ | exact ⟨by assumption, by assumption⟩ | omega)⟩, (by first | assumption | (simp only [r9, r0, r1, r2, r3, s1, s2, q0, q1, rc, q3, q4, q5, q6, q7, q8, v2, pr_8_m2, pr_8_m4, pr_i_0, pr_i_1, pr_i_m1]; first | assumption | decide | exact ⟨by assumption, by assumption⟩ | exact ⟨Or.inl (by assumption), by assumption⟩ | omega) | decide | exact ⟨Or.inl (by assumption), by assumption⟩ | exact ⟨by assumption, by assumption⟩ | omega)⟩, (by first | assumption | (simp only [r9, r0, r1, r2, r3, s1, s2, q0, q1, rc, q3, q4, q5, q6, q7, q8, v2, pr_8_m2, pr_8_m4, pr_i_0, pr_i_1, pr_i_m1]; first | assumption | decide | exact ⟨by assumption, by assumption⟩ | exact ⟨Or.inl (by assumption), by assumption⟩ | omega) | decide | exact ⟨Or.inl (by assumption), by assumption⟩ | exact ⟨by assumption, by assumption⟩ | omega)⟩, trivial⟩ ?_
                try simp only [r9, r0, r1, r2, r3, s1, s2, q0, q1, rc, q3, q4, q5, q6, q7, q8, v2, pr_8_m2, pr_8_m4, pr_i_0, pr_i_1, pr_i_m1]
                fail "no call@68 yX9_listedSum"
          · rw [if_neg (show ¬ nI 1 = 0 by decide)]
            refine pr_seqT (pc' := 55) 4 rfl ⟨⟨⟨⟨trivial, trivial⟩, (by first | assumption | (simp only [r9, r0, r1, r2, r3, s1, s2, q0, q1, rc, q3, q4, q5, q6, q7, q8, v2, pr_8_m2, pr_8_m4, pr_i_0, pr_i_1, pr_i_m1]; first | assumption | decide | exact ⟨by assumption, by assumption⟩ | exact ⟨Or.inl (by assumption), by assumption⟩ | omega) | decide | exact ⟨Or.inl (by assumption), by assumption⟩ | exact ⟨by assumption, by assumption⟩ | omega)⟩, (by first | assumption | (simp only [r9, r0, r1, r2, r3, s1, s2, q0, q1, rc, q3, q4, q5, q6, q7, q8, v2, pr_8_m2, pr_8_m4, pr_i_0, pr_i_1, pr_i_m1]; first | assumption | decide | exact ⟨by assumption, by assumption⟩ | exact ⟨Or.inl (by assumption), by assumption⟩ | omega) | decide | exact ⟨Or.inl (by assumption), by assumption⟩ | exact ⟨by assumption, by assumption⟩ | omega)⟩, (by first | assumption | (simp only [r9, r0, r1, r2, r3, s1, s2, q0, q1, rc, q3, q4, q5, q6, q7, q8, v2, pr_8_m2, pr_8_m4, pr_i_0, pr_i_1, pr_i_m1]; first | assumption | decide | exact ⟨by assumption, by assumption⟩ | exact ⟨Or.inl (by assumption), by assumption⟩ | omega) | decide | exact ⟨Or.inl (by assumption), by assumption⟩ | exact ⟨by assumption, by assumption⟩ | omega)⟩ ?_
            try simp only [r9, r0, r1, r2, r3, s1, s2, q0, q1, rc, q3, q4, q5, q6, q7, q8, v2, pr_8_m2, pr_8_m4, pr_i_0, pr_i_1, pr_i_m1]
            refine pr_icT rfl (fun h55 => ?_) (fun h55 => ?_)
            · simp only [ab_cmp, pr_8_m2, pr_8_m4, pr_i_0, pr_i_1, pr_i_m1] at h55
              first
              | contradiction
              | exact absurd trivial h55
              | exact absurd h55 (by decide)
              | exact absurd (Classical.not_not.mp h55) (by decide)
              | skip
                refine pr_seqT (pc' := 101) 1 rfl ⟨trivial, trivial⟩ ?_
                try simp only [r9, r0, r1, r2, r3, s1, s2, q0, q1, rc, q3, q4, q5, q6, q7, q8, v2, pr_8_m2, pr_8_m4, pr_i_0, pr_i_1, pr_i_m1]
                refine pr_ifT rfl (fun h101 => ?_) (fun h101 => ?_)
                · simp only [ab_cmp, pr_8_m2, pr_8_m4, pr_i_0, pr_i_1, pr_i_m1] at h101
                  first
                  | contradiction
                  | exact absurd trivial h101
                  | exact absurd h101 (by decide)
                  | exact absurd (Classical.not_not.mp h101) (by decide)
                  | skip
                    refine pr_seqT (pc' := 109) 1 rfl ⟨trivial, trivial⟩ ?_
                    try simp only [r9, r0, r1, r2, r3, s1, s2, q0, q1, rc, q3, q4, q5, q6, q7, q8, v2, pr_8_m2, pr_8_m4, pr_i_0, pr_i_1, pr_i_m1]
                    exact pr_irT rfl trivial (cp_q hl hv rfl hs)
                · simp only [ab_cmp, pr_8_m2, pr_8_m4, pr_i_0, pr_i_1, pr_i_m1] at h101
                  first
                  | contradiction
                  | exact absurd trivial h101
                  | exact absurd h101 (by decide)
                  | exact absurd (Classical.not_not.mp h101) (by decide)
                  | skip
                    refine pr_seqT (pc' := 109) 2 rfl ⟨⟨trivial, trivial⟩, trivial⟩ ?_
                    try simp only [r9, r0, r1, r2, r3, s1, s2, q0, q1, rc, q3, q4, q5, q6, q7, q8, v2, pr_8_m2, pr_8_m4, pr_i_0, pr_i_1, pr_i_m1]
                    exact pr_irT rfl trivial (cp_q hl hv rfl hs)
            · simp only [ab_cmp, pr_8_m2, pr_8_m4, pr_i_0, pr_i_1, pr_i_m1] at h55
              first
              | contradiction
              | exact absurd trivial h55
              | exact absurd h55 (by decide)
              | exact absurd (Classical.not_not.mp h55) (by decide)
              | skip
                refine pr_seqT (pc' := 68) 5 rfl ⟨⟨⟨⟨⟨trivial, (by first | assumption | (simp only [r9, r0, r1, r2, r3, s1, s2, q0, q1, rc, q3, q4, q5, q6, q7, q8, v2, pr_8_m2, pr_8_m4, pr_i_0, pr_i_1, pr_i_m1]; first | assumption | decide | exact ⟨by assumption, by assumption⟩ | exact ⟨Or.inl (by assumption), by assumption⟩ | omega) | decide | exact ⟨Or.inl (by assumption), by assumption⟩ | exact ⟨by assumption, by assumption⟩ | omega)⟩, (by first | assumption | (simp only [r9, r0, r1, r2, r3, s1, s2, q0, q1, rc, q3, q4, q5, q6, q7, q8, v2, pr_8_m2, pr_8_m4, pr_i_0, pr_i_1, pr_i_m1]; first | assumption | decide | exact ⟨by assumption, by assumption⟩ | exact ⟨Or.inl (by assumption), by assumption⟩ | omega) | decide | exact ⟨Or.inl (by assumption), by assumption⟩ | exact ⟨by assumption, by assumption⟩ | omega)⟩, (by first | assumption | (simp only [r9, r0, r1, r2, r3, s1, s2, q0, q1, rc, q3, q4, q5, q6, q7, q8, v2, pr_8_m2, pr_8_m4, pr_i_0, pr_i_1, pr_i_m1]; first | assumption | decide | exact ⟨by assumption, by assumption⟩ | exact ⟨Or.inl (by assumption), by assumption⟩ | omega) | decide | exact ⟨Or.inl (by assumption), by assumption⟩ | exact ⟨by assumption, by assumption⟩ | omega)⟩, (by first | assumption | (simp only [r9, r0, r1, r2, r3, s1, s2, q0, q1, rc, q3, q4, q5, q6, q7, q8, v2, pr_8_m2, pr_8_m4, pr_i_0, pr_i_1, pr_i_m1]; first | assumption | decide | exact ⟨by assumption, by assumption⟩ | exact ⟨Or.inl (by assumption), by assumption⟩ | omega) | decide | exact ⟨Or.inl (by assumption), by assumption⟩ | exact ⟨by assumption, by assumption⟩ | omega)⟩, trivial⟩ ?_
                try simp only [r9, r0, r1, r2, r3, s1, s2, q0, q1, rc, q3, q4, q5, q6, q7, q8, v2, pr_8_m2, pr_8_m4, pr_i_0, pr_i_1, pr_i_m1]
                fail "no call@68 yX9_listedSum"
        | succ dd ih =>
          intro j hj I o5 hs hcv
          have v2' : I (tB b) 4 = nI X.1.2.1.length := by rw [hs _ (by omega)]; exact v2
          have e1 : ¬ nI X.1.2.1.length ≤ nI j := nI_ge (by omega) (by omega)
          have hT2 := tl_v_same hs hT
          have hls := c_listedSum h (I, M.2) ht hT2 (x_ls_at (X := X) (n := j) (by omega))
          have hwc := c_worthHavingOfChild (nI (a_sum X.1.1.1 X.1.1.2.2.1 0 (x_ln X j))) h (I, M.2) hc hcv (by show x_n X < 28; have d2 : x_n X ≤ 8 := d2; omega)
          have ew : a_wh (al (va_up (x_S X) (x_n X) (nI (a_sum X.1.1.1 X.1.1.2.2.1 0 (x_ln X j)))) (va_up (x_K X) (x_n X) 0) (x_n X)) (va_up (x_W X) (x_n X) 0) (va_up (x_D X) (x_n X) 0) (x_n X + 1) = x_at X (nI (x_ls X j)) := wh_child _ _ _ _ _ _
          rw [ew] at hwc
          have hhS := fun I' h1 h2 => ih (j + 1) (by omega) I' (some (.int (x_at X (nI (x_ls X j))))) h1 h2
          have eb : bst (fun n => x_at X (nI (x_ls X n))) (j + 1) = if (bst (fun n => x_at X (nI (x_ls X n))) j).2 = -4 ∨ (bst (fun n => x_at X (nI (x_ls X n))) j).1 < x_at X (nI (x_ls X j)) then (x_at X (nI (x_ls X j)), nI j) else bst (fun n => x_at X (nI (x_ls X n))) j := rfl
          rw [← nI_1] at hhS
          by_cases c1 : (bst (fun n => x_at X (nI (x_ls X n))) j).2 = -4
          · rw [eb, if_pos (Or.inl c1)] at hhS
            refine pr_seqT (pc' := 55) 4 rfl ⟨⟨⟨⟨trivial, trivial⟩, (by first | assumption | (simp only [r9, r0, r1, r2, r3, s1, s2, q0, q1, rc, q3, q4, q5, q6, q7, q8, v2', pr_8_m2, pr_8_m4, pr_i_0, pr_i_1, pr_i_m1]; first | assumption | decide | exact ⟨by assumption, by assumption⟩ | exact ⟨Or.inl (by assumption), by assumption⟩ | omega) | decide | exact ⟨Or.inl (by assumption), by assumption⟩ | exact ⟨by assumption, by assumption⟩ | omega)⟩, (by first | assumption | (simp only [r9, r0, r1, r2, r3, s1, s2, q0, q1, rc, q3, q4, q5, q6, q7, q8, v2', pr_8_m2, pr_8_m4, pr_i_0, pr_i_1, pr_i_m1]; first | assumption | decide | exact ⟨by assumption, by assumption⟩ | exact ⟨Or.inl (by assumption), by assumption⟩ | omega) | decide | exact ⟨Or.inl (by assumption), by assumption⟩ | exact ⟨by assumption, by assumption⟩ | omega)⟩, (by first | assumption | (simp only [r9, r0, r1, r2, r3, s1, s2, q0, q1, rc, q3, q4, q5, q6, q7, q8, v2', pr_8_m2, pr_8_m4, pr_i_0, pr_i_1, pr_i_m1]; first | assumption | decide | exact ⟨by assumption, by assumption⟩ | exact ⟨Or.inl (by assumption), by assumption⟩ | omega) | decide | exact ⟨Or.inl (by assumption), by assumption⟩ | exact ⟨by assumption, by assumption⟩ | omega)⟩ ?_
            try simp only [r9, r0, r1, r2, r3, s1, s2, q0, q1, rc, q3, q4, q5, q6, q7, q8, v2', pr_8_m2, pr_8_m4, pr_i_0, pr_i_1, pr_i_m1]
            refine pr_icT rfl (fun h55 => ?_) (fun h55 => ?_)
            · simp only [ab_cmp, pr_8_m2, pr_8_m4, pr_i_0, pr_i_1, pr_i_m1] at h55
              first
              | contradiction
              | exact absurd trivial h55
              | exact absurd h55 (by decide)
              | exact absurd (Classical.not_not.mp h55) (by decide)
              | skip
                refine pr_seqT (pc' := 101) 1 rfl ⟨trivial, trivial⟩ ?_
                try simp only [r9, r0, r1, r2, r3, s1, s2, q0, q1, rc, q3, q4, q5, q6, q7, q8, v2', pr_8_m2, pr_8_m4, pr_i_0, pr_i_1, pr_i_m1]
                refine pr_ifT rfl (fun h101 => ?_) (fun h101 => ?_)
                · simp only [ab_cmp, pr_8_m2, pr_8_m4, pr_i_0, pr_i_1, pr_i_m1] at h101
                  first
                  | contradiction
                  | exact absurd trivial h101
                  | exact absurd h101 (by decide)
                  | exact absurd (Classical.not_not.mp h101) (by decide)
                  | skip
                    refine pr_seqT (pc' := 109) 1 rfl ⟨trivial, trivial⟩ ?_
                    try simp only [r9, r0, r1, r2, r3, s1, s2, q0, q1, rc, q3, q4, q5, q6, q7, q8, v2', pr_8_m2, pr_8_m4, pr_i_0, pr_i_1, pr_i_m1]
                    exact pr_irT rfl trivial (by first | rfl | (simp only [r9, r0, r1, r2, r3, s1, s2, q0, q1, rc, q3, q4, q5, q6, q7, q8, v2', pr_8_m2, pr_8_m4, pr_i_0, pr_i_1, pr_i_m1]; done) | (simp [pr_b, pr_8_m2, pr_8_m4, pr_i_0, pr_i_1, pr_i_m1, *]; done) | (simp_all [pr_b, pr_8_m2, pr_8_m4, pr_i_0, pr_i_1, pr_i_m1]; done))
                · simp only [ab_cmp, pr_8_m2, pr_8_m4, pr_i_0, pr_i_1, pr_i_m1] at h101
                  first
                  | contradiction
                  | exact absurd trivial h101
                  | exact absurd h101 (by decide)
                  | exact absurd (Classical.not_not.mp h101) (by decide)
                  | skip
                    refine pr_seqT (pc' := 109) 2 rfl ⟨⟨trivial, trivial⟩, trivial⟩ ?_
                    try simp only [r9, r0, r1, r2, r3, s1, s2, q0, q1, rc, q3, q4, q5, q6, q7, q8, v2', pr_8_m2, pr_8_m4, pr_i_0, pr_i_1, pr_i_m1]
                    exact pr_irT rfl trivial (by first | rfl | (simp only [r9, r0, r1, r2, r3, s1, s2, q0, q1, rc, q3, q4, q5, q6, q7, q8, v2', pr_8_m2, pr_8_m4, pr_i_0, pr_i_1, pr_i_m1]; done) | (simp [pr_b, pr_8_m2, pr_8_m4, pr_i_0, pr_i_1, pr_i_m1, *]; done) | (simp_all [pr_b, pr_8_m2, pr_8_m4, pr_i_0, pr_i_1, pr_i_m1]; done))
            · simp only [ab_cmp, pr_8_m2, pr_8_m4, pr_i_0, pr_i_1, pr_i_m1] at h55
              first
              | contradiction
              | exact absurd trivial h55
              | exact absurd h55 (by decide)
              | exact absurd (Classical.not_not.mp h55) (by decide)
              | skip
                refine pr_seqT (pc' := 68) 5 rfl ⟨⟨⟨⟨⟨trivial, (by first | assumption | (simp only [r9, r0, r1, r2, r3, s1, s2, q0, q1, rc, q3, q4, q5, q6, q7, q8, v2', pr_8_m2, pr_8_m4, pr_i_0, pr_i_1, pr_i_m1]; first | assumption | decide | exact ⟨by assumption, by assumption⟩ | exact ⟨Or.inl (by assumption), by assumption⟩ | omega) | decide | exact ⟨Or.inl (by assumption), by assumption⟩ | exact ⟨by assumption, by assumption⟩ | omega)⟩, (by first | assumption | (simp only [r9, r0, r1, r2, r3, s1, s2, q0, q1, rc, q3, q4, q5, q6, q7, q8, v2', pr_8_m2, pr_8_m4, pr_i_0, pr_i_1, pr_i_m1]; first | assumption | decide | exact ⟨by assumption, by assumption⟩ | exact ⟨Or.inl (by assumption), by assumption⟩ | omega) | decide | exact ⟨Or.inl (by assumption), by assumption⟩ | exact ⟨by assumption, by assumption⟩ | omega)⟩, (by first | assumption | (simp only [r9, r0, r1, r2, r3, s1, s2, q0, q1, rc, q3, q4, q5, q6, q7, q8, v2', pr_8_m2, pr_8_m4, pr_i_0, pr_i_1, pr_i_m1]; first | assumption | decide | exact ⟨by assumption, by assumption⟩ | exact ⟨Or.inl (by assumption), by assumption⟩ | omega) | decide | exact ⟨Or.inl (by assumption), by assumption⟩ | exact ⟨by assumption, by assumption⟩ | omega)⟩, (by first | assumption | (simp only [r9, r0, r1, r2, r3, s1, s2, q0, q1, rc, q3, q4, q5, q6, q7, q8, v2', pr_8_m2, pr_8_m4, pr_i_0, pr_i_1, pr_i_m1]; first | assumption | decide | exact ⟨by assumption, by assumption⟩ | exact ⟨Or.inl (by assumption), by assumption⟩ | omega) | decide | exact ⟨Or.inl (by assumption), by assumption⟩ | exact ⟨by assumption, by assumption⟩ | omega)⟩, trivial⟩ ?_
                try simp only [r9, r0, r1, r2, r3, s1, s2, q0, q1, rc, q3, q4, q5, q6, q7, q8, v2', pr_8_m2, pr_8_m4, pr_i_0, pr_i_1, pr_i_m1]
                refine pr_cvT [_] rfl rfl rfl rfl rfl (Nat.le_of_ble_eq_true rfl) (by first | assumption | (simp only [r9, r0, r1, r2, r3, s1, s2, q0, q1, rc, q3, q4, q5, q6, q7, q8, v2', pr_8_m2, pr_8_m4, pr_i_0, pr_i_1, pr_i_m1]; first | assumption | decide | exact ⟨by assumption, by assumption⟩ | exact ⟨Or.inl (by assumption), by assumption⟩ | omega) | decide | exact ⟨Or.inl (by assumption), by assumption⟩ | exact ⟨by assumption, by assumption⟩ | omega) (Nat.le_of_ble_eq_true rfl) (hls) ?_
                refine pr_cvX [_] rfl rfl rfl rfl rfl (Nat.le_of_ble_eq_true rfl) (by first | assumption | (simp only [r9, r0, r1, r2, r3, s1, s2, q0, q1, rc, q3, q4, q5, q6, q7, q8, v2', pr_8_m2, pr_8_m4, pr_i_0, pr_i_1, pr_i_m1]; first | assumption | decide | exact ⟨by assumption, by assumption⟩ | exact ⟨Or.inl (by assumption), by assumption⟩ | omega) | decide | exact ⟨Or.inl (by assumption), by assumption⟩ | exact ⟨by assumption, by assumption⟩ | omega) (Nat.le_of_ble_eq_true rfl) (hwc) (fun v71 M71 q71 => ?_)
                obtain ⟨rfl, e2, e3, e4⟩ := q71
                obtain ⟨I1, Z1⟩ := M71
                dsimp only at e2 e3 e4
                subst e2
                have hs1 : cl_same M.1 I1 := fun a ha => by rw [e4 a (by omega)]; exact hs a ha
                refine pr_seqT (pc' := 79) 3 rfl ⟨⟨⟨trivial, trivial⟩, trivial⟩, trivial⟩ ?_
                try simp only [r9, r0, r1, r2, r3, s1, s2, q0, q1, rc, q3, q4, q5, q6, q7, q8, v2', pr_8_m2, pr_8_m4, pr_i_0, pr_i_1, pr_i_m1]
                refine pr_icT rfl (fun h79 => ?_) (fun h79 => ?_)
                · simp only [ab_cmp, pr_8_m2, pr_8_m4, pr_i_0, pr_i_1, pr_i_m1] at h79
                  first
                  | contradiction
                  | exact absurd trivial h79
                  | exact absurd h79 (by decide)
                  | exact absurd (Classical.not_not.mp h79) (by decide)
                  | skip
                    refine pr_seqT (pc' := 46) 6 rfl ⟨⟨⟨⟨⟨⟨trivial, trivial⟩, trivial⟩, trivial⟩, trivial⟩, trivial⟩, trivial⟩ ?_
                    try simp only [r9, r0, r1, r2, r3, s1, s2, q0, q1, rc, q3, q4, q5, q6, q7, q8, v2', pr_8_m2, pr_8_m4, pr_i_0, pr_i_1, pr_i_m1]
                    exact hhS I1 hs1 e3
                · simp only [ab_cmp, pr_8_m2, pr_8_m4, pr_i_0, pr_i_1, pr_i_m1] at h79
                  first
                  | contradiction
                  | exact absurd trivial h79
                  | exact absurd h79 (by decide)
                  | exact absurd (Classical.not_not.mp h79) (by decide)
                  | skip
                    refine pr_seqT (pc' := 85) 2 rfl ⟨⟨trivial, trivial⟩, trivial⟩ ?_
                    try simp only [r9, r0, r1, r2, r3, s1, s2, q0, q1, rc, q3, q4, q5, q6, q7, q8, v2', pr_8_m2, pr_8_m4, pr_i_0, pr_i_1, pr_i_m1]
                    refine pr_icT rfl (fun h85 => ?_) (fun h85 => ?_)
                    · simp only [ab_cmp, pr_8_m2, pr_8_m4, pr_i_0, pr_i_1, pr_i_m1] at h85
                      first
                      | contradiction
                      | exact absurd trivial h85
                      | exact absurd h85 (by decide)
                      | exact absurd (Classical.not_not.mp h85) (by decide)
                      | skip
                        refine pr_seqT (pc' := 46) 2 rfl ⟨⟨trivial, trivial⟩, trivial⟩ ?_
                        try simp only [r9, r0, r1, r2, r3, s1, s2, q0, q1, rc, q3, q4, q5, q6, q7, q8, v2', pr_8_m2, pr_8_m4, pr_i_0, pr_i_1, pr_i_m1]
                        exact hhS I1 hs1 e3
                    · simp only [ab_cmp, pr_8_m2, pr_8_m4, pr_i_0, pr_i_1, pr_i_m1] at h85
                      first
                      | contradiction
                      | exact absurd trivial h85
                      | exact absurd h85 (by decide)
                      | exact absurd (Classical.not_not.mp h85) (by decide)
                      | skip
                        refine pr_seqT (pc' := 46) 6 rfl ⟨⟨⟨⟨⟨⟨trivial, trivial⟩, trivial⟩, trivial⟩, trivial⟩, trivial⟩, trivial⟩ ?_
                        try simp only [r9, r0, r1, r2, r3, s1, s2, q0, q1, rc, q3, q4, q5, q6, q7, q8, v2', pr_8_m2, pr_8_m4, pr_i_0, pr_i_1, pr_i_m1]
                        exact hhS I1 hs1 e3
          · by_cases c2 : (bst (fun n => x_at X (nI (x_ls X n))) j).1 < x_at X (nI (x_ls X j))
            · have c3 : ¬ x_at X (nI (x_ls X j)) ≤ (bst (fun n => x_at X (nI (x_ls X n))) j).1 := Int32.not_le.mpr c2
              rw [eb, if_pos (Or.inr c2)] at hhS
              refine pr_seqT (pc' := 55) 4 rfl ⟨⟨⟨⟨trivial, trivial⟩, (by first | assumption | (simp only [r9, r0, r1, r2, r3, s1, s2, q0, q1, rc, q3, q4, q5, q6, q7, q8, v2', pr_8_m2, pr_8_m4, pr_i_0, pr_i_1, pr_i_m1]; first | assumption | decide | exact ⟨by assumption, by assumption⟩ | exact ⟨Or.inl (by assumption), by assumption⟩ | omega) | decide | exact ⟨Or.inl (by assumption), by assumption⟩ | exact ⟨by assumption, by assumption⟩ | omega)⟩, (by first | assumption | (simp only [r9, r0, r1, r2, r3, s1, s2, q0, q1, rc, q3, q4, q5, q6, q7, q8, v2', pr_8_m2, pr_8_m4, pr_i_0, pr_i_1, pr_i_m1]; first | assumption | decide | exact ⟨by assumption, by assumption⟩ | exact ⟨Or.inl (by assumption), by assumption⟩ | omega) | decide | exact ⟨Or.inl (by assumption), by assumption⟩ | exact ⟨by assumption, by assumption⟩ | omega)⟩, (by first | assumption | (simp only [r9, r0, r1, r2, r3, s1, s2, q0, q1, rc, q3, q4, q5, q6, q7, q8, v2', pr_8_m2, pr_8_m4, pr_i_0, pr_i_1, pr_i_m1]; first | assumption | decide | exact ⟨by assumption, by assumption⟩ | exact ⟨Or.inl (by assumption), by assumption⟩ | omega) | decide | exact ⟨Or.inl (by assumption), by assumption⟩ | exact ⟨by assumption, by assumption⟩ | omega)⟩ ?_
              try simp only [r9, r0, r1, r2, r3, s1, s2, q0, q1, rc, q3, q4, q5, q6, q7, q8, v2', pr_8_m2, pr_8_m4, pr_i_0, pr_i_1, pr_i_m1]
              refine pr_icT rfl (fun h55 => ?_) (fun h55 => ?_)
              · simp only [ab_cmp, pr_8_m2, pr_8_m4, pr_i_0, pr_i_1, pr_i_m1] at h55
                first
                | contradiction
                | exact absurd trivial h55
                | exact absurd h55 (by decide)
                | exact absurd (Classical.not_not.mp h55) (by decide)
                | skip
                  refine pr_seqT (pc' := 101) 1 rfl ⟨trivial, trivial⟩ ?_
                  try simp only [r9, r0, r1, r2, r3, s1, s2, q0, q1, rc, q3, q4, q5, q6, q7, q8, v2', pr_8_m2, pr_8_m4, pr_i_0, pr_i_1, pr_i_m1]
                  refine pr_ifT rfl (fun h101 => ?_) (fun h101 => ?_)
                  · simp only [ab_cmp, pr_8_m2, pr_8_m4, pr_i_0, pr_i_1, pr_i_m1] at h101
                    first
                    | contradiction
                    | exact absurd trivial h101
                    | exact absurd h101 (by decide)
                    | exact absurd (Classical.not_not.mp h101) (by decide)
                    | skip
                      refine pr_seqT (pc' := 109) 1 rfl ⟨trivial, trivial⟩ ?_
                      try simp only [r9, r0, r1, r2, r3, s1, s2, q0, q1, rc, q3, q4, q5, q6, q7, q8, v2', pr_8_m2, pr_8_m4, pr_i_0, pr_i_1, pr_i_m1]
                      exact pr_irT rfl trivial (by first | rfl | (simp only [r9, r0, r1, r2, r3, s1, s2, q0, q1, rc, q3, q4, q5, q6, q7, q8, v2', pr_8_m2, pr_8_m4, pr_i_0, pr_i_1, pr_i_m1]; done) | (simp [pr_b, pr_8_m2, pr_8_m4, pr_i_0, pr_i_1, pr_i_m1, *]; done) | (simp_all [pr_b, pr_8_m2, pr_8_m4, pr_i_0, pr_i_1, pr_i_m1]; done))
                  · simp only [ab_cmp, pr_8_m2, pr_8_m4, pr_i_0, pr_i_1, pr_i_m1] at h101
                    first
                    | contradiction
                    | exact absurd trivial h101
                    | exact absurd h101 (by decide)
                    | exact absurd (Classical.not_not.mp h101) (by decide)
                    | skip
                      refine pr_seqT (pc' := 109) 2 rfl ⟨⟨trivial, trivial⟩, trivial⟩ ?_
                      try simp only [r9, r0, r1, r2, r3, s1, s2, q0, q1, rc, q3, q4, q5, q6, q7, q8, v2', pr_8_m2, pr_8_m4, pr_i_0, pr_i_1, pr_i_m1]
                      exact pr_irT rfl trivial (by first | rfl | (simp only [r9, r0, r1, r2, r3, s1, s2, q0, q1, rc, q3, q4, q5, q6, q7, q8, v2', pr_8_m2, pr_8_m4, pr_i_0, pr_i_1, pr_i_m1]; done) | (simp [pr_b, pr_8_m2, pr_8_m4, pr_i_0, pr_i_1, pr_i_m1, *]; done) | (simp_all [pr_b, pr_8_m2, pr_8_m4, pr_i_0, pr_i_1, pr_i_m1]; done))
              · simp only [ab_cmp, pr_8_m2, pr_8_m4, pr_i_0, pr_i_1, pr_i_m1] at h55
                first
                | contradiction
                | exact absurd trivial h55
                | exact absurd h55 (by decide)
                | exact absurd (Classical.not_not.mp h55) (by decide)
                | skip
                  refine pr_seqT (pc' := 68) 5 rfl ⟨⟨⟨⟨⟨trivial, (by first | assumption | (simp only [r9, r0, r1, r2, r3, s1, s2, q0, q1, rc, q3, q4, q5, q6, q7, q8, v2', pr_8_m2, pr_8_m4, pr_i_0, pr_i_1, pr_i_m1]; first | assumption | decide | exact ⟨by assumption, by assumption⟩ | exact ⟨Or.inl (by assumption), by assumption⟩ | omega) | decide | exact ⟨Or.inl (by assumption), by assumption⟩ | exact ⟨by assumption, by assumption⟩ | omega)⟩, (by first | assumption | (simp only [r9, r0, r1, r2, r3, s1, s2, q0, q1, rc, q3, q4, q5, q6, q7, q8, v2', pr_8_m2, pr_8_m4, pr_i_0, pr_i_1, pr_i_m1]; first | assumption | decide | exact ⟨by assumption, by assumption⟩ | exact ⟨Or.inl (by assumption), by assumption⟩ | omega) | decide | exact ⟨Or.inl (by assumption), by assumption⟩ | exact ⟨by assumption, by assumption⟩ | omega)⟩, (by first | assumption | (simp only [r9, r0, r1, r2, r3, s1, s2, q0, q1, rc, q3, q4, q5, q6, q7, q8, v2', pr_8_m2, pr_8_m4, pr_i_0, pr_i_1, pr_i_m1]; first | assumption | decide | exact ⟨by assumption, by assumption⟩ | exact ⟨Or.inl (by assumption), by assumption⟩ | omega) | decide | exact ⟨Or.inl (by assumption), by assumption⟩ | exact ⟨by assumption, by assumption⟩ | omega)⟩, (by first | assumption | (simp only [r9, r0, r1, r2, r3, s1, s2, q0, q1, rc, q3, q4, q5, q6, q7, q8, v2', pr_8_m2, pr_8_m4, pr_i_0, pr_i_1, pr_i_m1]; first | assumption | decide | exact ⟨by assumption, by assumption⟩ | exact ⟨Or.inl (by assumption), by assumption⟩ | omega) | decide | exact ⟨Or.inl (by assumption), by assumption⟩ | exact ⟨by assumption, by assumption⟩ | omega)⟩, trivial⟩ ?_
                  try simp only [r9, r0, r1, r2, r3, s1, s2, q0, q1, rc, q3, q4, q5, q6, q7, q8, v2', pr_8_m2, pr_8_m4, pr_i_0, pr_i_1, pr_i_m1]
                  refine pr_cvT [_] rfl rfl rfl rfl rfl (Nat.le_of_ble_eq_true rfl) (by first | assumption | (simp only [r9, r0, r1, r2, r3, s1, s2, q0, q1, rc, q3, q4, q5, q6, q7, q8, v2', pr_8_m2, pr_8_m4, pr_i_0, pr_i_1, pr_i_m1]; first | assumption | decide | exact ⟨by assumption, by assumption⟩ | exact ⟨Or.inl (by assumption), by assumption⟩ | omega) | decide | exact ⟨Or.inl (by assumption), by assumption⟩ | exact ⟨by assumption, by assumption⟩ | omega) (Nat.le_of_ble_eq_true rfl) (hls) ?_
                  refine pr_cvX [_] rfl rfl rfl rfl rfl (Nat.le_of_ble_eq_true rfl) (by first | assumption | (simp only [r9, r0, r1, r2, r3, s1, s2, q0, q1, rc, q3, q4, q5, q6, q7, q8, v2', pr_8_m2, pr_8_m4, pr_i_0, pr_i_1, pr_i_m1]; first | assumption | decide | exact ⟨by assumption, by assumption⟩ | exact ⟨Or.inl (by assumption), by assumption⟩ | omega) | decide | exact ⟨Or.inl (by assumption), by assumption⟩ | exact ⟨by assumption, by assumption⟩ | omega) (Nat.le_of_ble_eq_true rfl) (hwc) (fun v71 M71 q71 => ?_)
                  obtain ⟨rfl, e2, e3, e4⟩ := q71
                  obtain ⟨I1, Z1⟩ := M71
                  dsimp only at e2 e3 e4
                  subst e2
                  have hs1 : cl_same M.1 I1 := fun a ha => by rw [e4 a (by omega)]; exact hs a ha
                  refine pr_seqT (pc' := 79) 3 rfl ⟨⟨⟨trivial, trivial⟩, trivial⟩, trivial⟩ ?_
                  try simp only [r9, r0, r1, r2, r3, s1, s2, q0, q1, rc, q3, q4, q5, q6, q7, q8, v2', pr_8_m2, pr_8_m4, pr_i_0, pr_i_1, pr_i_m1]
                  refine pr_icT rfl (fun h79 => ?_) (fun h79 => ?_)
                  · simp only [ab_cmp, pr_8_m2, pr_8_m4, pr_i_0, pr_i_1, pr_i_m1] at h79
                    first
                    | contradiction
                    | exact absurd trivial h79
                    | exact absurd h79 (by decide)
                    | exact absurd (Classical.not_not.mp h79) (by decide)
                    | skip
                      refine pr_seqT (pc' := 46) 6 rfl ⟨⟨⟨⟨⟨⟨trivial, trivial⟩, trivial⟩, trivial⟩, trivial⟩, trivial⟩, trivial⟩ ?_
                      try simp only [r9, r0, r1, r2, r3, s1, s2, q0, q1, rc, q3, q4, q5, q6, q7, q8, v2', pr_8_m2, pr_8_m4, pr_i_0, pr_i_1, pr_i_m1]
                      exact hhS I1 hs1 e3
                  · simp only [ab_cmp, pr_8_m2, pr_8_m4, pr_i_0, pr_i_1, pr_i_m1] at h79
                    first
                    | contradiction
                    | exact absurd trivial h79
                    | exact absurd h79 (by decide)
                    | exact absurd (Classical.not_not.mp h79) (by decide)
                    | skip
                      refine pr_seqT (pc' := 85) 2 rfl ⟨⟨trivial, trivial⟩, trivial⟩ ?_
                      try simp only [r9, r0, r1, r2, r3, s1, s2, q0, q1, rc, q3, q4, q5, q6, q7, q8, v2', pr_8_m2, pr_8_m4, pr_i_0, pr_i_1, pr_i_m1]
                      refine pr_icT rfl (fun h85 => ?_) (fun h85 => ?_)
                      · simp only [ab_cmp, pr_8_m2, pr_8_m4, pr_i_0, pr_i_1, pr_i_m1] at h85
                        first
                        | contradiction
                        | exact absurd trivial h85
                        | exact absurd h85 (by decide)
                        | exact absurd (Classical.not_not.mp h85) (by decide)
                        | skip
                          refine pr_seqT (pc' := 46) 2 rfl ⟨⟨trivial, trivial⟩, trivial⟩ ?_
                          try simp only [r9, r0, r1, r2, r3, s1, s2, q0, q1, rc, q3, q4, q5, q6, q7, q8, v2', pr_8_m2, pr_8_m4, pr_i_0, pr_i_1, pr_i_m1]
                          exact hhS I1 hs1 e3
                      · simp only [ab_cmp, pr_8_m2, pr_8_m4, pr_i_0, pr_i_1, pr_i_m1] at h85
                        first
                        | contradiction
                        | exact absurd trivial h85
                        | exact absurd h85 (by decide)
                        | exact absurd (Classical.not_not.mp h85) (by decide)
                        | skip
                          refine pr_seqT (pc' := 46) 6 rfl ⟨⟨⟨⟨⟨⟨trivial, trivial⟩, trivial⟩, trivial⟩, trivial⟩, trivial⟩, trivial⟩ ?_
                          try simp only [r9, r0, r1, r2, r3, s1, s2, q0, q1, rc, q3, q4, q5, q6, q7, q8, v2', pr_8_m2, pr_8_m4, pr_i_0, pr_i_1, pr_i_m1]
                          exact hhS I1 hs1 e3
            · have c3 : x_at X (nI (x_ls X j)) ≤ (bst (fun n => x_at X (nI (x_ls X n))) j).1 := Int32.not_lt.mp c2
              rw [eb, if_neg (fun q => q.elim c1 c2)] at hhS
              refine pr_seqT (pc' := 55) 4 rfl ⟨⟨⟨⟨trivial, trivial⟩, (by first | assumption | (simp only [r9, r0, r1, r2, r3, s1, s2, q0, q1, rc, q3, q4, q5, q6, q7, q8, v2', pr_8_m2, pr_8_m4, pr_i_0, pr_i_1, pr_i_m1]; first | assumption | decide | exact ⟨by assumption, by assumption⟩ | exact ⟨Or.inl (by assumption), by assumption⟩ | omega) | decide | exact ⟨Or.inl (by assumption), by assumption⟩ | exact ⟨by assumption, by assumption⟩ | omega)⟩, (by first | assumption | (simp only [r9, r0, r1, r2, r3, s1, s2, q0, q1, rc, q3, q4, q5, q6, q7, q8, v2', pr_8_m2, pr_8_m4, pr_i_0, pr_i_1, pr_i_m1]; first | assumption | decide | exact ⟨by assumption, by assumption⟩ | exact ⟨Or.inl (by assumption), by assumption⟩ | omega) | decide | exact ⟨Or.inl (by assumption), by assumption⟩ | exact ⟨by assumption, by assumption⟩ | omega)⟩, (by first | assumption | (simp only [r9, r0, r1, r2, r3, s1, s2, q0, q1, rc, q3, q4, q5, q6, q7, q8, v2', pr_8_m2, pr_8_m4, pr_i_0, pr_i_1, pr_i_m1]; first | assumption | decide | exact ⟨by assumption, by assumption⟩ | exact ⟨Or.inl (by assumption), by assumption⟩ | omega) | decide | exact ⟨Or.inl (by assumption), by assumption⟩ | exact ⟨by assumption, by assumption⟩ | omega)⟩ ?_
              try simp only [r9, r0, r1, r2, r3, s1, s2, q0, q1, rc, q3, q4, q5, q6, q7, q8, v2', pr_8_m2, pr_8_m4, pr_i_0, pr_i_1, pr_i_m1]
              refine pr_icT rfl (fun h55 => ?_) (fun h55 => ?_)
              · simp only [ab_cmp, pr_8_m2, pr_8_m4, pr_i_0, pr_i_1, pr_i_m1] at h55
                first
                | contradiction
                | exact absurd trivial h55
                | exact absurd h55 (by decide)
                | exact absurd (Classical.not_not.mp h55) (by decide)
                | skip
                  refine pr_seqT (pc' := 101) 1 rfl ⟨trivial, trivial⟩ ?_
                  try simp only [r9, r0, r1, r2, r3, s1, s2, q0, q1, rc, q3, q4, q5, q6, q7, q8, v2', pr_8_m2, pr_8_m4, pr_i_0, pr_i_1, pr_i_m1]
                  refine pr_ifT rfl (fun h101 => ?_) (fun h101 => ?_)
                  · simp only [ab_cmp, pr_8_m2, pr_8_m4, pr_i_0, pr_i_1, pr_i_m1] at h101
                    first
                    | contradiction
                    | exact absurd trivial h101
                    | exact absurd h101 (by decide)
                    | exact absurd (Classical.not_not.mp h101) (by decide)
                    | skip
                      refine pr_seqT (pc' := 109) 1 rfl ⟨trivial, trivial⟩ ?_
                      try simp only [r9, r0, r1, r2, r3, s1, s2, q0, q1, rc, q3, q4, q5, q6, q7, q8, v2', pr_8_m2, pr_8_m4, pr_i_0, pr_i_1, pr_i_m1]
                      exact pr_irT rfl trivial (by first | rfl | (simp only [r9, r0, r1, r2, r3, s1, s2, q0, q1, rc, q3, q4, q5, q6, q7, q8, v2', pr_8_m2, pr_8_m4, pr_i_0, pr_i_1, pr_i_m1]; done) | (simp [pr_b, pr_8_m2, pr_8_m4, pr_i_0, pr_i_1, pr_i_m1, *]; done) | (simp_all [pr_b, pr_8_m2, pr_8_m4, pr_i_0, pr_i_1, pr_i_m1]; done))
                  · simp only [ab_cmp, pr_8_m2, pr_8_m4, pr_i_0, pr_i_1, pr_i_m1] at h101
                    first
                    | contradiction
                    | exact absurd trivial h101
                    | exact absurd h101 (by decide)
                    | exact absurd (Classical.not_not.mp h101) (by decide)
                    | skip
                      refine pr_seqT (pc' := 109) 2 rfl ⟨⟨trivial, trivial⟩, trivial⟩ ?_
                      try simp only [r9, r0, r1, r2, r3, s1, s2, q0, q1, rc, q3, q4, q5, q6, q7, q8, v2', pr_8_m2, pr_8_m4, pr_i_0, pr_i_1, pr_i_m1]
                      exact pr_irT rfl trivial (by first | rfl | (simp only [r9, r0, r1, r2, r3, s1, s2, q0, q1, rc, q3, q4, q5, q6, q7, q8, v2', pr_8_m2, pr_8_m4, pr_i_0, pr_i_1, pr_i_m1]; done) | (simp [pr_b, pr_8_m2, pr_8_m4, pr_i_0, pr_i_1, pr_i_m1, *]; done) | (simp_all [pr_b, pr_8_m2, pr_8_m4, pr_i_0, pr_i_1, pr_i_m1]; done))
              · simp only [ab_cmp, pr_8_m2, pr_8_m4, pr_i_0, pr_i_1, pr_i_m1] at h55
                first
                | contradiction
                | exact absurd trivial h55
                | exact absurd h55 (by decide)
                | exact absurd (Classical.not_not.mp h55) (by decide)
                | skip
                  refine pr_seqT (pc' := 68) 5 rfl ⟨⟨⟨⟨⟨trivial, (by first | assumption | (simp only [r9, r0, r1, r2, r3, s1, s2, q0, q1, rc, q3, q4, q5, q6, q7, q8, v2', pr_8_m2, pr_8_m4, pr_i_0, pr_i_1, pr_i_m1]; first | assumption | decide | exact ⟨by assumption, by assumption⟩ | exact ⟨Or.inl (by assumption), by assumption⟩ | omega) | decide | exact ⟨Or.inl (by assumption), by assumption⟩ | exact ⟨by assumption, by assumption⟩ | omega)⟩, (by first | assumption | (simp only [r9, r0, r1, r2, r3, s1, s2, q0, q1, rc, q3, q4, q5, q6, q7, q8, v2', pr_8_m2, pr_8_m4, pr_i_0, pr_i_1, pr_i_m1]; first | assumption | decide | exact ⟨by assumption, by assumption⟩ | exact ⟨Or.inl (by assumption), by assumption⟩ | omega) | decide | exact ⟨Or.inl (by assumption), by assumption⟩ | exact ⟨by assumption, by assumption⟩ | omega)⟩, (by first | assumption | (simp only [r9, r0, r1, r2, r3, s1, s2, q0, q1, rc, q3, q4, q5, q6, q7, q8, v2', pr_8_m2, pr_8_m4, pr_i_0, pr_i_1, pr_i_m1]; first | assumption | decide | exact ⟨by assumption, by assumption⟩ | exact ⟨Or.inl (by assumption), by assumption⟩ | omega) | decide | exact ⟨Or.inl (by assumption), by assumption⟩ | exact ⟨by assumption, by assumption⟩ | omega)⟩, (by first | assumption | (simp only [r9, r0, r1, r2, r3, s1, s2, q0, q1, rc, q3, q4, q5, q6, q7, q8, v2', pr_8_m2, pr_8_m4, pr_i_0, pr_i_1, pr_i_m1]; first | assumption | decide | exact ⟨by assumption, by assumption⟩ | exact ⟨Or.inl (by assumption), by assumption⟩ | omega) | decide | exact ⟨Or.inl (by assumption), by assumption⟩ | exact ⟨by assumption, by assumption⟩ | omega)⟩, trivial⟩ ?_
                  try simp only [r9, r0, r1, r2, r3, s1, s2, q0, q1, rc, q3, q4, q5, q6, q7, q8, v2', pr_8_m2, pr_8_m4, pr_i_0, pr_i_1, pr_i_m1]
                  refine pr_cvT [_] rfl rfl rfl rfl rfl (Nat.le_of_ble_eq_true rfl) (by first | assumption | (simp only [r9, r0, r1, r2, r3, s1, s2, q0, q1, rc, q3, q4, q5, q6, q7, q8, v2', pr_8_m2, pr_8_m4, pr_i_0, pr_i_1, pr_i_m1]; first | assumption | decide | exact ⟨by assumption, by assumption⟩ | exact ⟨Or.inl (by assumption), by assumption⟩ | omega) | decide | exact ⟨Or.inl (by assumption), by assumption⟩ | exact ⟨by assumption, by assumption⟩ | omega) (Nat.le_of_ble_eq_true rfl) (hls) ?_
                  refine pr_cvX [_] rfl rfl rfl rfl rfl (Nat.le_of_ble_eq_true rfl) (by first | assumption | (simp only [r9, r0, r1, r2, r3, s1, s2, q0, q1, rc, q3, q4, q5, q6, q7, q8, v2', pr_8_m2, pr_8_m4, pr_i_0, pr_i_1, pr_i_m1]; first | assumption | decide | exact ⟨by assumption, by assumption⟩ | exact ⟨Or.inl (by assumption), by assumption⟩ | omega) | decide | exact ⟨Or.inl (by assumption), by assumption⟩ | exact ⟨by assumption, by assumption⟩ | omega) (Nat.le_of_ble_eq_true rfl) (hwc) (fun v71 M71 q71 => ?_)
                  obtain ⟨rfl, e2, e3, e4⟩ := q71
                  obtain ⟨I1, Z1⟩ := M71
                  dsimp only at e2 e3 e4
                  subst e2
                  have hs1 : cl_same M.1 I1 := fun a ha => by rw [e4 a (by omega)]; exact hs a ha
                  refine pr_seqT (pc' := 79) 3 rfl ⟨⟨⟨trivial, trivial⟩, trivial⟩, trivial⟩ ?_
                  try simp only [r9, r0, r1, r2, r3, s1, s2, q0, q1, rc, q3, q4, q5, q6, q7, q8, v2', pr_8_m2, pr_8_m4, pr_i_0, pr_i_1, pr_i_m1]
                  refine pr_icT rfl (fun h79 => ?_) (fun h79 => ?_)
                  · simp only [ab_cmp, pr_8_m2, pr_8_m4, pr_i_0, pr_i_1, pr_i_m1] at h79
                    first
                    | contradiction
                    | exact absurd trivial h79
                    | exact absurd h79 (by decide)
                    | exact absurd (Classical.not_not.mp h79) (by decide)
                    | skip
                      refine pr_seqT (pc' := 46) 6 rfl ⟨⟨⟨⟨⟨⟨trivial, trivial⟩, trivial⟩, trivial⟩, trivial⟩, trivial⟩, trivial⟩ ?_
                      try simp only [r9, r0, r1, r2, r3, s1, s2, q0, q1, rc, q3, q4, q5, q6, q7, q8, v2', pr_8_m2, pr_8_m4, pr_i_0, pr_i_1, pr_i_m1]
                      exact hhS I1 hs1 e3
                  · simp only [ab_cmp, pr_8_m2, pr_8_m4, pr_i_0, pr_i_1, pr_i_m1] at h79
                    first
                    | contradiction
                    | exact absurd trivial h79
                    | exact absurd h79 (by decide)
                    | exact absurd (Classical.not_not.mp h79) (by decide)
                    | skip
                      refine pr_seqT (pc' := 85) 2 rfl ⟨⟨trivial, trivial⟩, trivial⟩ ?_
                      try simp only [r9, r0, r1, r2, r3, s1, s2, q0, q1, rc, q3, q4, q5, q6, q7, q8, v2', pr_8_m2, pr_8_m4, pr_i_0, pr_i_1, pr_i_m1]
                      refine pr_icT rfl (fun h85 => ?_) (fun h85 => ?_)
                      · simp only [ab_cmp, pr_8_m2, pr_8_m4, pr_i_0, pr_i_1, pr_i_m1] at h85
                        first
                        | contradiction
                        | exact absurd trivial h85
                        | exact absurd h85 (by decide)
                        | exact absurd (Classical.not_not.mp h85) (by decide)
                        | skip
                          refine pr_seqT (pc' := 46) 2 rfl ⟨⟨trivial, trivial⟩, trivial⟩ ?_
                          try simp only [r9, r0, r1, r2, r3, s1, s2, q0, q1, rc, q3, q4, q5, q6, q7, q8, v2', pr_8_m2, pr_8_m4, pr_i_0, pr_i_1, pr_i_m1]
                          exact hhS I1 hs1 e3
                      · simp only [ab_cmp, pr_8_m2, pr_8_m4, pr_i_0, pr_i_1, pr_i_m1] at h85
                        first
                        | contradiction
                        | exact absurd trivial h85
                        | exact absurd h85 (by decide)
                        | exact absurd (Classical.not_not.mp h85) (by decide)
                        | skip
                          refine pr_seqT (pc' := 46) 6 rfl ⟨⟨⟨⟨⟨⟨trivial, trivial⟩, trivial⟩, trivial⟩, trivial⟩, trivial⟩, trivial⟩ ?_
                          try simp only [r9, r0, r1, r2, r3, s1, s2, q0, q1, rc, q3, q4, q5, q6, q7, q8, v2', pr_8_m2, pr_8_m4, pr_i_0, pr_i_1, pr_i_m1]
                          exact hhS I1 hs1 e3
      refine pr_seqT (pc' := 3) 3 rfl ⟨⟨⟨trivial, trivial⟩, trivial⟩, trivial⟩ ?_
      try simp only [r9, r0, r1, r2, r3, s1, s2, q0, q1, rc, q3, q4, q5, q6, q7, q8, v2, pr_8_m2, pr_8_m4, pr_i_0, pr_i_1, pr_i_m1]
      refine pr_csT [_, _, _] rfl rfl rfl rfl rfl (Nat.le_of_ble_eq_true rfl) (Nat.le_of_ble_eq_true rfl) (hp) ?_
      refine pr_ifT rfl (fun h6 => ?_) (fun h6 => ?_)
      · simp only [ab_cmp, pr_8_m2, pr_8_m4, pr_i_0, pr_i_1, pr_i_m1] at h6
        first
        | contradiction
        | exact absurd trivial h6
        | exact absurd h6 (by decide)
        | exact absurd (Classical.not_not.mp h6) (by decide)
        | skip
          refine pr_seqT (pc' := 18) 3 rfl ⟨⟨⟨trivial, (by first | assumption | (simp only [r9, r0, r1, r2, r3, s1, s2, q0, q1, rc, q3, q4, q5, q6, q7, q8, v2, pr_8_m2, pr_8_m4, pr_i_0, pr_i_1, pr_i_m1]; first | assumption | decide | exact ⟨by assumption, by assumption⟩ | exact ⟨Or.inl (by assumption), by assumption⟩ | omega) | decide | exact ⟨Or.inl (by assumption), by assumption⟩ | exact ⟨by assumption, by assumption⟩ | omega)⟩, (by first | assumption | (simp only [r9, r0, r1, r2, r3, s1, s2, q0, q1, rc, q3, q4, q5, q6, q7, q8, v2, pr_8_m2, pr_8_m4, pr_i_0, pr_i_1, pr_i_m1]; first | assumption | decide | exact ⟨by assumption, by assumption⟩ | exact ⟨Or.inl (by assumption), by assumption⟩ | omega) | decide | exact ⟨Or.inl (by assumption), by assumption⟩ | exact ⟨by assumption, by assumption⟩ | omega)⟩, (by first | assumption | (simp only [r9, r0, r1, r2, r3, s1, s2, q0, q1, rc, q3, q4, q5, q6, q7, q8, v2, pr_8_m2, pr_8_m4, pr_i_0, pr_i_1, pr_i_m1]; first | assumption | decide | exact ⟨by assumption, by assumption⟩ | exact ⟨Or.inl (by assumption), by assumption⟩ | omega) | decide | exact ⟨Or.inl (by assumption), by assumption⟩ | exact ⟨by assumption, by assumption⟩ | omega)⟩ ?_
          try simp only [r9, r0, r1, r2, r3, s1, s2, q0, q1, rc, q3, q4, q5, q6, q7, q8, v2, pr_8_m2, pr_8_m4, pr_i_0, pr_i_1, pr_i_m1]
          refine pr_ifT rfl (fun h18 => ?_) (fun h18 => ?_)
          · simp only [ab_cmp, pr_8_m2, pr_8_m4, pr_i_0, pr_i_1, pr_i_m1] at h18
            first
            | contradiction
            | exact absurd trivial h18
            | exact absurd h18 (by decide)
            | exact absurd (Classical.not_not.mp h18) (by decide)
            | skip
              refine pr_seqT (pc' := 35) 5 rfl ⟨⟨⟨⟨⟨trivial, (by first | assumption | (simp only [r9, r0, r1, r2, r3, s1, s2, q0, q1, rc, q3, q4, q5, q6, q7, q8, v2, pr_8_m2, pr_8_m4, pr_i_0, pr_i_1, pr_i_m1]; first | assumption | decide | exact ⟨by assumption, by assumption⟩ | exact ⟨Or.inl (by assumption), by assumption⟩ | omega) | decide | exact ⟨Or.inl (by assumption), by assumption⟩ | exact ⟨by assumption, by assumption⟩ | omega)⟩, (by first | assumption | (simp only [r9, r0, r1, r2, r3, s1, s2, q0, q1, rc, q3, q4, q5, q6, q7, q8, v2, pr_8_m2, pr_8_m4, pr_i_0, pr_i_1, pr_i_m1]; first | assumption | decide | exact ⟨by assumption, by assumption⟩ | exact ⟨Or.inl (by assumption), by assumption⟩ | omega) | decide | exact ⟨Or.inl (by assumption), by assumption⟩ | exact ⟨by assumption, by assumption⟩ | omega)⟩, (by first | assumption | (simp only [r9, r0, r1, r2, r3, s1, s2, q0, q1, rc, q3, q4, q5, q6, q7, q8, v2, pr_8_m2, pr_8_m4, pr_i_0, pr_i_1, pr_i_m1]; first | assumption | decide | exact ⟨by assumption, by assumption⟩ | exact ⟨Or.inl (by assumption), by assumption⟩ | omega) | decide | exact ⟨Or.inl (by assumption), by assumption⟩ | exact ⟨by assumption, by assumption⟩ | omega)⟩, (by first | assumption | (simp only [r9, r0, r1, r2, r3, s1, s2, q0, q1, rc, q3, q4, q5, q6, q7, q8, v2, pr_8_m2, pr_8_m4, pr_i_0, pr_i_1, pr_i_m1]; first | assumption | decide | exact ⟨by assumption, by assumption⟩ | exact ⟨Or.inl (by assumption), by assumption⟩ | omega) | decide | exact ⟨Or.inl (by assumption), by assumption⟩ | exact ⟨by assumption, by assumption⟩ | omega)⟩, (by first | assumption | (simp only [r9, r0, r1, r2, r3, s1, s2, q0, q1, rc, q3, q4, q5, q6, q7, q8, v2, pr_8_m2, pr_8_m4, pr_i_0, pr_i_1, pr_i_m1]; first | assumption | decide | exact ⟨by assumption, by assumption⟩ | exact ⟨Or.inl (by assumption), by assumption⟩ | omega) | decide | exact ⟨Or.inl (by assumption), by assumption⟩ | exact ⟨by assumption, by assumption⟩ | omega)⟩ ?_
              try simp only [r9, r0, r1, r2, r3, s1, s2, q0, q1, rc, q3, q4, q5, q6, q7, q8, v2, pr_8_m2, pr_8_m4, pr_i_0, pr_i_1, pr_i_m1]
              refine pr_cvX [_] rfl rfl rfl rfl rfl (Nat.le_of_ble_eq_true rfl) (by first | assumption | (simp only [r9, r0, r1, r2, r3, s1, s2, q0, q1, rc, q3, q4, q5, q6, q7, q8, v2, pr_8_m2, pr_8_m4, pr_i_0, pr_i_1, pr_i_m1]; first | assumption | decide | exact ⟨by assumption, by assumption⟩ | exact ⟨Or.inl (by assumption), by assumption⟩ | omega) | decide | exact ⟨Or.inl (by assumption), by assumption⟩ | exact ⟨by assumption, by assumption⟩ | omega) (Nat.le_of_ble_eq_true rfl) (c_take h M hc hg hb hd) (fun v35 M35 q35 => ?_)
              obtain ⟨rfl, e2, e3, e4⟩ := q35
              obtain ⟨I1, Z1⟩ := M35
              dsimp only at e2 e3 e4
              subst e2
              refine pr_seqT (pc' := 46) 6 rfl ⟨⟨⟨⟨⟨⟨trivial, trivial⟩, trivial⟩, trivial⟩, trivial⟩, trivial⟩, trivial⟩ ?_
              try simp only [r9, r0, r1, r2, r3, s1, s2, q0, q1, rc, q3, q4, q5, q6, q7, q8, v2, pr_8_m2, pr_8_m4, pr_i_0, pr_i_1, pr_i_m1]
              exact loop X.1.2.1.length 0 (by omega) I1 none (cs_same e4) e3
          · simp only [ab_cmp, pr_8_m2, pr_8_m4, pr_i_0, pr_i_1, pr_i_m1] at h18
            first
            | contradiction
            | exact absurd trivial h18
            | exact absurd h18 (by decide)
            | exact absurd (Classical.not_not.mp h18) (by decide)
            | skip
              refine pr_seqT (pc' := 23) 1 rfl ⟨trivial, trivial⟩ ?_
              try simp only [r9, r0, r1, r2, r3, s1, s2, q0, q1, rc, q3, q4, q5, q6, q7, q8, v2, pr_8_m2, pr_8_m4, pr_i_0, pr_i_1, pr_i_m1]
              exact pr_irT rfl trivial (by first | rfl | (simp only [r9, r0, r1, r2, r3, s1, s2, q0, q1, rc, q3, q4, q5, q6, q7, q8, v2, pr_8_m2, pr_8_m4, pr_i_0, pr_i_1, pr_i_m1]; done) | (simp [pr_b, pr_8_m2, pr_8_m4, pr_i_0, pr_i_1, pr_i_m1, *]; done) | (simp_all [pr_b, pr_8_m2, pr_8_m4, pr_i_0, pr_i_1, pr_i_m1]; done))
      · simp only [ab_cmp, pr_8_m2, pr_8_m4, pr_i_0, pr_i_1, pr_i_m1] at h6
        first
        | contradiction
        | exact absurd trivial h6
        | exact absurd h6 (by decide)
        | exact absurd (Classical.not_not.mp h6) (by decide)
        | skip
          refine pr_seqT (pc' := 10) 1 rfl ⟨trivial, trivial⟩ ?_
          try simp only [r9, r0, r1, r2, r3, s1, s2, q0, q1, rc, q3, q4, q5, q6, q7, q8, v2, pr_8_m2, pr_8_m4, pr_i_0, pr_i_1, pr_i_m1]
          exact pr_irT rfl trivial (by first | rfl | (simp only [r9, r0, r1, r2, r3, s1, s2, q0, q1, rc, q3, q4, q5, q6, q7, q8, v2, pr_8_m2, pr_8_m4, pr_i_0, pr_i_1, pr_i_m1]; done) | (simp [pr_b, pr_8_m2, pr_8_m4, pr_i_0, pr_i_1, pr_i_m1, *]; done) | (simp_all [pr_b, pr_8_m2, pr_8_m4, pr_i_0, pr_i_1, pr_i_m1]; done))
