
/-! ===== the reference: counts, what to call a child, crowds ===== -/
theorem r_count {X : St} (w : Int32) (h : ab_H) (M : ab_M) (hl : rL h M.2.2) (hv : rv M.1 X) : pr_X pX11_count [.ref 172, .int w] h M (rp M (f_count X w, X)) := by
  obtain ⟨k172, rS, rLs, rKn, rPg, rRl, rRk, rTp, rCu, rLe, rLt, rSm, rIk, rLn, rLg, rCe, ⟨kS, nS⟩, ⟨kLs, nLs⟩, ⟨kKn, nKn⟩, ⟨kPg, nPg⟩, ⟨kRl, nRl⟩, ⟨kRk, nRk⟩, ⟨kTp, nTp⟩, ⟨kCu, nCu⟩, ⟨kLe, nLe⟩, ⟨kLt, nLt⟩, ⟨kSm, nSm⟩, ⟨kIk, nIk⟩, ⟨kLn, nLn⟩, ⟨kLg, nLg⟩, kCe, nCe⟩ := id hl
  have h8 : X.1.1.2.1.length ≤ 8 := hv.1.2.1
  have hpe := q_people h M hl hv.1
  have b0 := imr_b (hv.2.2.2.1 0 (by decide))
  have b1 := imr_b (hv.2.2.2.1 1 (by decide))
  have m1 := hv.2.2.1.1
  have t1 := hv.2.2.2.2.2.1.1
  have s0 := hv.2.2.2.2.1 0 (by decide)
  have n0 : (0 : Int32).toNatClampNeg = 0 := rfl
  have n1 : (1 : Int32).toNatClampNeg = 1 := rfl
  refine pr_ofC ?_ (rp_s hv)
  have fin : ∀ z, pr_E pX11_count 56 [some (.ref 172), some (.int w), some (.int (nI (a_to (fun p => (d_pn X.1.1 p).2.2.2.length) (x_n X)))), some (.int (nI (a_to X.1.1.1 26))), z] [] h M (some (.int (f_count X w))) h M := by
    intro z
    unfold f_count
    by_cases w0 : w = 0
    · subst w0
      refine pr_seq (pc' := 57) 1 rfl ⟨trivial, trivial⟩ ?_
      try simp (disch := omega) only [m1, rIk, rLn, rLg, rI_mul, nI_add, nI_1, nI_clamp, pr_8_26, pr_8_m4, pr_i_0, pr_i_1, pr_i_m1]
      refine pr_tsI (g := 96) rfl (by decide) rfl rfl ?_
      refine pr_seq (pc' := 100) 2 rfl ⟨⟨trivial, (by first | decide | assumption)⟩, (by assumption)⟩ ?_
      try simp (disch := omega) only [m1, rIk, rLn, rLg, rI_mul, nI_add, nI_1, nI_clamp, pr_8_26, pr_8_m4, pr_i_0, pr_i_1, pr_i_m1]
      exact pr_irM rfl (by rfl) trivial (by rfl)
    · by_cases w1 : w = 1
      · subst w1
        rw [if_neg w0, if_pos rfl]
        cases c0 : (X.2.1 0).isSome with
        | true =>
          rw [c0] at b0
          cases c1 : (X.2.1 1).isSome with
          | true =>
            rw [c1] at b1
            refine pr_seq (pc' := 57) 1 rfl ⟨trivial, trivial⟩ ?_
            try simp (disch := omega) only [b0, b1, n0, n1, rIk, rLn, rLg, rI_mul, nI_add, nI_1, nI_clamp, pr_8_26, pr_8_m4, pr_i_0, pr_i_1, pr_i_m1]
            refine pr_tsI (g := 101) rfl (by decide) rfl rfl ?_
            refine pr_seq (pc' := 107) 4 rfl ⟨⟨⟨⟨trivial, (by first | decide | assumption)⟩, (by assumption)⟩, trivial⟩, (by exact ⟨Or.inr (by simp only [rIk]; exact kIk), (by simp only [rIk, pr_i_0]; exact rvin (k := 0) nIk (by decide) (by decide))⟩)⟩ ?_
            try simp (disch := omega) only [b0, b1, n0, n1, rIk, rLn, rLg, rI_mul, nI_add, nI_1, nI_clamp, pr_8_26, pr_8_m4, pr_i_0, pr_i_1, pr_i_m1]
            refine pr_if rfl (fun h107 => ?_) (fun h107 => ?_)
            · simp only [ab_cmp, pr_8_26, pr_8_m4, pr_i_0, pr_i_1, pr_i_m1] at h107
              exact absurd h107 (by decide)
            · simp only [ab_cmp, pr_8_26, pr_8_m4, pr_i_0, pr_i_1, pr_i_m1] at h107
              first
              | contradiction
              | exact absurd trivial h107
              | exact absurd h107 (by decide)
              | exact absurd (Classical.not_not.mp h107) (by decide)
              | skip
                refine pr_seq (pc' := 121) 6 rfl ⟨⟨⟨⟨⟨⟨trivial, trivial⟩, trivial⟩, (by first | decide | assumption)⟩, (by assumption)⟩, trivial⟩, (by exact ⟨Or.inr (by simp only [rIk]; exact kIk), (by simp only [rIk, pr_i_1]; exact rvin (k := 1) nIk (by decide) (by decide))⟩)⟩ ?_
                try simp (disch := omega) only [b0, b1, n0, n1, rIk, rLn, rLg, rI_mul, nI_add, nI_1, nI_clamp, pr_8_26, pr_8_m4, pr_i_0, pr_i_1, pr_i_m1]
                refine pr_if rfl (fun h121 => ?_) (fun h121 => ?_)
                · simp only [ab_cmp, pr_8_26, pr_8_m4, pr_i_0, pr_i_1, pr_i_m1] at h121
                  exact absurd h121 (by decide)
                · simp only [ab_cmp, pr_8_26, pr_8_m4, pr_i_0, pr_i_1, pr_i_m1] at h121
                  first
                  | contradiction
                  | exact absurd trivial h121
                  | exact absurd h121 (by decide)
                  | exact absurd (Classical.not_not.mp h121) (by decide)
                  | skip
                    refine pr_seq (pc' := 130) 3 rfl ⟨⟨⟨trivial, trivial⟩, trivial⟩, trivial⟩ ?_
                    try simp (disch := omega) only [b0, b1, n0, n1, rIk, rLn, rLg, rI_mul, nI_add, nI_1, nI_clamp, pr_8_26, pr_8_m4, pr_i_0, pr_i_1, pr_i_m1]
                    exact pr_irM rfl (by rfl) trivial (by rfl)
          | false =>
            rw [c1] at b1
            refine pr_seq (pc' := 57) 1 rfl ⟨trivial, trivial⟩ ?_
            try simp (disch := omega) only [b0, b1, n0, n1, rIk, rLn, rLg, rI_mul, nI_add, nI_1, nI_clamp, pr_8_26, pr_8_m4, pr_i_0, pr_i_1, pr_i_m1]
            refine pr_tsI (g := 101) rfl (by decide) rfl rfl ?_
            refine pr_seq (pc' := 107) 4 rfl ⟨⟨⟨⟨trivial, (by first | decide | assumption)⟩, (by assumption)⟩, trivial⟩, (by exact ⟨Or.inr (by simp only [rIk]; exact kIk), (by simp only [rIk, pr_i_0]; exact rvin (k := 0) nIk (by decide) (by decide))⟩)⟩ ?_
            try simp (disch := omega) only [b0, b1, n0, n1, rIk, rLn, rLg, rI_mul, nI_add, nI_1, nI_clamp, pr_8_26, pr_8_m4, pr_i_0, pr_i_1, pr_i_m1]
            refine pr_if rfl (fun h107 => ?_) (fun h107 => ?_)
            · simp only [ab_cmp, pr_8_26, pr_8_m4, pr_i_0, pr_i_1, pr_i_m1] at h107
              exact absurd h107 (by decide)
            · simp only [ab_cmp, pr_8_26, pr_8_m4, pr_i_0, pr_i_1, pr_i_m1] at h107
              first
              | contradiction
              | exact absurd trivial h107
              | exact absurd h107 (by decide)
              | exact absurd (Classical.not_not.mp h107) (by decide)
              | skip
                refine pr_seq (pc' := 121) 6 rfl ⟨⟨⟨⟨⟨⟨trivial, trivial⟩, trivial⟩, (by first | decide | assumption)⟩, (by assumption)⟩, trivial⟩, (by exact ⟨Or.inr (by simp only [rIk]; exact kIk), (by simp only [rIk, pr_i_1]; exact rvin (k := 1) nIk (by decide) (by decide))⟩)⟩ ?_
                try simp (disch := omega) only [b0, b1, n0, n1, rIk, rLn, rLg, rI_mul, nI_add, nI_1, nI_clamp, pr_8_26, pr_8_m4, pr_i_0, pr_i_1, pr_i_m1]
                refine pr_if rfl (fun h121 => ?_) (fun h121 => ?_)
                · simp only [ab_cmp, pr_8_26, pr_8_m4, pr_i_0, pr_i_1, pr_i_m1] at h121
                  first
                  | contradiction
                  | exact absurd trivial h121
                  | exact absurd h121 (by decide)
                  | exact absurd (Classical.not_not.mp h121) (by decide)
                  | skip
                    refine pr_seq (pc' := 130) 2 rfl ⟨⟨trivial, trivial⟩, trivial⟩ ?_
                    try simp (disch := omega) only [b0, b1, n0, n1, rIk, rLn, rLg, rI_mul, nI_add, nI_1, nI_clamp, pr_8_26, pr_8_m4, pr_i_0, pr_i_1, pr_i_m1]
                    exact pr_irM rfl (by rfl) trivial (by rfl)
                · simp only [ab_cmp, pr_8_26, pr_8_m4, pr_i_0, pr_i_1, pr_i_m1] at h121
                  exact absurd rfl h121
        | false =>
          rw [c0] at b0
          cases c1 : (X.2.1 1).isSome with
          | true =>
            rw [c1] at b1
            refine pr_seq (pc' := 57) 1 rfl ⟨trivial, trivial⟩ ?_
            try simp (disch := omega) only [b0, b1, n0, n1, rIk, rLn, rLg, rI_mul, nI_add, nI_1, nI_clamp, pr_8_26, pr_8_m4, pr_i_0, pr_i_1, pr_i_m1]
            refine pr_tsI (g := 101) rfl (by decide) rfl rfl ?_
            refine pr_seq (pc' := 107) 4 rfl ⟨⟨⟨⟨trivial, (by first | decide | assumption)⟩, (by assumption)⟩, trivial⟩, (by exact ⟨Or.inr (by simp only [rIk]; exact kIk), (by simp only [rIk, pr_i_0]; exact rvin (k := 0) nIk (by decide) (by decide))⟩)⟩ ?_
            try simp (disch := omega) only [b0, b1, n0, n1, rIk, rLn, rLg, rI_mul, nI_add, nI_1, nI_clamp, pr_8_26, pr_8_m4, pr_i_0, pr_i_1, pr_i_m1]
            refine pr_if rfl (fun h107 => ?_) (fun h107 => ?_)
            · simp only [ab_cmp, pr_8_26, pr_8_m4, pr_i_0, pr_i_1, pr_i_m1] at h107
              first
              | contradiction
              | exact absurd trivial h107
              | exact absurd h107 (by decide)
              | exact absurd (Classical.not_not.mp h107) (by decide)
              | skip
                refine pr_seq (pc' := 121) 5 rfl ⟨⟨⟨⟨⟨trivial, trivial⟩, (by first | decide | assumption)⟩, (by assumption)⟩, trivial⟩, (by exact ⟨Or.inr (by simp only [rIk]; exact kIk), (by simp only [rIk, pr_i_1]; exact rvin (k := 1) nIk (by decide) (by decide))⟩)⟩ ?_
                try simp (disch := omega) only [b0, b1, n0, n1, rIk, rLn, rLg, rI_mul, nI_add, nI_1, nI_clamp, pr_8_26, pr_8_m4, pr_i_0, pr_i_1, pr_i_m1]
                refine pr_if rfl (fun h121 => ?_) (fun h121 => ?_)
                · simp only [ab_cmp, pr_8_26, pr_8_m4, pr_i_0, pr_i_1, pr_i_m1] at h121
                  exact absurd h121 (by decide)
                · simp only [ab_cmp, pr_8_26, pr_8_m4, pr_i_0, pr_i_1, pr_i_m1] at h121
                  first
                  | contradiction
                  | exact absurd trivial h121
                  | exact absurd h121 (by decide)
                  | exact absurd (Classical.not_not.mp h121) (by decide)
                  | skip
                    refine pr_seq (pc' := 130) 3 rfl ⟨⟨⟨trivial, trivial⟩, trivial⟩, trivial⟩ ?_
                    try simp (disch := omega) only [b0, b1, n0, n1, rIk, rLn, rLg, rI_mul, nI_add, nI_1, nI_clamp, pr_8_26, pr_8_m4, pr_i_0, pr_i_1, pr_i_m1]
                    exact pr_irM rfl (by rfl) trivial (by rfl)
            · simp only [ab_cmp, pr_8_26, pr_8_m4, pr_i_0, pr_i_1, pr_i_m1] at h107
              exact absurd rfl h107
          | false =>
            rw [c1] at b1
            refine pr_seq (pc' := 57) 1 rfl ⟨trivial, trivial⟩ ?_
            try simp (disch := omega) only [b0, b1, n0, n1, rIk, rLn, rLg, rI_mul, nI_add, nI_1, nI_clamp, pr_8_26, pr_8_m4, pr_i_0, pr_i_1, pr_i_m1]
            refine pr_tsI (g := 101) rfl (by decide) rfl rfl ?_
            refine pr_seq (pc' := 107) 4 rfl ⟨⟨⟨⟨trivial, (by first | decide | assumption)⟩, (by assumption)⟩, trivial⟩, (by exact ⟨Or.inr (by simp only [rIk]; exact kIk), (by simp only [rIk, pr_i_0]; exact rvin (k := 0) nIk (by decide) (by decide))⟩)⟩ ?_
            try simp (disch := omega) only [b0, b1, n0, n1, rIk, rLn, rLg, rI_mul, nI_add, nI_1, nI_clamp, pr_8_26, pr_8_m4, pr_i_0, pr_i_1, pr_i_m1]
            refine pr_if rfl (fun h107 => ?_) (fun h107 => ?_)
            · simp only [ab_cmp, pr_8_26, pr_8_m4, pr_i_0, pr_i_1, pr_i_m1] at h107
              first
              | contradiction
              | exact absurd trivial h107
              | exact absurd h107 (by decide)
              | exact absurd (Classical.not_not.mp h107) (by decide)
              | skip
                refine pr_seq (pc' := 121) 5 rfl ⟨⟨⟨⟨⟨trivial, trivial⟩, (by first | decide | assumption)⟩, (by assumption)⟩, trivial⟩, (by exact ⟨Or.inr (by simp only [rIk]; exact kIk), (by simp only [rIk, pr_i_1]; exact rvin (k := 1) nIk (by decide) (by decide))⟩)⟩ ?_
                try simp (disch := omega) only [b0, b1, n0, n1, rIk, rLn, rLg, rI_mul, nI_add, nI_1, nI_clamp, pr_8_26, pr_8_m4, pr_i_0, pr_i_1, pr_i_m1]
                refine pr_if rfl (fun h121 => ?_) (fun h121 => ?_)
                · simp only [ab_cmp, pr_8_26, pr_8_m4, pr_i_0, pr_i_1, pr_i_m1] at h121
                  first
                  | contradiction
                  | exact absurd trivial h121
                  | exact absurd h121 (by decide)
                  | exact absurd (Classical.not_not.mp h121) (by decide)
                  | skip
                    refine pr_seq (pc' := 130) 2 rfl ⟨⟨trivial, trivial⟩, trivial⟩ ?_
                    try simp (disch := omega) only [b0, b1, n0, n1, rIk, rLn, rLg, rI_mul, nI_add, nI_1, nI_clamp, pr_8_26, pr_8_m4, pr_i_0, pr_i_1, pr_i_m1]
                    exact pr_irM rfl (by rfl) trivial (by rfl)
                · simp only [ab_cmp, pr_8_26, pr_8_m4, pr_i_0, pr_i_1, pr_i_m1] at h121
                  exact absurd rfl h121
            · simp only [ab_cmp, pr_8_26, pr_8_m4, pr_i_0, pr_i_1, pr_i_m1] at h107
              exact absurd rfl h107
      · by_cases w2 : w = 2
        · subst w2
          refine pr_seq (pc' := 57) 1 rfl ⟨trivial, trivial⟩ ?_
          try simp (disch := omega) only [t1, rIk, rLn, rLg, rI_mul, nI_add, nI_1, nI_clamp, pr_8_26, pr_8_m4, pr_i_0, pr_i_1, pr_i_m1]
          refine pr_tsI (g := 131) rfl (by decide) rfl rfl ?_
          refine pr_seq (pc' := 135) 2 rfl ⟨⟨trivial, (by first | decide | assumption)⟩, (by assumption)⟩ ?_
          try simp (disch := omega) only [t1, rIk, rLn, rLg, rI_mul, nI_add, nI_1, nI_clamp, pr_8_26, pr_8_m4, pr_i_0, pr_i_1, pr_i_m1]
          exact pr_irM rfl (by rfl) trivial (by rfl)
        · by_cases w3 : w = 3
          · subst w3
            rw [if_neg w0, if_neg w1, if_neg w2, if_pos rfl]
            cases c : X.2.2.1 0 with
            | none =>
              rw [c] at s0
              have s0 : M.1 185 0 = -4 := s0
              refine pr_seq (pc' := 57) 1 rfl ⟨trivial, trivial⟩ ?_
              try simp (disch := omega) only [s0, n0, rIk, rLn, rLg, rI_mul, nI_add, nI_1, nI_clamp, pr_8_26, pr_8_m4, pr_i_0, pr_i_1, pr_i_m1]
              refine pr_tsI (g := 136) rfl (by decide) rfl rfl ?_
              refine pr_seq (pc' := 144) 5 rfl ⟨⟨⟨⟨⟨trivial, (by first | decide | assumption)⟩, (by assumption)⟩, trivial⟩, (by exact ⟨Or.inl (by simp only [rLn]; exact kLn), (by simp only [rLn, pr_i_0]; exact rvin (k := 0) nLn (by decide) (by decide))⟩)⟩, trivial⟩ ?_
              try simp (disch := omega) only [s0, n0, rIk, rLn, rLg, rI_mul, nI_add, nI_1, nI_clamp, pr_8_26, pr_8_m4, pr_i_0, pr_i_1, pr_i_m1]
              refine pr_ic rfl (fun h144 => ?_) (fun h144 => ?_)
              · simp only [ab_cmp, pr_8_26, pr_8_m4, pr_i_0, pr_i_1, pr_i_m1] at h144
                exact absurd trivial h144
              · simp only [ab_cmp, pr_8_26, pr_8_m4, pr_i_0, pr_i_1, pr_i_m1] at h144
                first
                | contradiction
                | exact absurd trivial h144
                | exact absurd h144 (by decide)
                | exact absurd (Classical.not_not.mp h144) (by decide)
                | skip
                  refine pr_seq (pc' := 158) 2 rfl ⟨⟨trivial, trivial⟩, trivial⟩ ?_
                  try simp (disch := omega) only [s0, n0, rIk, rLn, rLg, rI_mul, nI_add, nI_1, nI_clamp, pr_8_26, pr_8_m4, pr_i_0, pr_i_1, pr_i_m1]
                  exact pr_irM rfl (by rfl) trivial (by rfl)
            | some o =>
              obtain ⟨ln, n, f⟩ := o
              rw [c] at s0
              obtain ⟨z1, z2, z3, z4, z5⟩ := s0
              have e4 : ¬ nI ln = -4 := by
                have : ∀ m : Fin 3, ¬ nI m.val = -4 := by decide
                exact this ⟨ln, by omega⟩
              refine pr_seq (pc' := 57) 1 rfl ⟨trivial, trivial⟩ ?_
              try simp (disch := omega) only [z1, z3, n0, rIk, rLn, rLg, rI_mul, nI_add, nI_1, nI_clamp, pr_8_26, pr_8_m4, pr_i_0, pr_i_1, pr_i_m1]
              refine pr_tsI (g := 136) rfl (by decide) rfl rfl ?_
              refine pr_seq (pc' := 144) 5 rfl ⟨⟨⟨⟨⟨trivial, (by first | decide | assumption)⟩, (by assumption)⟩, trivial⟩, (by exact ⟨Or.inl (by simp only [rLn]; exact kLn), (by simp only [rLn, pr_i_0]; exact rvin (k := 0) nLn (by decide) (by decide))⟩)⟩, trivial⟩ ?_
              try simp (disch := omega) only [z1, z3, n0, rIk, rLn, rLg, rI_mul, nI_add, nI_1, nI_clamp, pr_8_26, pr_8_m4, pr_i_0, pr_i_1, pr_i_m1]
              refine pr_ic rfl (fun h144 => ?_) (fun h144 => ?_)
              · simp only [ab_cmp, pr_8_26, pr_8_m4, pr_i_0, pr_i_1, pr_i_m1] at h144
                first
                | contradiction
                | exact absurd trivial h144
                | exact absurd h144 (by decide)
                | exact absurd (Classical.not_not.mp h144) (by decide)
                | skip
                  refine pr_seq (pc' := 158) 4 rfl ⟨⟨⟨⟨trivial, (by first | decide | assumption)⟩, (by assumption)⟩, trivial⟩, (by exact ⟨Or.inl (by simp only [rLg]; exact kLg), (by simp only [rLg, pr_i_0]; exact rvin (k := 0) nLg (by decide) (by decide))⟩)⟩ ?_
                  try simp (disch := omega) only [z1, z3, n0, rIk, rLn, rLg, rI_mul, nI_add, nI_1, nI_clamp, pr_8_26, pr_8_m4, pr_i_0, pr_i_1, pr_i_m1]
                  exact pr_irM rfl (by rfl) trivial (by rfl)
              · simp only [ab_cmp, pr_8_26, pr_8_m4, pr_i_0, pr_i_1, pr_i_m1] at h144
                exact absurd (Classical.not_not.mp h144) e4
          · by_cases w4 : w = 4
            · subst w4
              refine pr_seq (pc' := 57) 1 rfl ⟨trivial, trivial⟩ ?_
              try simp (disch := omega) only [rIk, rLn, rLg, rI_mul, nI_add, nI_1, nI_clamp, pr_8_26, pr_8_m4, pr_i_0, pr_i_1, pr_i_m1]
              refine pr_tsI (g := 159) rfl (by decide) rfl rfl ?_
              refine pr_seq (pc' := 160) 1 rfl ⟨trivial, trivial⟩ ?_
              try simp (disch := omega) only [rIk, rLn, rLg, rI_mul, nI_add, nI_1, nI_clamp, pr_8_26, pr_8_m4, pr_i_0, pr_i_1, pr_i_m1]
              exact pr_irM rfl (by rfl) trivial (by rfl)
            · by_cases w5 : w = 5
              · subst w5
                refine pr_seq (pc' := 57) 1 rfl ⟨trivial, trivial⟩ ?_
                try simp (disch := omega) only [rIk, rLn, rLg, rI_mul, nI_add, nI_1, nI_clamp, pr_8_26, pr_8_m4, pr_i_0, pr_i_1, pr_i_m1]
                refine pr_tsI (g := 161) rfl (by decide) rfl rfl ?_
                refine pr_seq (pc' := 162) 1 rfl ⟨trivial, trivial⟩ ?_
                try simp (disch := omega) only [rIk, rLn, rLg, rI_mul, nI_add, nI_1, nI_clamp, pr_8_26, pr_8_m4, pr_i_0, pr_i_1, pr_i_m1]
                exact pr_irM rfl (by rfl) trivial (by rfl)
              · rw [if_neg w0, if_neg w1, if_neg w2, if_neg w3, if_neg w4, if_neg w5]
                have ho : w.toInt < (0 : Int) ∨ (5 : Int) < w.toInt := ts_out w 5 (by decide) (fun j hj e => by
                  rcases (show j = 0 ∨ j = 1 ∨ j = 2 ∨ j = 3 ∨ j = 4 ∨ j = 5 by omega) with rfl | rfl | rfl | rfl | rfl | rfl
                  · exact w0 e
                  · exact w1 e
                  · exact w2 e
                  · exact w3 e
                  · exact w4 e
                  · exact w5 e)
                refine pr_seq (pc' := 57) 1 rfl ⟨trivial, trivial⟩ ?_
                try simp (disch := omega) only [rIk, rLn, rLg, rI_mul, nI_add, nI_1, nI_clamp, pr_8_26, pr_8_m4, pr_i_0, pr_i_1, pr_i_m1]
                refine pr_tsO (g := 163) rfl (ho) rfl ?_
                refine pr_seq (pc' := 164) 1 rfl ⟨trivial, trivial⟩ ?_
                try simp (disch := omega) only [rIk, rLn, rLg, rI_mul, nI_add, nI_1, nI_clamp, pr_8_26, pr_8_m4, pr_i_0, pr_i_1, pr_i_m1]
                exact pr_irM rfl (by rfl) trivial (by rfl)
  have loop2 : ∀ dd k, k + dd = 26 → pr_E pX11_count 34 [some (.ref 172), some (.int w), some (.int (nI (a_to (fun p => (d_pn X.1.1 p).2.2.2.length) (x_n X)))), some (.int (nI (a_to X.1.1.1 k))), some (.int (nI k))] [] h M (some (.int (f_count X w))) h M := by
    intro dd
    induction dd with
    | zero =>
      intro k hk
      obtain rfl : k = 26 := by omega
      have e1 : nI 26 ≤ nI 26 := nI_le (Nat.le_refl _) (by decide)
      refine pr_seq (pc' := 38) 2 rfl ⟨⟨trivial, trivial⟩, trivial⟩ ?_
      try simp (disch := omega) only [c26, rIk, rLn, rLg, rI_mul, nI_add, nI_1, nI_clamp, pr_8_26, pr_8_m4, pr_i_0, pr_i_1, pr_i_m1]
      refine pr_ic rfl (fun h38 => ?_) (fun h38 => ?_)
      · simp only [ab_cmp, pr_8_26, pr_8_m4, pr_i_0, pr_i_1, pr_i_m1] at h38
        first
        | contradiction
        | exact absurd trivial h38
        | exact absurd h38 (by decide)
        | exact absurd (Classical.not_not.mp h38) (by decide)
        | skip
          exact fin _
      · simp only [ab_cmp, pr_8_26, pr_8_m4, pr_i_0, pr_i_1, pr_i_m1] at h38
        exact absurd e1 h38
    | succ dd ih =>
      intro k hk
      have e1 : ¬ nI 26 ≤ nI k := nI_ge (by omega) (by decide)
      have hh := ih (k + 1) (by omega)
      rw [show a_to X.1.1.1 (k + 1) = a_to X.1.1.1 k + X.1.1.1 k from rfl] at hh
      refine pr_seq (pc' := 38) 2 rfl ⟨⟨trivial, trivial⟩, trivial⟩ ?_
      try simp (disch := omega) only [c26, rIk, rLn, rLg, rI_mul, nI_add, nI_1, nI_clamp, pr_8_26, pr_8_m4, pr_i_0, pr_i_1, pr_i_m1]
      refine pr_ic rfl (fun h38 => ?_) (fun h38 => ?_)
      · simp only [ab_cmp, pr_8_26, pr_8_m4, pr_i_0, pr_i_1, pr_i_m1] at h38
        exact absurd h38 e1
      · simp only [ab_cmp, pr_8_26, pr_8_m4, pr_i_0, pr_i_1, pr_i_m1] at h38
        first
        | contradiction
        | exact absurd trivial h38
        | exact absurd h38 (by decide)
        | exact absurd (Classical.not_not.mp h38) (by decide)
        | skip
          refine pr_seq (pc' := 45) 3 rfl ⟨⟨⟨trivial, trivial⟩, (by first | decide | assumption)⟩, trivial⟩ ?_
          try simp (disch := omega) only [c26, rIk, rLn, rLg, rI_mul, nI_add, nI_1, nI_clamp, pr_8_26, pr_8_m4, pr_i_0, pr_i_1, pr_i_m1]
          refine pr_cv [_] rfl rfl rfl rfl rfl (Nat.le_of_ble_eq_true rfl) (by first | assumption | decide | (simp (disch := omega) only [c26, rIk, rLn, rLg, rI_mul, nI_add, nI_1, nI_clamp, pr_8_26, pr_8_m4, pr_i_0, pr_i_1, pr_i_m1]; first | assumption | exact ⟨Or.inl (by assumption), rvin (by assumption) (by omega) (by decide)⟩ | exact ⟨by assumption, rvin (by assumption) (by omega) (by decide)⟩ | exact ⟨⟨by omega, by omega⟩, rvin (by assumption) (by omega) (by decide)⟩ | exact ⟨Or.inr (by assumption), rvin (by assumption) (by omega) (by decide)⟩ | exact ⟨Or.inr ⟨by assumption, (by first | exact Or.inl rfl | exact Or.inr rfl | exact pr_b01 _)⟩, rvin (by assumption) (by omega) (by decide)⟩ | exact ⟨by assumption, by assumption⟩ | decide | omega)) (Nat.le_of_ble_eq_true rfl) (q_worthOf h M hl hv.1 (by omega)) ?_
          refine pr_seq (pc' := 34) 4 rfl ⟨⟨⟨⟨trivial, trivial⟩, trivial⟩, trivial⟩, trivial⟩ ?_
          try simp (disch := omega) only [c26, rIk, rLn, rLg, rI_mul, nI_add, nI_1, nI_clamp, pr_8_26, pr_8_m4, pr_i_0, pr_i_1, pr_i_m1]
          exact hh
  have loop1 : ∀ dd k, k + dd = x_n X → pr_E pX11_count 7 [some (.ref 172), some (.int w), some (.int (nI (a_to (fun p => (d_pn X.1.1 p).2.2.2.length) k))), some (.int 0), some (.int (nI k))] [] h M (some (.int (f_count X w))) h M := by
    intro dd
    induction dd with
    | zero =>
      intro k hk
      obtain rfl : k = X.1.1.2.1.length := by omega
      have e1 : nI X.1.1.2.1.length ≤ nI X.1.1.2.1.length := nI_le (Nat.le_refl _) (by omega)
      refine pr_seq (pc' := 10) 2 rfl ⟨⟨trivial, trivial⟩, (by first | decide | assumption)⟩ ?_
      try simp (disch := omega) only [rIk, rLn, rLg, rI_mul, nI_add, nI_1, nI_clamp, pr_8_26, pr_8_m4, pr_i_0, pr_i_1, pr_i_m1]
      refine pr_cv [] rfl rfl rfl rfl rfl (Nat.le_of_ble_eq_true rfl) (by first | assumption | decide | (simp (disch := omega) only [rIk, rLn, rLg, rI_mul, nI_add, nI_1, nI_clamp, pr_8_26, pr_8_m4, pr_i_0, pr_i_1, pr_i_m1]; first | assumption | exact ⟨Or.inl (by assumption), rvin (by assumption) (by omega) (by decide)⟩ | exact ⟨by assumption, rvin (by assumption) (by omega) (by decide)⟩ | exact ⟨⟨by omega, by omega⟩, rvin (by assumption) (by omega) (by decide)⟩ | exact ⟨Or.inr (by assumption), rvin (by assumption) (by omega) (by decide)⟩ | exact ⟨Or.inr ⟨by assumption, (by first | exact Or.inl rfl | exact Or.inr rfl | exact pr_b01 _)⟩, rvin (by assumption) (by omega) (by decide)⟩ | exact ⟨by assumption, by assumption⟩ | decide | omega)) (Nat.le_of_ble_eq_true rfl) (hpe) ?_
      refine pr_ic rfl (fun h13 => ?_) (fun h13 => ?_)
      · simp only [ab_cmp, pr_8_26, pr_8_m4, pr_i_0, pr_i_1, pr_i_m1] at h13
        first
        | contradiction
        | exact absurd trivial h13
        | exact absurd h13 (by decide)
        | exact absurd (Classical.not_not.mp h13) (by decide)
        | skip
          refine pr_seq (pc' := 34) 2 rfl ⟨⟨trivial, trivial⟩, trivial⟩ ?_
          try simp (disch := omega) only [rIk, rLn, rLg, rI_mul, nI_add, nI_1, nI_clamp, pr_8_26, pr_8_m4, pr_i_0, pr_i_1, pr_i_m1]
          exact loop2 26 0 (by omega)
      · simp only [ab_cmp, pr_8_26, pr_8_m4, pr_i_0, pr_i_1, pr_i_m1] at h13
        exact absurd e1 h13
    | succ dd ih =>
      intro k hk
      have hk2 : k < X.1.1.2.1.length := by have : k + (dd + 1) = X.1.1.2.1.length := hk; omega
      have e1 : ¬ nI X.1.1.2.1.length ≤ nI k := nI_ge hk2 (by omega)
      have hh := ih (k + 1) (by omega)
      rw [show a_to (fun p => (d_pn X.1.1 p).2.2.2.length) (k + 1) = a_to (fun p => (d_pn X.1.1 p).2.2.2.length) k + (d_pn X.1.1 k).2.2.2.length from rfl] at hh
      refine pr_seq (pc' := 10) 2 rfl ⟨⟨trivial, trivial⟩, (by first | decide | assumption)⟩ ?_
      try simp (disch := omega) only [rIk, rLn, rLg, rI_mul, nI_add, nI_1, nI_clamp, pr_8_26, pr_8_m4, pr_i_0, pr_i_1, pr_i_m1]
      refine pr_cv [] rfl rfl rfl rfl rfl (Nat.le_of_ble_eq_true rfl) (by first | assumption | decide | (simp (disch := omega) only [rIk, rLn, rLg, rI_mul, nI_add, nI_1, nI_clamp, pr_8_26, pr_8_m4, pr_i_0, pr_i_1, pr_i_m1]; first | assumption | exact ⟨Or.inl (by assumption), rvin (by assumption) (by omega) (by decide)⟩ | exact ⟨by assumption, rvin (by assumption) (by omega) (by decide)⟩ | exact ⟨⟨by omega, by omega⟩, rvin (by assumption) (by omega) (by decide)⟩ | exact ⟨Or.inr (by assumption), rvin (by assumption) (by omega) (by decide)⟩ | exact ⟨Or.inr ⟨by assumption, (by first | exact Or.inl rfl | exact Or.inr rfl | exact pr_b01 _)⟩, rvin (by assumption) (by omega) (by decide)⟩ | exact ⟨by assumption, by assumption⟩ | decide | omega)) (Nat.le_of_ble_eq_true rfl) (hpe) ?_
      refine pr_ic rfl (fun h13 => ?_) (fun h13 => ?_)
      · simp only [ab_cmp, pr_8_26, pr_8_m4, pr_i_0, pr_i_1, pr_i_m1] at h13
        exact absurd h13 e1
      · simp only [ab_cmp, pr_8_26, pr_8_m4, pr_i_0, pr_i_1, pr_i_m1] at h13
        first
        | contradiction
        | exact absurd trivial h13
        | exact absurd h13 (by decide)
        | exact absurd (Classical.not_not.mp h13) (by decide)
        | skip
          refine pr_seq (pc' := 20) 3 rfl ⟨⟨⟨trivial, trivial⟩, (by first | decide | assumption)⟩, trivial⟩ ?_
          try simp (disch := omega) only [rIk, rLn, rLg, rI_mul, nI_add, nI_1, nI_clamp, pr_8_26, pr_8_m4, pr_i_0, pr_i_1, pr_i_m1]
          refine pr_cv [_] rfl rfl rfl rfl rfl (Nat.le_of_ble_eq_true rfl) (by first | assumption | decide | (simp (disch := omega) only [rIk, rLn, rLg, rI_mul, nI_add, nI_1, nI_clamp, pr_8_26, pr_8_m4, pr_i_0, pr_i_1, pr_i_m1]; first | assumption | exact ⟨Or.inl (by assumption), rvin (by assumption) (by omega) (by decide)⟩ | exact ⟨by assumption, rvin (by assumption) (by omega) (by decide)⟩ | exact ⟨⟨by omega, by omega⟩, rvin (by assumption) (by omega) (by decide)⟩ | exact ⟨Or.inr (by assumption), rvin (by assumption) (by omega) (by decide)⟩ | exact ⟨Or.inr ⟨by assumption, (by first | exact Or.inl rfl | exact Or.inr rfl | exact pr_b01 _)⟩, rvin (by assumption) (by omega) (by decide)⟩ | exact ⟨by assumption, by assumption⟩ | decide | omega)) (Nat.le_of_ble_eq_true rfl) (q_longOf h M hl hv.1 hk2) ?_
          refine pr_seq (pc' := 7) 4 rfl ⟨⟨⟨⟨trivial, trivial⟩, trivial⟩, trivial⟩, trivial⟩ ?_
          try simp (disch := omega) only [rIk, rLn, rLg, rI_mul, nI_add, nI_1, nI_clamp, pr_8_26, pr_8_m4, pr_i_0, pr_i_1, pr_i_m1]
          exact hh
  refine pr_seq (pc' := 7) 6 rfl ⟨⟨⟨⟨⟨⟨trivial, trivial⟩, trivial⟩, trivial⟩, trivial⟩, trivial⟩, trivial⟩ ?_
  exact loop1 (x_n X) 0 (by omega)
theorem mon_le {f : Nat → Bool} {A : Nat → Nat} {c : Nat} : ∀ n, (∀ i, i < n → A i ≤ c) → mon f A n ≤ n * c
  | 0, _ => by show 0 ≤ _; omega
  | n + 1, h => by
    have ih := mon_le (f := f) n (fun i hi => h i (by omega))
    have h1 := h n (by omega)
    show mon f A n + (if f n then A n else 0) ≤ _
    rw [Nat.succ_mul]
    split <;> omega
theorem wh_n {d : Ld} {F : Nat → Int32} (f : Nat → Bool) (hv : pg_r F d) : ∃ x, a_wh f (lW d) (lD d) d.2.1.length = nI x ∧ 9000 ≤ x ∧ x ≤ 11000 := by
  have g2 := hv.2.1
  have a1 := mon_le (f := f) (A := lW d) (c := 99) d.2.1.length (fun i hi => (hv.2.2.2.2.2.2.2 i hi).2.2.2.2.2.1)
  have a2 := mon_le (f := f) (A := lD d) (c := 99) d.2.1.length (fun i hi => (hv.2.2.2.2.2.2.2 i hi).2.2.2.1)
  refine ⟨10000 + mon f (lW d) d.2.1.length - mon f (lD d) d.2.1.length, ?_, by omega, by omega⟩
  unfold a_wh
  rw [nI_add, i_sub (by omega)]
theorem far_lt {x : Nat} (h : x ≤ 11000) : Int32.ofNat 4294867296 < nI x := by
  rw [Int32.lt_iff_toInt_lt, nI_toInt (by omega)]
  have : (Int32.ofNat 4294867296).toInt = -100000 := by decide
  omega
theorem bst_2 (v : Nat → Int32) : ∀ k, k + 1 ≤ 1000 → ¬ (bst v (k + 1)).2 = -4
  | 0, _ => by
    show ¬ (if (bst v 0).2 = -4 ∨ (bst v 0).1 < v 0 then (v 0, nI 0) else bst v 0).2 = -4
    rw [if_pos (show (bst v 0).2 = -4 ∨ (bst v 0).1 < v 0 from Or.inl rfl)]
    exact (by decide : ¬ nI 0 = -4)
  | k + 1, h => by
    show ¬ (if (bst v (k + 1)).2 = -4 ∨ (bst v (k + 1)).1 < v (k + 1) then (v (k + 1), nI (k + 1)) else bst v (k + 1)).2 = -4
    have ih := bst_2 v k (by omega)
    by_cases c : (bst v (k + 1)).2 = -4 ∨ (bst v (k + 1)).1 < v (k + 1)
    · rw [if_pos c]
      intro q
      have q : nI (k + 1) = -4 := q
      have := nI_toInt (n := k + 1) (by omega)
      rw [q] at this
      have e : (-4 : Int32).toInt = -4 := by decide
      omega
    · rw [if_neg c]; exact ih
theorem bst_s {v : Nat → Int32} {k : Nat} : bst v (k + 1) = if (bst v k).2 = -4 ∨ (bst v k).1 < v k then (v k, nI k) else bst v k := rfl
theorem i_le_nlt (x y : Int32) : x ≤ y ↔ ¬ y < x := by
  rw [Int32.le_iff_toInt_le, Int32.lt_iff_toInt_lt]
  omega
theorem r_call {X : St} (w : Int32) (h : ab_H) (M : ab_M) (hl : rL h M.2.2) (hv : rv M.1 X) : pr_X pX11_call [.ref 172, .int w] h M (rp M (f_call X w, X)) := by
  obtain ⟨k172, rS, rLs, rKn, rPg, rRl, rRk, rTp, rCu, rLe, rLt, rSm, rIk, rLn, rLg, rCe, ⟨kS, nS⟩, ⟨kLs, nLs⟩, ⟨kKn, nKn⟩, ⟨kPg, nPg⟩, ⟨kRl, nRl⟩, ⟨kRk, nRk⟩, ⟨kTp, nTp⟩, ⟨kCu, nCu⟩, ⟨kLe, nLe⟩, ⟨kLt, nLt⟩, ⟨kSm, nSm⟩, ⟨kIk, nIk⟩, ⟨kLn, nLn⟩, ⟨kLg, nLg⟩, kCe, nCe⟩ := id hl
  obtain ⟨l1, l2, l3⟩ := hv.2.1
  have h1 := q_in (a := w.toInt64) (b := Int64.ofNat 0) (c := Int64.ofNat 1) w 0 1 h M rfl rfl rfl
  refine pr_ofC ?_ (rp_s hv)
  unfold f_call
  cases q : pr_in w 0 1 with
  | false =>
    rw [q] at h1
    refine pr_seq (pc' := 4) 4 rfl ⟨⟨⟨⟨trivial, trivial⟩, trivial⟩, trivial⟩, trivial⟩ ?_
    refine pr_cs [_, _, _] rfl rfl rfl rfl rfl (Nat.le_of_ble_eq_true rfl) (Nat.le_of_ble_eq_true rfl) (h1) ?_
    refine pr_if rfl (fun h7 => ?_) (fun h7 => ?_)
    · simp only [ab_cmp, pr_8_m2, pr_i_0, pr_i_1, pr_i_m1] at h7
      exact absurd rfl h7
    · simp only [ab_cmp, pr_8_m2, pr_i_0, pr_i_1, pr_i_m1] at h7
      first
      | contradiction
      | exact absurd trivial h7
      | exact absurd h7 (by decide)
      | exact absurd (Classical.not_not.mp h7) (by decide)
      | skip
        refine pr_seq (pc' := 11) 1 rfl ⟨trivial, trivial⟩ ?_
        exact pr_irM rfl (by first | rfl | (simp [pr_b, pr_8_m2, pr_i_0, pr_i_1, pr_i_m1, *]; done) | (simp_all [pr_b, pr_8_m2, pr_i_0, pr_i_1, pr_i_m1]; done)) trivial (by rfl)
  | true =>
    rw [q] at h1
    rw [if_pos rfl]
    by_cases c0 : X.1.2.1.length = 0
    · rw [if_pos c0]
      have e0 : M.1 172 2 = 0 := by rw [l1, c0]; rfl
      refine pr_seq (pc' := 4) 4 rfl ⟨⟨⟨⟨trivial, trivial⟩, trivial⟩, trivial⟩, trivial⟩ ?_
      try simp (disch := omega) only [e0, rI_mul, nI_add, nI_1, nI_clamp, pr_8_m2, pr_i_0, pr_i_1, pr_i_m1]
      refine pr_cs [_, _, _] rfl rfl rfl rfl rfl (Nat.le_of_ble_eq_true rfl) (Nat.le_of_ble_eq_true rfl) (h1) ?_
      refine pr_if rfl (fun h7 => ?_) (fun h7 => ?_)
      · simp only [ab_cmp, pr_8_m2, pr_i_0, pr_i_1, pr_i_m1] at h7
        first
        | contradiction
        | exact absurd trivial h7
        | exact absurd h7 (by decide)
        | exact absurd (Classical.not_not.mp h7) (by decide)
        | skip
          refine pr_seq (pc' := 16) 2 rfl ⟨⟨trivial, (by first | decide | assumption)⟩, (by assumption)⟩ ?_
          try simp (disch := omega) only [e0, rI_mul, nI_add, nI_1, nI_clamp, pr_8_m2, pr_i_0, pr_i_1, pr_i_m1]
          refine pr_if rfl (fun h16 => ?_) (fun h16 => ?_)
          · simp only [ab_cmp, pr_8_m2, pr_i_0, pr_i_1, pr_i_m1] at h16
            exact absurd trivial h16
          · simp only [ab_cmp, pr_8_m2, pr_i_0, pr_i_1, pr_i_m1] at h16
            first
            | contradiction
            | exact absurd trivial h16
            | exact absurd h16 (by decide)
            | exact absurd (Classical.not_not.mp h16) (by decide)
            | skip
              refine pr_seq (pc' := 21) 1 rfl ⟨trivial, trivial⟩ ?_
              try simp (disch := omega) only [e0, rI_mul, nI_add, nI_1, nI_clamp, pr_8_m2, pr_i_0, pr_i_1, pr_i_m1]
              exact pr_irM rfl (by first | rfl | (simp (disch := omega) only [e0, rI_mul, nI_add, nI_1, nI_clamp, pr_8_m2, pr_i_0, pr_i_1, pr_i_m1]; done) | (simp [pr_b, pr_8_m2, pr_i_0, pr_i_1, pr_i_m1, *]; done) | (simp_all [pr_b, pr_8_m2, pr_i_0, pr_i_1, pr_i_m1]; done)) trivial (by rfl)
      · simp only [ab_cmp, pr_8_m2, pr_i_0, pr_i_1, pr_i_m1] at h7
        exact absurd (Classical.not_not.mp h7) (by decide)
    · rw [if_neg c0]
      have e0 : ¬ nI X.1.2.1.length = 0 := nI_ne0 (by omega) (by omega)
      have hV : ∀ k, pr_C pX11_worthHaving [.ref 172, .int (mk (fun q => decide (lK X.1.1 q ≠ 4) && decide (lS X.1.1 q = nI (x_ls X k))) X.1.1.2.1.length)] h M (some (.int (x_at X (nI (x_ls X k))))) h M := fun k => q_worthHaving h M hl hv.1
      generalize hv' : (fun n => x_at X (nI (x_ls X n))) = v
      have hvk : ∀ k, x_at X (nI (x_ls X k)) = v k := fun k => by rw [← hv']
      have hb : ∀ k, ∃ x, v k = nI x ∧ 9000 ≤ x ∧ x ≤ 11000 := fun k => by rw [← hvk]; exact wh_n _ hv.1
      have loop : ∀ dd k, k + dd = X.1.2.1.length → ∀ b wh z5, (k = 0 → b = Int32.ofNat 4294867296 ∧ wh = 0) → (0 < k → b = (bst v k).1 ∧ wh = (bst v k).2) → pr_E pX11_call 30 [some (.ref 172), some (.int w), some (.int b), some (.int wh), some (.int (nI k)), z5] [] h M (some (.int (if w = 0 then (bst v X.1.2.1.length).1 else (bst v X.1.2.1.length).2))) h M := by
        intro dd
        induction dd with
        | zero =>
          intro k hk b wh z5 i1 i2
          obtain rfl : k = X.1.2.1.length := by omega
          obtain ⟨rfl, rfl⟩ := i2 (by omega)
          have e1 : nI X.1.2.1.length ≤ nI X.1.2.1.length := nI_le (Nat.le_refl _) (by omega)
          by_cases w0 : w = 0
          · rw [if_pos w0]
            refine pr_seq (pc' := 36) 3 rfl ⟨⟨⟨trivial, trivial⟩, (by first | decide | assumption)⟩, (by assumption)⟩ ?_
            try simp (disch := omega) only [l1, rI_mul, nI_add, nI_1, nI_clamp, pr_8_m2, pr_i_0, pr_i_1, pr_i_m1]
            refine pr_ic rfl (fun h36 => ?_) (fun h36 => ?_)
            · simp only [ab_cmp, pr_8_m2, pr_i_0, pr_i_1, pr_i_m1] at h36
              first
              | contradiction
              | exact absurd trivial h36
              | exact absurd h36 (by decide)
              | exact absurd (Classical.not_not.mp h36) (by decide)
              | skip
                refine pr_seq (pc' := 88) 1 rfl ⟨trivial, trivial⟩ ?_
                try simp (disch := omega) only [l1, rI_mul, nI_add, nI_1, nI_clamp, pr_8_m2, pr_i_0, pr_i_1, pr_i_m1]
                refine pr_if rfl (fun h88 => ?_) (fun h88 => ?_)
                · simp only [ab_cmp, pr_8_m2, pr_i_0, pr_i_1, pr_i_m1] at h88
                  exact absurd w0 h88
                · simp only [ab_cmp, pr_8_m2, pr_i_0, pr_i_1, pr_i_m1] at h88
                  first
                  | contradiction
                  | exact absurd trivial h88
                  | exact absurd h88 (by decide)
                  | exact absurd (Classical.not_not.mp h88) (by decide)
                  | skip
                    refine pr_seq (pc' := 96) 2 rfl ⟨⟨trivial, trivial⟩, trivial⟩ ?_
                    try simp (disch := omega) only [l1, rI_mul, nI_add, nI_1, nI_clamp, pr_8_m2, pr_i_0, pr_i_1, pr_i_m1]
                    exact pr_irM rfl (by rfl) trivial (by rfl)
            · simp only [ab_cmp, pr_8_m2, pr_i_0, pr_i_1, pr_i_m1] at h36
              exact absurd e1 h36
          · rw [if_neg w0]
            refine pr_seq (pc' := 36) 3 rfl ⟨⟨⟨trivial, trivial⟩, (by first | decide | assumption)⟩, (by assumption)⟩ ?_
            try simp (disch := omega) only [l1, rI_mul, nI_add, nI_1, nI_clamp, pr_8_m2, pr_i_0, pr_i_1, pr_i_m1]
            refine pr_ic rfl (fun h36 => ?_) (fun h36 => ?_)
            · simp only [ab_cmp, pr_8_m2, pr_i_0, pr_i_1, pr_i_m1] at h36
              first
              | contradiction
              | exact absurd trivial h36
              | exact absurd h36 (by decide)
              | exact absurd (Classical.not_not.mp h36) (by decide)
              | skip
                refine pr_seq (pc' := 88) 1 rfl ⟨trivial, trivial⟩ ?_
                try simp (disch := omega) only [l1, rI_mul, nI_add, nI_1, nI_clamp, pr_8_m2, pr_i_0, pr_i_1, pr_i_m1]
                refine pr_if rfl (fun h88 => ?_) (fun h88 => ?_)
                · simp only [ab_cmp, pr_8_m2, pr_i_0, pr_i_1, pr_i_m1] at h88
                  first
                  | contradiction
                  | exact absurd trivial h88
                  | exact absurd h88 (by decide)
                  | exact absurd (Classical.not_not.mp h88) (by decide)
                  | skip
                    refine pr_seq (pc' := 96) 1 rfl ⟨trivial, trivial⟩ ?_
                    try simp (disch := omega) only [l1, rI_mul, nI_add, nI_1, nI_clamp, pr_8_m2, pr_i_0, pr_i_1, pr_i_m1]
                    exact pr_irM rfl (by rfl) trivial (by rfl)
                · simp only [ab_cmp, pr_8_m2, pr_i_0, pr_i_1, pr_i_m1] at h88
                  exact absurd (Classical.not_not.mp h88) w0
            · simp only [ab_cmp, pr_8_m2, pr_i_0, pr_i_1, pr_i_m1] at h36
              exact absurd e1 h36
        | succ dd ih =>
          intro k hk b wh z5 i1 i2
          have hk2 : k < X.1.2.1.length := by omega
          have e1 : ¬ nI X.1.2.1.length ≤ nI k := nI_ge hk2 (by omega)
          have hls := q_listSum h M hl hv.1 l3 l2 hk2
          have has := q_atSum (nI (x_ls X k)) h M hl hv.1
          have hwh := hV k
          rw [hvk k] at hwh
          by_cases c : b < v k
          · have c' : ¬ v k ≤ b := fun q => (i_le_nlt _ _).mp q c
            have hh := ih (k + 1) (by omega) (v k) (nI k) (some (.int (v k))) (fun q => absurd q (by omega)) (fun _ => by
              rw [bst_s]
              rcases Nat.eq_zero_or_pos k with z | z
              · subst z; rw [if_pos (show (bst v 0).2 = -4 ∨ (bst v 0).1 < v 0 from Or.inl rfl)]; exact ⟨rfl, rfl⟩
              · rw [if_pos (Or.inr (by rw [← (i2 z).1]; exact c))]; exact ⟨rfl, rfl⟩)
            refine pr_seq (pc' := 36) 3 rfl ⟨⟨⟨trivial, trivial⟩, (by first | decide | assumption)⟩, (by assumption)⟩ ?_
            try simp (disch := omega) only [l1, rI_mul, nI_add, nI_1, nI_clamp, pr_8_m2, pr_i_0, pr_i_1, pr_i_m1]
            refine pr_ic rfl (fun h36 => ?_) (fun h36 => ?_)
            · simp only [ab_cmp, pr_8_m2, pr_i_0, pr_i_1, pr_i_m1] at h36
              exact absurd h36 e1
            · simp only [ab_cmp, pr_8_m2, pr_i_0, pr_i_1, pr_i_m1] at h36
              first
              | contradiction
              | exact absurd trivial h36
              | exact absurd h36 (by decide)
              | exact absurd (Classical.not_not.mp h36) (by decide)
              | skip
                refine pr_seq (pc' := 44) 4 rfl ⟨⟨⟨⟨trivial, (by first | decide | assumption)⟩, (by first | decide | assumption)⟩, (by first | decide | assumption)⟩, trivial⟩ ?_
                try simp (disch := omega) only [l1, rI_mul, nI_add, nI_1, nI_clamp, pr_8_m2, pr_i_0, pr_i_1, pr_i_m1]
                refine pr_cv [_] rfl rfl rfl rfl rfl (Nat.le_of_ble_eq_true rfl) (by first | assumption | decide | (simp (disch := omega) only [l1, rI_mul, nI_add, nI_1, nI_clamp, pr_8_m2, pr_i_0, pr_i_1, pr_i_m1]; first | assumption | exact ⟨Or.inl (by assumption), rvin (by assumption) (by omega) (by decide)⟩ | exact ⟨by assumption, rvin (by assumption) (by omega) (by decide)⟩ | exact ⟨⟨by omega, by omega⟩, rvin (by assumption) (by omega) (by decide)⟩ | exact ⟨Or.inr (by assumption), rvin (by assumption) (by omega) (by decide)⟩ | exact ⟨Or.inr ⟨by assumption, (by first | exact Or.inl rfl | exact Or.inr rfl | exact pr_b01 _)⟩, rvin (by assumption) (by omega) (by decide)⟩ | exact ⟨by assumption, by assumption⟩ | decide | omega)) (Nat.le_of_ble_eq_true rfl) (hls) ?_
                refine pr_cv [_] rfl rfl rfl rfl rfl (Nat.le_of_ble_eq_true rfl) (by first | assumption | decide | (simp (disch := omega) only [l1, rI_mul, nI_add, nI_1, nI_clamp, pr_8_m2, pr_i_0, pr_i_1, pr_i_m1]; first | assumption | exact ⟨Or.inl (by assumption), rvin (by assumption) (by omega) (by decide)⟩ | exact ⟨by assumption, rvin (by assumption) (by omega) (by decide)⟩ | exact ⟨⟨by omega, by omega⟩, rvin (by assumption) (by omega) (by decide)⟩ | exact ⟨Or.inr (by assumption), rvin (by assumption) (by omega) (by decide)⟩ | exact ⟨Or.inr ⟨by assumption, (by first | exact Or.inl rfl | exact Or.inr rfl | exact pr_b01 _)⟩, rvin (by assumption) (by omega) (by decide)⟩ | exact ⟨by assumption, by assumption⟩ | decide | omega)) (Nat.le_of_ble_eq_true rfl) (has) ?_
                refine pr_cv [_] rfl rfl rfl rfl rfl (Nat.le_of_ble_eq_true rfl) (by first | assumption | decide | (simp (disch := omega) only [l1, rI_mul, nI_add, nI_1, nI_clamp, pr_8_m2, pr_i_0, pr_i_1, pr_i_m1]; first | assumption | exact ⟨Or.inl (by assumption), rvin (by assumption) (by omega) (by decide)⟩ | exact ⟨by assumption, rvin (by assumption) (by omega) (by decide)⟩ | exact ⟨⟨by omega, by omega⟩, rvin (by assumption) (by omega) (by decide)⟩ | exact ⟨Or.inr (by assumption), rvin (by assumption) (by omega) (by decide)⟩ | exact ⟨Or.inr ⟨by assumption, (by first | exact Or.inl rfl | exact Or.inr rfl | exact pr_b01 _)⟩, rvin (by assumption) (by omega) (by decide)⟩ | exact ⟨by assumption, by assumption⟩ | decide | omega)) (Nat.le_of_ble_eq_true rfl) (hwh) ?_
                refine pr_seq (pc' := 58) 3 rfl ⟨⟨⟨trivial, trivial⟩, trivial⟩, trivial⟩ ?_
                try simp (disch := omega) only [l1, rI_mul, nI_add, nI_1, nI_clamp, pr_8_m2, pr_i_0, pr_i_1, pr_i_m1]
                refine pr_ic rfl (fun h58 => ?_) (fun h58 => ?_)
                · simp only [ab_cmp, pr_8_m2, pr_i_0, pr_i_1, pr_i_m1] at h58
                  exact absurd h58 c'
                · simp only [ab_cmp, pr_8_m2, pr_i_0, pr_i_1, pr_i_m1] at h58
                  first
                  | contradiction
                  | exact absurd trivial h58
                  | exact absurd h58 (by decide)
                  | exact absurd (Classical.not_not.mp h58) (by decide)
                  | skip
                    refine pr_seq (pc' := 71) 5 rfl ⟨⟨⟨⟨⟨trivial, trivial⟩, trivial⟩, trivial⟩, trivial⟩, trivial⟩ ?_
                    try simp (disch := omega) only [l1, rI_mul, nI_add, nI_1, nI_clamp, pr_8_m2, pr_i_0, pr_i_1, pr_i_m1]
                    refine pr_ic rfl (fun h71 => ?_) (fun h71 => ?_)
                    · simp only [ab_cmp, pr_8_m2, pr_i_0, pr_i_1, pr_i_m1] at h71
                      exact absurd h71 c'
                    · simp only [ab_cmp, pr_8_m2, pr_i_0, pr_i_1, pr_i_m1] at h71
                      first
                      | contradiction
                      | exact absurd trivial h71
                      | exact absurd h71 (by decide)
                      | exact absurd (Classical.not_not.mp h71) (by decide)
                      | skip
                        refine pr_seq (pc' := 30) 5 rfl ⟨⟨⟨⟨⟨trivial, trivial⟩, trivial⟩, trivial⟩, trivial⟩, trivial⟩ ?_
                        try simp (disch := omega) only [l1, rI_mul, nI_add, nI_1, nI_clamp, pr_8_m2, pr_i_0, pr_i_1, pr_i_m1]
                        exact hh
          · have c' : v k ≤ b := (i_le_nlt _ _).mpr c
            have kp : 0 < k := by
              rcases Nat.eq_zero_or_pos k with z | z
              · exfalso
                obtain ⟨x, hx, x1, x2⟩ := hb k
                rw [(i1 z).1, hx] at c
                exact c (far_lt x2)
              · exact z
            have hh := ih (k + 1) (by omega) b wh (some (.int (v k))) (fun q => absurd q (by omega)) (fun _ => by
              obtain ⟨k', rfl⟩ : ∃ k', k = k' + 1 := ⟨k - 1, by omega⟩
              rw [bst_s, if_neg (fun q => q.elim (fun q => bst_2 v k' (by omega) q) (fun q => c (by rw [(i2 kp).1]; exact q)))]
              exact i2 kp)
            refine pr_seq (pc' := 36) 3 rfl ⟨⟨⟨trivial, trivial⟩, (by first | decide | assumption)⟩, (by assumption)⟩ ?_
            try simp (disch := omega) only [l1, rI_mul, nI_add, nI_1, nI_clamp, pr_8_m2, pr_i_0, pr_i_1, pr_i_m1]
            refine pr_ic rfl (fun h36 => ?_) (fun h36 => ?_)
            · simp only [ab_cmp, pr_8_m2, pr_i_0, pr_i_1, pr_i_m1] at h36
              exact absurd h36 e1
            · simp only [ab_cmp, pr_8_m2, pr_i_0, pr_i_1, pr_i_m1] at h36
              first
              | contradiction
              | exact absurd trivial h36
              | exact absurd h36 (by decide)
              | exact absurd (Classical.not_not.mp h36) (by decide)
              | skip
                refine pr_seq (pc' := 44) 4 rfl ⟨⟨⟨⟨trivial, (by first | decide | assumption)⟩, (by first | decide | assumption)⟩, (by first | decide | assumption)⟩, trivial⟩ ?_
                try simp (disch := omega) only [l1, rI_mul, nI_add, nI_1, nI_clamp, pr_8_m2, pr_i_0, pr_i_1, pr_i_m1]
                refine pr_cv [_] rfl rfl rfl rfl rfl (Nat.le_of_ble_eq_true rfl) (by first | assumption | decide | (simp (disch := omega) only [l1, rI_mul, nI_add, nI_1, nI_clamp, pr_8_m2, pr_i_0, pr_i_1, pr_i_m1]; first | assumption | exact ⟨Or.inl (by assumption), rvin (by assumption) (by omega) (by decide)⟩ | exact ⟨by assumption, rvin (by assumption) (by omega) (by decide)⟩ | exact ⟨⟨by omega, by omega⟩, rvin (by assumption) (by omega) (by decide)⟩ | exact ⟨Or.inr (by assumption), rvin (by assumption) (by omega) (by decide)⟩ | exact ⟨Or.inr ⟨by assumption, (by first | exact Or.inl rfl | exact Or.inr rfl | exact pr_b01 _)⟩, rvin (by assumption) (by omega) (by decide)⟩ | exact ⟨by assumption, by assumption⟩ | decide | omega)) (Nat.le_of_ble_eq_true rfl) (hls) ?_
                refine pr_cv [_] rfl rfl rfl rfl rfl (Nat.le_of_ble_eq_true rfl) (by first | assumption | decide | (simp (disch := omega) only [l1, rI_mul, nI_add, nI_1, nI_clamp, pr_8_m2, pr_i_0, pr_i_1, pr_i_m1]; first | assumption | exact ⟨Or.inl (by assumption), rvin (by assumption) (by omega) (by decide)⟩ | exact ⟨by assumption, rvin (by assumption) (by omega) (by decide)⟩ | exact ⟨⟨by omega, by omega⟩, rvin (by assumption) (by omega) (by decide)⟩ | exact ⟨Or.inr (by assumption), rvin (by assumption) (by omega) (by decide)⟩ | exact ⟨Or.inr ⟨by assumption, (by first | exact Or.inl rfl | exact Or.inr rfl | exact pr_b01 _)⟩, rvin (by assumption) (by omega) (by decide)⟩ | exact ⟨by assumption, by assumption⟩ | decide | omega)) (Nat.le_of_ble_eq_true rfl) (has) ?_
                refine pr_cv [_] rfl rfl rfl rfl rfl (Nat.le_of_ble_eq_true rfl) (by first | assumption | decide | (simp (disch := omega) only [l1, rI_mul, nI_add, nI_1, nI_clamp, pr_8_m2, pr_i_0, pr_i_1, pr_i_m1]; first | assumption | exact ⟨Or.inl (by assumption), rvin (by assumption) (by omega) (by decide)⟩ | exact ⟨by assumption, rvin (by assumption) (by omega) (by decide)⟩ | exact ⟨⟨by omega, by omega⟩, rvin (by assumption) (by omega) (by decide)⟩ | exact ⟨Or.inr (by assumption), rvin (by assumption) (by omega) (by decide)⟩ | exact ⟨Or.inr ⟨by assumption, (by first | exact Or.inl rfl | exact Or.inr rfl | exact pr_b01 _)⟩, rvin (by assumption) (by omega) (by decide)⟩ | exact ⟨by assumption, by assumption⟩ | decide | omega)) (Nat.le_of_ble_eq_true rfl) (hwh) ?_
                refine pr_seq (pc' := 58) 3 rfl ⟨⟨⟨trivial, trivial⟩, trivial⟩, trivial⟩ ?_
                try simp (disch := omega) only [l1, rI_mul, nI_add, nI_1, nI_clamp, pr_8_m2, pr_i_0, pr_i_1, pr_i_m1]
                refine pr_ic rfl (fun h58 => ?_) (fun h58 => ?_)
                · simp only [ab_cmp, pr_8_m2, pr_i_0, pr_i_1, pr_i_m1] at h58
                  first
                  | contradiction
                  | exact absurd trivial h58
                  | exact absurd h58 (by decide)
                  | exact absurd (Classical.not_not.mp h58) (by decide)
                  | skip
                    refine pr_seq (pc' := 71) 4 rfl ⟨⟨⟨⟨trivial, trivial⟩, trivial⟩, trivial⟩, trivial⟩ ?_
                    try simp (disch := omega) only [l1, rI_mul, nI_add, nI_1, nI_clamp, pr_8_m2, pr_i_0, pr_i_1, pr_i_m1]
                    refine pr_ic rfl (fun h71 => ?_) (fun h71 => ?_)
                    · simp only [ab_cmp, pr_8_m2, pr_i_0, pr_i_1, pr_i_m1] at h71
                      first
                      | contradiction
                      | exact absurd trivial h71
                      | exact absurd h71 (by decide)
                      | exact absurd (Classical.not_not.mp h71) (by decide)
                      | skip
                        refine pr_seq (pc' := 30) 4 rfl ⟨⟨⟨⟨trivial, trivial⟩, trivial⟩, trivial⟩, trivial⟩ ?_
                        try simp (disch := omega) only [l1, rI_mul, nI_add, nI_1, nI_clamp, pr_8_m2, pr_i_0, pr_i_1, pr_i_m1]
                        exact hh
                    · simp only [ab_cmp, pr_8_m2, pr_i_0, pr_i_1, pr_i_m1] at h71
                      exact absurd c' h71
                · simp only [ab_cmp, pr_8_m2, pr_i_0, pr_i_1, pr_i_m1] at h58
                  exact absurd c' h58
      refine pr_seq (pc' := 4) 4 rfl ⟨⟨⟨⟨trivial, trivial⟩, trivial⟩, trivial⟩, trivial⟩ ?_
      try simp (disch := omega) only [l1, rI_mul, nI_add, nI_1, nI_clamp, pr_8_m2, pr_i_0, pr_i_1, pr_i_m1]
      refine pr_cs [_, _, _] rfl rfl rfl rfl rfl (Nat.le_of_ble_eq_true rfl) (Nat.le_of_ble_eq_true rfl) (h1) ?_
      refine pr_if rfl (fun h7 => ?_) (fun h7 => ?_)
      · simp only [ab_cmp, pr_8_m2, pr_i_0, pr_i_1, pr_i_m1] at h7
        first
        | contradiction
        | exact absurd trivial h7
        | exact absurd h7 (by decide)
        | exact absurd (Classical.not_not.mp h7) (by decide)
        | skip
          refine pr_seq (pc' := 16) 2 rfl ⟨⟨trivial, (by first | decide | assumption)⟩, (by assumption)⟩ ?_
          try simp (disch := omega) only [l1, rI_mul, nI_add, nI_1, nI_clamp, pr_8_m2, pr_i_0, pr_i_1, pr_i_m1]
          refine pr_if rfl (fun h16 => ?_) (fun h16 => ?_)
          · simp only [ab_cmp, pr_8_m2, pr_i_0, pr_i_1, pr_i_m1] at h16
            first
            | contradiction
            | exact absurd trivial h16
            | exact absurd h16 (by decide)
            | exact absurd (Classical.not_not.mp h16) (by decide)
            | skip
              refine pr_seq (pc' := 30) 6 rfl ⟨⟨⟨⟨⟨⟨trivial, trivial⟩, trivial⟩, trivial⟩, trivial⟩, trivial⟩, trivial⟩ ?_
              try simp (disch := omega) only [l1, rI_mul, nI_add, nI_1, nI_clamp, pr_8_m2, pr_i_0, pr_i_1, pr_i_m1]
              exact loop X.1.2.1.length 0 (by omega) _ _ _ (fun _ => ⟨rfl, rfl⟩) (fun q => absurd q (by omega))
          · simp only [ab_cmp, pr_8_m2, pr_i_0, pr_i_1, pr_i_m1] at h16
            exact absurd (Classical.not_not.mp h16) e0
      · simp only [ab_cmp, pr_8_m2, pr_i_0, pr_i_1, pr_i_m1] at h7
        exact absurd (Classical.not_not.mp h7) (by decide)
