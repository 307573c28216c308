
/-! ===== the reference's questions ===== -/
theorem nb_s (f : Nat → Bool) (k : Nat) : nb f (k + 1) = (nb f k && !f k) := rfl
theorem q_votes {d : Ld} (h : ab_H) (M : ab_M) (hl : rL h M.2.2) (hv : pg_r (M.1 173) d) : pr_C pX11_votes [.ref 172] h M (some (.int (nI (cnt (fun p => nb (lal d p) p && decide (¬ (mk (lal d p) d.2.1.length &&& mk (fun q => decide (lK d q ≠ 1)) d.2.1.length) = 0)) d.2.1.length)))) h M := by
  obtain ⟨k172, rS, rLs, rKn, rPg, rRl, rRk, rTp, rCu, rLe, rLt, rSm, rIk, rLn, rLg, rCe, ⟨kS, nS⟩, ⟨kLs, nLs⟩, ⟨kKn, nKn⟩, ⟨kPg, nPg⟩, ⟨kRl, nRl⟩, ⟨kRk, nRk⟩, ⟨kTp, nTp⟩, ⟨kCu, nCu⟩, ⟨kLe, nLe⟩, ⟨kLt, nLt⟩, ⟨kSm, nSm⟩, ⟨kIk, nIk⟩, ⟨kLn, nLn⟩, ⟨kLg, nLg⟩, kCe, nCe⟩ := id hl
  obtain ⟨g1, g2, g3, g4, g5, ⟨g6, g6'⟩, g7, g8⟩ := id hv
  have hpe := q_people h M hl hv
  have alv : ∀ p, decide (¬ (mk (lal d p) d.2.1.length &&& mk (fun q => decide (lK d q ≠ 1)) d.2.1.length) = 0) = !nb (fun q => lal d p q && decide (lK d q ≠ 1)) d.2.1.length := by
    intro p
    rw [mk_and _ _ (by omega)]
    have := mk_0 (fun q => lal d p q && decide (lK d q ≠ 1)) (n := d.2.1.length) (by omega)
    cases hc : nb (fun q => lal d p q && decide (lK d q ≠ 1)) d.2.1.length with
    | true => exact decide_eq_false (fun q => q (this.mpr hc))
    | false => exact decide_eq_true (fun q => by rw [this.mp q] at hc; cases hc)
  generalize hG : (fun p => nb (lal d p) p && decide (¬ (mk (lal d p) d.2.1.length &&& mk (fun q => decide (lK d q ≠ 1)) d.2.1.length) = 0)) = G
  have hGk : ∀ p, G p = (nb (lal d p) p && !nb (fun q => lal d p q && decide (lK d q ≠ 1)) d.2.1.length) := fun p => by rw [← hG, ← alv p]
  have loop : ∀ dd k, k + dd = d.2.1.length → ∀ z3 z4 z5, pr_E pX11_votes 4 [some (.ref 172), some (.int (nI (cnt G k))), some (.int (nI k)), z3, z4, z5] [] h M (some (.int (nI (cnt G d.2.1.length)))) h M := by
    intro dd
    induction dd with
    | zero =>
      intro k hk z3 z4 z5
      obtain rfl : k = d.2.1.length := by omega
      have e1 : nI d.2.1.length ≤ nI d.2.1.length := nI_le (Nat.le_refl _) (by omega)
      refine pr_seq (pc' := 6) 2 rfl ⟨⟨trivial, trivial⟩, (by first | decide | assumption)⟩ ?_
      try simp (disch := omega) only [rI_mul, nI_add, nI_1, nI_clamp, pr_i_0, pr_i_1]
      refine pr_cv [] rfl rfl rfl rfl rfl (Nat.le_of_ble_eq_true rfl) (by first | assumption | decide | (simp (disch := omega) only [rI_mul, nI_add, nI_1, nI_clamp, pr_i_0, pr_i_1]; first | assumption | exact ⟨Or.inl (by assumption), rvin (by assumption) (by omega) (by decide)⟩ | exact ⟨by assumption, rvin (by assumption) (by omega) (by decide)⟩ | exact ⟨⟨by omega, by omega⟩, rvin (by assumption) (by omega) (by decide)⟩ | exact ⟨Or.inl (by assumption), by assumption⟩ | exact ⟨Or.inr (by assumption), by assumption⟩ | exact ⟨by assumption, by assumption⟩ | decide | omega)) (Nat.le_of_ble_eq_true rfl) (hpe) ?_
      refine pr_ic rfl (fun h9 => ?_) (fun h9 => ?_)
      · simp only [ab_cmp, pr_i_0, pr_i_1] at h9
        first
        | contradiction
        | exact absurd trivial h9
        | exact absurd h9 (by decide)
        | exact absurd (Classical.not_not.mp h9) (by decide)
        | skip
          refine pr_seq (pc' := 101) 1 rfl ⟨trivial, trivial⟩ ?_
          try simp (disch := omega) only [rI_mul, nI_add, nI_1, nI_clamp, pr_i_0, pr_i_1]
          exact pr_irM rfl (by rfl) trivial (by rfl)
      · simp only [ab_cmp, pr_i_0, pr_i_1] at h9
        exact absurd e1 h9
    | succ dd ih =>
      intro k hk z3 z4 z5
      have e1 : ¬ nI d.2.1.length ≤ nI k := nI_ge (by omega) (by omega)
      have hk2 : k < d.2.1.length := by omega
      have hpo := q_personOf h M hl hv hk2
      have hlo := mk_low (lal d k) (n := d.2.1.length) (p := k) (by omega) (by omega)
      have inner : ∀ ee j, j + ee = d.2.1.length → pr_E pX11_votes 24 [some (.ref 172), some (.int (nI (cnt G k))), some (.int (nI k)), some (.int (mk (lal d k) d.2.1.length)), some (.int (pr_b (!nb (fun q => lal d k q && decide (lK d q ≠ 1)) j))), some (.int (nI j))] [] h M (some (.int (nI (cnt G d.2.1.length)))) h M := by
        intro ee
        induction ee with
        | zero =>
          intro j hj
          obtain rfl : j = d.2.1.length := by omega
          have e2 : nI d.2.1.length ≤ nI d.2.1.length := nI_le (Nat.le_refl _) (by omega)
          have hh := ih (k + 1) (by omega) (some (.int (mk (lal d k) d.2.1.length))) (some (.int (pr_b (!nb (fun q => lal d k q && decide (lK d q ≠ 1)) d.2.1.length)))) (some (.int (nI d.2.1.length)))
          have e0 : nI (cnt G k) + 0 = nI (cnt G k) := Int32.add_zero _
          cases c1 : nb (fun q => lal d k q && decide (lK d q ≠ 1)) d.2.1.length with
          | true =>
            rw [cnt_s0 (show G k = false by rw [hGk, c1]; simp), c1] at hh
            refine pr_seq (pc' := 27) 2 rfl ⟨⟨trivial, trivial⟩, (by first | decide | assumption)⟩ ?_
            try simp (disch := omega) only [e0, rI_mul, nI_add, nI_1, nI_clamp, pr_i_0, pr_i_1]
            refine pr_cv [] rfl rfl rfl rfl rfl (Nat.le_of_ble_eq_true rfl) (by first | assumption | decide | (simp (disch := omega) only [e0, rI_mul, nI_add, nI_1, nI_clamp, pr_i_0, pr_i_1]; first | assumption | exact ⟨Or.inl (by assumption), rvin (by assumption) (by omega) (by decide)⟩ | exact ⟨by assumption, rvin (by assumption) (by omega) (by decide)⟩ | exact ⟨⟨by omega, by omega⟩, rvin (by assumption) (by omega) (by decide)⟩ | exact ⟨Or.inl (by assumption), by assumption⟩ | exact ⟨Or.inr (by assumption), by assumption⟩ | exact ⟨by assumption, by assumption⟩ | decide | omega)) (Nat.le_of_ble_eq_true rfl) (hpe) ?_
            refine pr_ic rfl (fun h30 => ?_) (fun h30 => ?_)
            · simp only [ab_cmp, pr_i_0, pr_i_1] at h30
              first
              | contradiction
              | exact absurd trivial h30
              | exact absurd h30 (by decide)
              | exact absurd (Classical.not_not.mp h30) (by decide)
              | skip
                refine pr_seq (pc' := 74) 2 rfl ⟨⟨trivial, trivial⟩, trivial⟩ ?_
                try simp (disch := omega) only [e0, rI_mul, nI_add, nI_1, nI_clamp, pr_i_0, pr_i_1]
                refine pr_if rfl (fun h74 => ?_) (fun h74 => ?_)
                · simp only [ab_cmp, pr_i_0, pr_i_1] at h74
                  first
                  | contradiction
                  | exact absurd trivial h74
                  | exact absurd h74 (by decide)
                  | exact absurd (Classical.not_not.mp h74) (by decide)
                  | skip
                    refine pr_seq (pc' := 4) 5 rfl ⟨⟨⟨⟨⟨trivial, trivial⟩, trivial⟩, trivial⟩, trivial⟩, trivial⟩ ?_
                    try simp (disch := omega) only [e0, rI_mul, nI_add, nI_1, nI_clamp, pr_i_0, pr_i_1]
                    exact hh
                · simp only [ab_cmp, pr_i_0, pr_i_1] at h74
                  exact absurd rfl h74
            · simp only [ab_cmp, pr_i_0, pr_i_1] at h30
              exact absurd e2 h30
          | false =>
            cases c : nb (lal d k) k with
            | true =>
              have z := hlo.mpr c
              rw [cnt_s1 (show G k = true by rw [hGk, c1, c]; rfl), c1] at hh
              refine pr_seq (pc' := 27) 2 rfl ⟨⟨trivial, trivial⟩, (by first | decide | assumption)⟩ ?_
              try simp (disch := omega) only [rI_mul, nI_add, nI_1, nI_clamp, pr_i_0, pr_i_1]
              refine pr_cv [] rfl rfl rfl rfl rfl (Nat.le_of_ble_eq_true rfl) (by first | assumption | decide | (simp (disch := omega) only [rI_mul, nI_add, nI_1, nI_clamp, pr_i_0, pr_i_1]; first | assumption | exact ⟨Or.inl (by assumption), rvin (by assumption) (by omega) (by decide)⟩ | exact ⟨by assumption, rvin (by assumption) (by omega) (by decide)⟩ | exact ⟨⟨by omega, by omega⟩, rvin (by assumption) (by omega) (by decide)⟩ | exact ⟨Or.inl (by assumption), by assumption⟩ | exact ⟨Or.inr (by assumption), by assumption⟩ | exact ⟨by assumption, by assumption⟩ | decide | omega)) (Nat.le_of_ble_eq_true rfl) (hpe) ?_
              refine pr_ic rfl (fun h30 => ?_) (fun h30 => ?_)
              · simp only [ab_cmp, pr_i_0, pr_i_1] at h30
                first
                | contradiction
                | exact absurd trivial h30
                | exact absurd h30 (by decide)
                | exact absurd (Classical.not_not.mp h30) (by decide)
                | skip
                  refine pr_seq (pc' := 74) 2 rfl ⟨⟨trivial, trivial⟩, trivial⟩ ?_
                  try simp (disch := omega) only [rI_mul, nI_add, nI_1, nI_clamp, pr_i_0, pr_i_1]
                  refine pr_if rfl (fun h74 => ?_) (fun h74 => ?_)
                  · simp only [ab_cmp, pr_i_0, pr_i_1] at h74
                    exact absurd h74 (by decide)
                  · simp only [ab_cmp, pr_i_0, pr_i_1] at h74
                    first
                    | contradiction
                    | exact absurd trivial h74
                    | exact absurd h74 (by decide)
                    | exact absurd (Classical.not_not.mp h74) (by decide)
                    | skip
                      refine pr_seq (pc' := 84) 7 rfl ⟨⟨⟨⟨⟨⟨⟨trivial, trivial⟩, trivial⟩, trivial⟩, trivial⟩, trivial⟩, trivial⟩, trivial⟩ ?_
                      try simp (disch := omega) only [rI_mul, nI_add, nI_1, nI_clamp, pr_i_0, pr_i_1]
                      refine pr_if rfl (fun h84 => ?_) (fun h84 => ?_)
                      · simp only [ab_cmp, pr_i_0, pr_i_1] at h84
                        exact absurd z h84
                      · simp only [ab_cmp, pr_i_0, pr_i_1] at h84
                        first
                        | contradiction
                        | exact absurd trivial h84
                        | exact absurd h84 (by decide)
                        | exact absurd (Classical.not_not.mp h84) (by decide)
                        | skip
                          refine pr_seq (pc' := 4) 6 rfl ⟨⟨⟨⟨⟨⟨trivial, trivial⟩, trivial⟩, trivial⟩, trivial⟩, trivial⟩, trivial⟩ ?_
                          try simp (disch := omega) only [rI_mul, nI_add, nI_1, nI_clamp, pr_i_0, pr_i_1]
                          exact hh
              · simp only [ab_cmp, pr_i_0, pr_i_1] at h30
                exact absurd e2 h30
            | false =>
              have z : ¬ mk (lal d k) d.2.1.length &&& (bt1 k - 1) = 0 := fun q => by rw [hlo.mp q] at c; cases c
              rw [cnt_s0 (show G k = false by rw [hGk, c]; rfl), c1] at hh
              refine pr_seq (pc' := 27) 2 rfl ⟨⟨trivial, trivial⟩, (by first | decide | assumption)⟩ ?_
              try simp (disch := omega) only [e0, rI_mul, nI_add, nI_1, nI_clamp, pr_i_0, pr_i_1]
              refine pr_cv [] rfl rfl rfl rfl rfl (Nat.le_of_ble_eq_true rfl) (by first | assumption | decide | (simp (disch := omega) only [e0, rI_mul, nI_add, nI_1, nI_clamp, pr_i_0, pr_i_1]; first | assumption | exact ⟨Or.inl (by assumption), rvin (by assumption) (by omega) (by decide)⟩ | exact ⟨by assumption, rvin (by assumption) (by omega) (by decide)⟩ | exact ⟨⟨by omega, by omega⟩, rvin (by assumption) (by omega) (by decide)⟩ | exact ⟨Or.inl (by assumption), by assumption⟩ | exact ⟨Or.inr (by assumption), by assumption⟩ | exact ⟨by assumption, by assumption⟩ | decide | omega)) (Nat.le_of_ble_eq_true rfl) (hpe) ?_
              refine pr_ic rfl (fun h30 => ?_) (fun h30 => ?_)
              · simp only [ab_cmp, pr_i_0, pr_i_1] at h30
                first
                | contradiction
                | exact absurd trivial h30
                | exact absurd h30 (by decide)
                | exact absurd (Classical.not_not.mp h30) (by decide)
                | skip
                  refine pr_seq (pc' := 74) 2 rfl ⟨⟨trivial, trivial⟩, trivial⟩ ?_
                  try simp (disch := omega) only [e0, rI_mul, nI_add, nI_1, nI_clamp, pr_i_0, pr_i_1]
                  refine pr_if rfl (fun h74 => ?_) (fun h74 => ?_)
                  · simp only [ab_cmp, pr_i_0, pr_i_1] at h74
                    exact absurd h74 (by decide)
                  · simp only [ab_cmp, pr_i_0, pr_i_1] at h74
                    first
                    | contradiction
                    | exact absurd trivial h74
                    | exact absurd h74 (by decide)
                    | exact absurd (Classical.not_not.mp h74) (by decide)
                    | skip
                      refine pr_seq (pc' := 84) 7 rfl ⟨⟨⟨⟨⟨⟨⟨trivial, trivial⟩, trivial⟩, trivial⟩, trivial⟩, trivial⟩, trivial⟩, trivial⟩ ?_
                      try simp (disch := omega) only [e0, rI_mul, nI_add, nI_1, nI_clamp, pr_i_0, pr_i_1]
                      refine pr_if rfl (fun h84 => ?_) (fun h84 => ?_)
                      · simp only [ab_cmp, pr_i_0, pr_i_1] at h84
                        first
                        | contradiction
                        | exact absurd trivial h84
                        | exact absurd h84 (by decide)
                        | exact absurd (Classical.not_not.mp h84) (by decide)
                        | skip
                          refine pr_seq (pc' := 4) 5 rfl ⟨⟨⟨⟨⟨trivial, trivial⟩, trivial⟩, trivial⟩, trivial⟩, trivial⟩ ?_
                          try simp (disch := omega) only [e0, rI_mul, nI_add, nI_1, nI_clamp, pr_i_0, pr_i_1]
                          exact hh
                      · simp only [ab_cmp, pr_i_0, pr_i_1] at h84
                        exact absurd (Classical.not_not.mp h84) z
              · simp only [ab_cmp, pr_i_0, pr_i_1] at h30
                exact absurd e2 h30
        | succ ee ih2 =>
          intro j hj
          have e2 : ¬ nI d.2.1.length ≤ nI j := nI_ge (by omega) (by omega)
          have hj2 : j < d.2.1.length := by omega
          have hkj := q_kindOf h M hl hv hj2
          have hb := mk_bit (lal d k) (n := d.2.1.length) (p := j) (by omega) hj2
          have hh := ih2 (j + 1) (by omega)
          rw [nb_s] at hh
          have n1 : (1 : Int32) = nI 1 := rfl
          cases c0 : nb (fun q => lal d k q && decide (lK d q ≠ 1)) j with
          | false =>
            rw [c0] at hh
            refine pr_seq (pc' := 27) 2 rfl ⟨⟨trivial, trivial⟩, (by first | decide | assumption)⟩ ?_
            try simp (disch := omega) only [rI_mul, nI_add, nI_1, nI_clamp, pr_i_0, pr_i_1]
            refine pr_cv [] rfl rfl rfl rfl rfl (Nat.le_of_ble_eq_true rfl) (by first | assumption | decide | (simp (disch := omega) only [rI_mul, nI_add, nI_1, nI_clamp, pr_i_0, pr_i_1]; first | assumption | exact ⟨Or.inl (by assumption), rvin (by assumption) (by omega) (by decide)⟩ | exact ⟨by assumption, rvin (by assumption) (by omega) (by decide)⟩ | exact ⟨⟨by omega, by omega⟩, rvin (by assumption) (by omega) (by decide)⟩ | exact ⟨Or.inl (by assumption), by assumption⟩ | exact ⟨Or.inr (by assumption), by assumption⟩ | exact ⟨by assumption, by assumption⟩ | decide | omega)) (Nat.le_of_ble_eq_true rfl) (hpe) ?_
            refine pr_ic rfl (fun h30 => ?_) (fun h30 => ?_)
            · simp only [ab_cmp, pr_i_0, pr_i_1] at h30
              exact absurd h30 e2
            · simp only [ab_cmp, pr_i_0, pr_i_1] at h30
              first
              | contradiction
              | exact absurd trivial h30
              | exact absurd h30 (by decide)
              | exact absurd (Classical.not_not.mp h30) (by decide)
              | skip
                refine pr_seq (pc' := 35) 1 rfl ⟨trivial, trivial⟩ ?_
                try simp (disch := omega) only [rI_mul, nI_add, nI_1, nI_clamp, pr_i_0, pr_i_1]
                refine pr_if rfl (fun h35 => ?_) (fun h35 => ?_)
                · simp only [ab_cmp, pr_i_0, pr_i_1] at h35
                  first
                  | contradiction
                  | exact absurd trivial h35
                  | exact absurd h35 (by decide)
                  | exact absurd (Classical.not_not.mp h35) (by decide)
                  | skip
                    refine pr_seq (pc' := 24) 5 rfl ⟨⟨⟨⟨⟨trivial, trivial⟩, trivial⟩, trivial⟩, trivial⟩, trivial⟩ ?_
                    try simp (disch := omega) only [rI_mul, nI_add, nI_1, nI_clamp, pr_i_0, pr_i_1]
                    exact hh
                · simp only [ab_cmp, pr_i_0, pr_i_1] at h35
                  exact absurd h35 (by decide)
          | true =>
            rw [c0] at hh
            cases c2 : lal d k j with
            | false =>
              rw [c2] at hb
              have z : ¬ (mk (lal d k) d.2.1.length >>> (nI j &&& 31)) &&& 1 = 1 := by rw [hb]; decide
              rw [c2] at hh
              refine pr_seq (pc' := 27) 2 rfl ⟨⟨trivial, trivial⟩, (by first | decide | assumption)⟩ ?_
              try simp (disch := omega) only [rI_mul, nI_add, nI_1, nI_clamp, pr_i_0, pr_i_1]
              refine pr_cv [] rfl rfl rfl rfl rfl (Nat.le_of_ble_eq_true rfl) (by first | assumption | decide | (simp (disch := omega) only [rI_mul, nI_add, nI_1, nI_clamp, pr_i_0, pr_i_1]; first | assumption | exact ⟨Or.inl (by assumption), rvin (by assumption) (by omega) (by decide)⟩ | exact ⟨by assumption, rvin (by assumption) (by omega) (by decide)⟩ | exact ⟨⟨by omega, by omega⟩, rvin (by assumption) (by omega) (by decide)⟩ | exact ⟨Or.inl (by assumption), by assumption⟩ | exact ⟨Or.inr (by assumption), by assumption⟩ | exact ⟨by assumption, by assumption⟩ | decide | omega)) (Nat.le_of_ble_eq_true rfl) (hpe) ?_
              refine pr_ic rfl (fun h30 => ?_) (fun h30 => ?_)
              · simp only [ab_cmp, pr_i_0, pr_i_1] at h30
                exact absurd h30 e2
              · simp only [ab_cmp, pr_i_0, pr_i_1] at h30
                first
                | contradiction
                | exact absurd trivial h30
                | exact absurd h30 (by decide)
                | exact absurd (Classical.not_not.mp h30) (by decide)
                | skip
                  refine pr_seq (pc' := 35) 1 rfl ⟨trivial, trivial⟩ ?_
                  try simp (disch := omega) only [rI_mul, nI_add, nI_1, nI_clamp, pr_i_0, pr_i_1]
                  refine pr_if rfl (fun h35 => ?_) (fun h35 => ?_)
                  · simp only [ab_cmp, pr_i_0, pr_i_1] at h35
                    exact absurd rfl h35
                  · simp only [ab_cmp, pr_i_0, pr_i_1] at h35
                    first
                    | contradiction
                    | exact absurd trivial h35
                    | exact absurd h35 (by decide)
                    | exact absurd (Classical.not_not.mp h35) (by decide)
                    | skip
                      refine pr_seq (pc' := 45) 6 rfl ⟨⟨⟨⟨⟨⟨trivial, trivial⟩, trivial⟩, trivial⟩, trivial⟩, trivial⟩, trivial⟩ ?_
                      try simp (disch := omega) only [rI_mul, nI_add, nI_1, nI_clamp, pr_i_0, pr_i_1]
                      refine pr_ic rfl (fun h45 => ?_) (fun h45 => ?_)
                      · simp only [ab_cmp, pr_i_0, pr_i_1] at h45
                        first
                        | contradiction
                        | exact absurd trivial h45
                        | exact absurd h45 (by decide)
                        | exact absurd (Classical.not_not.mp h45) (by decide)
                        | skip
                          refine pr_seq (pc' := 24) 4 rfl ⟨⟨⟨⟨trivial, trivial⟩, trivial⟩, trivial⟩, trivial⟩ ?_
                          try simp (disch := omega) only [rI_mul, nI_add, nI_1, nI_clamp, pr_i_0, pr_i_1]
                          exact hh
                      · simp only [ab_cmp, pr_i_0, pr_i_1] at h45
                        exact absurd (Classical.not_not.mp h45) z
            | true =>
              rw [c2] at hb
              have z : (mk (lal d k) d.2.1.length >>> (nI j &&& 31)) &&& 1 = 1 := hb
              rw [c2] at hh
              by_cases c3 : lK d j = 1
              · have z2 : nI (d_pn d j).1 = 1 := by rw [show (d_pn d j).1 = 1 from c3]; rfl
                rw [decide_eq_false (fun q => q c3)] at hh
                refine pr_seq (pc' := 27) 2 rfl ⟨⟨trivial, trivial⟩, (by first | decide | assumption)⟩ ?_
                try simp (disch := omega) only [rI_mul, nI_add, nI_1, nI_clamp, pr_i_0, pr_i_1]
                refine pr_cv [] rfl rfl rfl rfl rfl (Nat.le_of_ble_eq_true rfl) (by first | assumption | decide | (simp (disch := omega) only [rI_mul, nI_add, nI_1, nI_clamp, pr_i_0, pr_i_1]; first | assumption | exact ⟨Or.inl (by assumption), rvin (by assumption) (by omega) (by decide)⟩ | exact ⟨by assumption, rvin (by assumption) (by omega) (by decide)⟩ | exact ⟨⟨by omega, by omega⟩, rvin (by assumption) (by omega) (by decide)⟩ | exact ⟨Or.inl (by assumption), by assumption⟩ | exact ⟨Or.inr (by assumption), by assumption⟩ | exact ⟨by assumption, by assumption⟩ | decide | omega)) (Nat.le_of_ble_eq_true rfl) (hpe) ?_
                refine pr_ic rfl (fun h30 => ?_) (fun h30 => ?_)
                · simp only [ab_cmp, pr_i_0, pr_i_1] at h30
                  exact absurd h30 e2
                · simp only [ab_cmp, pr_i_0, pr_i_1] at h30
                  first
                  | contradiction
                  | exact absurd trivial h30
                  | exact absurd h30 (by decide)
                  | exact absurd (Classical.not_not.mp h30) (by decide)
                  | skip
                    refine pr_seq (pc' := 35) 1 rfl ⟨trivial, trivial⟩ ?_
                    try simp (disch := omega) only [rI_mul, nI_add, nI_1, nI_clamp, pr_i_0, pr_i_1]
                    refine pr_if rfl (fun h35 => ?_) (fun h35 => ?_)
                    · simp only [ab_cmp, pr_i_0, pr_i_1] at h35
                      exact absurd rfl h35
                    · simp only [ab_cmp, pr_i_0, pr_i_1] at h35
                      first
                      | contradiction
                      | exact absurd trivial h35
                      | exact absurd h35 (by decide)
                      | exact absurd (Classical.not_not.mp h35) (by decide)
                      | skip
                        refine pr_seq (pc' := 45) 6 rfl ⟨⟨⟨⟨⟨⟨trivial, trivial⟩, trivial⟩, trivial⟩, trivial⟩, trivial⟩, trivial⟩ ?_
                        try simp (disch := omega) only [rI_mul, nI_add, nI_1, nI_clamp, pr_i_0, pr_i_1]
                        refine pr_ic rfl (fun h45 => ?_) (fun h45 => ?_)
                        · simp only [ab_cmp, pr_i_0, pr_i_1] at h45
                          exact absurd z h45
                        · simp only [ab_cmp, pr_i_0, pr_i_1] at h45
                          first
                          | contradiction
                          | exact absurd trivial h45
                          | exact absurd h45 (by decide)
                          | exact absurd (Classical.not_not.mp h45) (by decide)
                          | skip
                            refine pr_seq (pc' := 51) 2 rfl ⟨⟨trivial, (by first | decide | assumption)⟩, trivial⟩ ?_
                            try simp (disch := omega) only [rI_mul, nI_add, nI_1, nI_clamp, pr_i_0, pr_i_1]
                            refine pr_cv [_] rfl rfl rfl rfl rfl (Nat.le_of_ble_eq_true rfl) (by first | assumption | decide | (simp (disch := omega) only [rI_mul, nI_add, nI_1, nI_clamp, pr_i_0, pr_i_1]; first | assumption | exact ⟨Or.inl (by assumption), rvin (by assumption) (by omega) (by decide)⟩ | exact ⟨by assumption, rvin (by assumption) (by omega) (by decide)⟩ | exact ⟨⟨by omega, by omega⟩, rvin (by assumption) (by omega) (by decide)⟩ | exact ⟨Or.inl (by assumption), by assumption⟩ | exact ⟨Or.inr (by assumption), by assumption⟩ | exact ⟨by assumption, by assumption⟩ | decide | omega)) (Nat.le_of_ble_eq_true rfl) (hkj) ?_
                            refine pr_seq (pc' := 55) 1 rfl ⟨trivial, trivial⟩ ?_
                            try simp (disch := omega) only [rI_mul, nI_add, nI_1, nI_clamp, pr_i_0, pr_i_1]
                            refine pr_ic rfl (fun h55 => ?_) (fun h55 => ?_)
                            · simp only [ab_cmp, pr_i_0, pr_i_1] at h55
                              first
                              | contradiction
                              | exact absurd trivial h55
                              | exact absurd h55 (by decide)
                              | exact absurd (Classical.not_not.mp h55) (by decide)
                              | skip
                                refine pr_seq (pc' := 24) 4 rfl ⟨⟨⟨⟨trivial, trivial⟩, trivial⟩, trivial⟩, trivial⟩ ?_
                                try simp (disch := omega) only [rI_mul, nI_add, nI_1, nI_clamp, pr_i_0, pr_i_1]
                                exact hh
                            · simp only [ab_cmp, pr_i_0, pr_i_1] at h55
                              exact absurd z2 h55
              · have z2 : ¬ nI (d_pn d j).1 = 1 := nI_ne (b := 1) c3 (by have := (g8 j hj2).2.1; omega) (by decide)
                rw [decide_eq_true (show lK d j ≠ 1 from c3)] at hh
                refine pr_seq (pc' := 27) 2 rfl ⟨⟨trivial, trivial⟩, (by first | decide | assumption)⟩ ?_
                try simp (disch := omega) only [rI_mul, nI_add, nI_1, nI_clamp, pr_i_0, pr_i_1]
                refine pr_cv [] rfl rfl rfl rfl rfl (Nat.le_of_ble_eq_true rfl) (by first | assumption | decide | (simp (disch := omega) only [rI_mul, nI_add, nI_1, nI_clamp, pr_i_0, pr_i_1]; first | assumption | exact ⟨Or.inl (by assumption), rvin (by assumption) (by omega) (by decide)⟩ | exact ⟨by assumption, rvin (by assumption) (by omega) (by decide)⟩ | exact ⟨⟨by omega, by omega⟩, rvin (by assumption) (by omega) (by decide)⟩ | exact ⟨Or.inl (by assumption), by assumption⟩ | exact ⟨Or.inr (by assumption), by assumption⟩ | exact ⟨by assumption, by assumption⟩ | decide | omega)) (Nat.le_of_ble_eq_true rfl) (hpe) ?_
                refine pr_ic rfl (fun h30 => ?_) (fun h30 => ?_)
                · simp only [ab_cmp, pr_i_0, pr_i_1] at h30
                  exact absurd h30 e2
                · simp only [ab_cmp, pr_i_0, pr_i_1] at h30
                  first
                  | contradiction
                  | exact absurd trivial h30
                  | exact absurd h30 (by decide)
                  | exact absurd (Classical.not_not.mp h30) (by decide)
                  | skip
                    refine pr_seq (pc' := 35) 1 rfl ⟨trivial, trivial⟩ ?_
                    try simp (disch := omega) only [rI_mul, nI_add, nI_1, nI_clamp, pr_i_0, pr_i_1]
                    refine pr_if rfl (fun h35 => ?_) (fun h35 => ?_)
                    · simp only [ab_cmp, pr_i_0, pr_i_1] at h35
                      exact absurd rfl h35
                    · simp only [ab_cmp, pr_i_0, pr_i_1] at h35
                      first
                      | contradiction
                      | exact absurd trivial h35
                      | exact absurd h35 (by decide)
                      | exact absurd (Classical.not_not.mp h35) (by decide)
                      | skip
                        refine pr_seq (pc' := 45) 6 rfl ⟨⟨⟨⟨⟨⟨trivial, trivial⟩, trivial⟩, trivial⟩, trivial⟩, trivial⟩, trivial⟩ ?_
                        try simp (disch := omega) only [rI_mul, nI_add, nI_1, nI_clamp, pr_i_0, pr_i_1]
                        refine pr_ic rfl (fun h45 => ?_) (fun h45 => ?_)
                        · simp only [ab_cmp, pr_i_0, pr_i_1] at h45
                          exact absurd z h45
                        · simp only [ab_cmp, pr_i_0, pr_i_1] at h45
                          first
                          | contradiction
                          | exact absurd trivial h45
                          | exact absurd h45 (by decide)
                          | exact absurd (Classical.not_not.mp h45) (by decide)
                          | skip
                            refine pr_seq (pc' := 51) 2 rfl ⟨⟨trivial, (by first | decide | assumption)⟩, trivial⟩ ?_
                            try simp (disch := omega) only [rI_mul, nI_add, nI_1, nI_clamp, pr_i_0, pr_i_1]
                            refine pr_cv [_] rfl rfl rfl rfl rfl (Nat.le_of_ble_eq_true rfl) (by first | assumption | decide | (simp (disch := omega) only [rI_mul, nI_add, nI_1, nI_clamp, pr_i_0, pr_i_1]; first | assumption | exact ⟨Or.inl (by assumption), rvin (by assumption) (by omega) (by decide)⟩ | exact ⟨by assumption, rvin (by assumption) (by omega) (by decide)⟩ | exact ⟨⟨by omega, by omega⟩, rvin (by assumption) (by omega) (by decide)⟩ | exact ⟨Or.inl (by assumption), by assumption⟩ | exact ⟨Or.inr (by assumption), by assumption⟩ | exact ⟨by assumption, by assumption⟩ | decide | omega)) (Nat.le_of_ble_eq_true rfl) (hkj) ?_
                            refine pr_seq (pc' := 55) 1 rfl ⟨trivial, trivial⟩ ?_
                            try simp (disch := omega) only [rI_mul, nI_add, nI_1, nI_clamp, pr_i_0, pr_i_1]
                            refine pr_ic rfl (fun h55 => ?_) (fun h55 => ?_)
                            · simp only [ab_cmp, pr_i_0, pr_i_1] at h55
                              exact absurd h55 z2
                            · simp only [ab_cmp, pr_i_0, pr_i_1] at h55
                              first
                              | contradiction
                              | exact absurd trivial h55
                              | exact absurd h55 (by decide)
                              | exact absurd (Classical.not_not.mp h55) (by decide)
                              | skip
                                refine pr_seq (pc' := 24) 5 rfl ⟨⟨⟨⟨⟨trivial, trivial⟩, trivial⟩, trivial⟩, trivial⟩, trivial⟩ ?_
                                try simp (disch := omega) only [rI_mul, nI_add, nI_1, nI_clamp, pr_i_0, pr_i_1]
                                exact hh
      have h0 := inner d.2.1.length 0 (by omega)
      refine pr_seq (pc' := 6) 2 rfl ⟨⟨trivial, trivial⟩, (by first | decide | assumption)⟩ ?_
      try simp (disch := omega) only [rI_mul, nI_add, nI_1, nI_clamp, pr_i_0, pr_i_1]
      refine pr_cv [] rfl rfl rfl rfl rfl (Nat.le_of_ble_eq_true rfl) (by first | assumption | decide | (simp (disch := omega) only [rI_mul, nI_add, nI_1, nI_clamp, pr_i_0, pr_i_1]; first | assumption | exact ⟨Or.inl (by assumption), rvin (by assumption) (by omega) (by decide)⟩ | exact ⟨by assumption, rvin (by assumption) (by omega) (by decide)⟩ | exact ⟨⟨by omega, by omega⟩, rvin (by assumption) (by omega) (by decide)⟩ | exact ⟨Or.inl (by assumption), by assumption⟩ | exact ⟨Or.inr (by assumption), by assumption⟩ | exact ⟨by assumption, by assumption⟩ | decide | omega)) (Nat.le_of_ble_eq_true rfl) (hpe) ?_
      refine pr_ic rfl (fun h9 => ?_) (fun h9 => ?_)
      · simp only [ab_cmp, pr_i_0, pr_i_1] at h9
        exact absurd h9 e1
      · simp only [ab_cmp, pr_i_0, pr_i_1] at h9
        first
        | contradiction
        | exact absurd trivial h9
        | exact absurd h9 (by decide)
        | exact absurd (Classical.not_not.mp h9) (by decide)
        | skip
          refine pr_seq (pc' := 14) 2 rfl ⟨⟨trivial, (by first | decide | assumption)⟩, trivial⟩ ?_
          try simp (disch := omega) only [rI_mul, nI_add, nI_1, nI_clamp, pr_i_0, pr_i_1]
          refine pr_cv [_] rfl rfl rfl rfl rfl (Nat.le_of_ble_eq_true rfl) (by first | assumption | decide | (simp (disch := omega) only [rI_mul, nI_add, nI_1, nI_clamp, pr_i_0, pr_i_1]; first | assumption | exact ⟨Or.inl (by assumption), rvin (by assumption) (by omega) (by decide)⟩ | exact ⟨by assumption, rvin (by assumption) (by omega) (by decide)⟩ | exact ⟨⟨by omega, by omega⟩, rvin (by assumption) (by omega) (by decide)⟩ | exact ⟨Or.inl (by assumption), by assumption⟩ | exact ⟨Or.inr (by assumption), by assumption⟩ | exact ⟨by assumption, by assumption⟩ | decide | omega)) (Nat.le_of_ble_eq_true rfl) (hpo) ?_
          refine pr_seq (pc' := 24) 5 rfl ⟨⟨⟨⟨⟨trivial, trivial⟩, trivial⟩, trivial⟩, trivial⟩, trivial⟩ ?_
          try simp (disch := omega) only [rI_mul, nI_add, nI_1, nI_clamp, pr_i_0, pr_i_1]
          exact h0
  refine pr_seq (pc' := 4) 4 rfl ⟨⟨⟨⟨trivial, trivial⟩, trivial⟩, trivial⟩, trivial⟩ ?_
  exact loop d.2.1.length 0 (by omega) _ _ _
theorem q_atSum {d : Ld} (x : Int32) (h : ab_H) (M : ab_M) (hl : rL h M.2.2) (hv : pg_r (M.1 173) d) : pr_C pX11_atSum [.ref 172, .int x] h M (some (.int (mk (fun q => decide (lK d q ≠ 4) && decide (lS d q = x)) d.2.1.length))) h M := by
  obtain ⟨k172, rS, rLs, rKn, rPg, rRl, rRk, rTp, rCu, rLe, rLt, rSm, rIk, rLn, rLg, rCe, ⟨kS, nS⟩, ⟨kLs, nLs⟩, ⟨kKn, nKn⟩, ⟨kPg, nPg⟩, ⟨kRl, nRl⟩, ⟨kRk, nRk⟩, ⟨kTp, nTp⟩, ⟨kCu, nCu⟩, ⟨kLe, nLe⟩, ⟨kLt, nLt⟩, ⟨kSm, nSm⟩, ⟨kIk, nIk⟩, ⟨kLn, nLn⟩, ⟨kLg, nLg⟩, kCe, nCe⟩ := id hl
  obtain ⟨g1, g2, g3, g4, g5, ⟨g6, g6'⟩, g7, g8⟩ := id hv
  have hpe := q_people h M hl hv
  have n3 : (4 : Int32) = nI 4 := rfl
  have loop : ∀ dd k, k + dd = d.2.1.length → pr_E pX11_atSum 4 [some (.ref 172), some (.int x), some (.int (mk (fun q => decide (lK d q ≠ 4) && decide (lS d q = x)) k)), some (.int (nI k))] [] h M (some (.int (mk (fun q => decide (lK d q ≠ 4) && decide (lS d q = x)) d.2.1.length))) h M := by
    intro dd
    induction dd with
    | zero =>
      intro k hk
      obtain rfl : k = d.2.1.length := by omega
      have e1 : nI d.2.1.length ≤ nI d.2.1.length := nI_le (Nat.le_refl _) (by omega)
      refine pr_seq (pc' := 6) 2 rfl ⟨⟨trivial, trivial⟩, (by first | decide | assumption)⟩ ?_
      try simp (disch := omega) only [rI_mul, nI_add, nI_1, nI_clamp, pr_i_0, pr_i_1, pr_i_4]
      refine pr_cv [] rfl rfl rfl rfl rfl (Nat.le_of_ble_eq_true rfl) (by first | assumption | decide | (simp (disch := omega) only [rI_mul, nI_add, nI_1, nI_clamp, pr_i_0, pr_i_1, pr_i_4]; first | assumption | exact ⟨Or.inl (by assumption), rvin (by assumption) (by omega) (by decide)⟩ | exact ⟨by assumption, rvin (by assumption) (by omega) (by decide)⟩ | exact ⟨⟨by omega, by omega⟩, rvin (by assumption) (by omega) (by decide)⟩ | exact ⟨Or.inl (by assumption), by assumption⟩ | exact ⟨Or.inr (by assumption), by assumption⟩ | exact ⟨by assumption, by assumption⟩ | decide | omega)) (Nat.le_of_ble_eq_true rfl) (hpe) ?_
      refine pr_ic rfl (fun h9 => ?_) (fun h9 => ?_)
      · simp only [ab_cmp, pr_i_0, pr_i_1, pr_i_4] at h9
        first
        | contradiction
        | exact absurd trivial h9
        | exact absurd h9 (by decide)
        | exact absurd (Classical.not_not.mp h9) (by decide)
        | skip
          refine pr_seq (pc' := 47) 1 rfl ⟨trivial, trivial⟩ ?_
          try simp (disch := omega) only [rI_mul, nI_add, nI_1, nI_clamp, pr_i_0, pr_i_1, pr_i_4]
          exact pr_irM rfl (by rfl) trivial (by rfl)
      · simp only [ab_cmp, pr_i_0, pr_i_1, pr_i_4] at h9
        exact absurd e1 h9
    | succ dd ih =>
      intro k hk
      have e1 : ¬ nI d.2.1.length ≤ nI k := nI_ge (by omega) (by omega)
      have hk2 : k < d.2.1.length := by omega
      have hkk := q_kindOf h M hl hv hk2
      have hsk := q_sumOf h M hl hv hk2
      have hh := ih (k + 1) (by omega)
      have e0 : mk (fun q => decide (lK d q ≠ 4) && decide (lS d q = x)) k ||| 0 = mk (fun q => decide (lK d q ≠ 4) && decide (lS d q = x)) k := Int32.or_zero
      by_cases c1 : lK d k = 4
      · have z1 : nI (d_pn d k).1 = 4 := by rw [show (d_pn d k).1 = 4 from c1]; rfl
        rw [mk_s0 (f := fun q => decide (lK d q ≠ 4) && decide (lS d q = x)) (by rw [decide_eq_false (fun q => q c1)]; rfl)] at hh
        refine pr_seq (pc' := 6) 2 rfl ⟨⟨trivial, trivial⟩, (by first | decide | assumption)⟩ ?_
        try simp (disch := omega) only [e0, rI_mul, nI_add, nI_1, nI_clamp, pr_i_0, pr_i_1, pr_i_4]
        refine pr_cv [] rfl rfl rfl rfl rfl (Nat.le_of_ble_eq_true rfl) (by first | assumption | decide | (simp (disch := omega) only [e0, rI_mul, nI_add, nI_1, nI_clamp, pr_i_0, pr_i_1, pr_i_4]; first | assumption | exact ⟨Or.inl (by assumption), rvin (by assumption) (by omega) (by decide)⟩ | exact ⟨by assumption, rvin (by assumption) (by omega) (by decide)⟩ | exact ⟨⟨by omega, by omega⟩, rvin (by assumption) (by omega) (by decide)⟩ | exact ⟨Or.inl (by assumption), by assumption⟩ | exact ⟨Or.inr (by assumption), by assumption⟩ | exact ⟨by assumption, by assumption⟩ | decide | omega)) (Nat.le_of_ble_eq_true rfl) (hpe) ?_
        refine pr_ic rfl (fun h9 => ?_) (fun h9 => ?_)
        · simp only [ab_cmp, pr_i_0, pr_i_1, pr_i_4] at h9
          exact absurd h9 e1
        · simp only [ab_cmp, pr_i_0, pr_i_1, pr_i_4] at h9
          first
          | contradiction
          | exact absurd trivial h9
          | exact absurd h9 (by decide)
          | exact absurd (Classical.not_not.mp h9) (by decide)
          | skip
            refine pr_seq (pc' := 15) 3 rfl ⟨⟨⟨trivial, trivial⟩, (by first | decide | assumption)⟩, trivial⟩ ?_
            try simp (disch := omega) only [e0, rI_mul, nI_add, nI_1, nI_clamp, pr_i_0, pr_i_1, pr_i_4]
            refine pr_cv [_] rfl rfl rfl rfl rfl (Nat.le_of_ble_eq_true rfl) (by first | assumption | decide | (simp (disch := omega) only [e0, rI_mul, nI_add, nI_1, nI_clamp, pr_i_0, pr_i_1, pr_i_4]; first | assumption | exact ⟨Or.inl (by assumption), rvin (by assumption) (by omega) (by decide)⟩ | exact ⟨by assumption, rvin (by assumption) (by omega) (by decide)⟩ | exact ⟨⟨by omega, by omega⟩, rvin (by assumption) (by omega) (by decide)⟩ | exact ⟨Or.inl (by assumption), by assumption⟩ | exact ⟨Or.inr (by assumption), by assumption⟩ | exact ⟨by assumption, by assumption⟩ | decide | omega)) (Nat.le_of_ble_eq_true rfl) (hkk) ?_
            refine pr_seq (pc' := 19) 1 rfl ⟨trivial, trivial⟩ ?_
            try simp (disch := omega) only [e0, rI_mul, nI_add, nI_1, nI_clamp, pr_i_0, pr_i_1, pr_i_4]
            refine pr_ic rfl (fun h19 => ?_) (fun h19 => ?_)
            · simp only [ab_cmp, pr_i_0, pr_i_1, pr_i_4] at h19
              first
              | contradiction
              | exact absurd trivial h19
              | exact absurd h19 (by decide)
              | exact absurd (Classical.not_not.mp h19) (by decide)
              | skip
                refine pr_seq (pc' := 4) 5 rfl ⟨⟨⟨⟨⟨trivial, trivial⟩, trivial⟩, trivial⟩, trivial⟩, trivial⟩ ?_
                try simp (disch := omega) only [e0, rI_mul, nI_add, nI_1, nI_clamp, pr_i_0, pr_i_1, pr_i_4]
                exact hh
            · simp only [ab_cmp, pr_i_0, pr_i_1, pr_i_4] at h19
              exact absurd z1 h19
      · have z1 : ¬ nI (d_pn d k).1 = 4 := nI_ne (b := 4) c1 (by have := (g8 k hk2).2.1; omega) (by decide)
        by_cases c2 : lS d k = x
        · rw [mk_s1 (f := fun q => decide (lK d q ≠ 4) && decide (lS d q = x)) (by rw [decide_eq_true (show lK d k ≠ 4 from c1), decide_eq_true c2]; rfl)] at hh
          refine pr_seq (pc' := 6) 2 rfl ⟨⟨trivial, trivial⟩, (by first | decide | assumption)⟩ ?_
          try simp (disch := omega) only [rI_mul, nI_add, nI_1, nI_clamp, pr_i_0, pr_i_1, pr_i_4]
          refine pr_cv [] rfl rfl rfl rfl rfl (Nat.le_of_ble_eq_true rfl) (by first | assumption | decide | (simp (disch := omega) only [rI_mul, nI_add, nI_1, nI_clamp, pr_i_0, pr_i_1, pr_i_4]; first | assumption | exact ⟨Or.inl (by assumption), rvin (by assumption) (by omega) (by decide)⟩ | exact ⟨by assumption, rvin (by assumption) (by omega) (by decide)⟩ | exact ⟨⟨by omega, by omega⟩, rvin (by assumption) (by omega) (by decide)⟩ | exact ⟨Or.inl (by assumption), by assumption⟩ | exact ⟨Or.inr (by assumption), by assumption⟩ | exact ⟨by assumption, by assumption⟩ | decide | omega)) (Nat.le_of_ble_eq_true rfl) (hpe) ?_
          refine pr_ic rfl (fun h9 => ?_) (fun h9 => ?_)
          · simp only [ab_cmp, pr_i_0, pr_i_1, pr_i_4] at h9
            exact absurd h9 e1
          · simp only [ab_cmp, pr_i_0, pr_i_1, pr_i_4] at h9
            first
            | contradiction
            | exact absurd trivial h9
            | exact absurd h9 (by decide)
            | exact absurd (Classical.not_not.mp h9) (by decide)
            | skip
              refine pr_seq (pc' := 15) 3 rfl ⟨⟨⟨trivial, trivial⟩, (by first | decide | assumption)⟩, trivial⟩ ?_
              try simp (disch := omega) only [rI_mul, nI_add, nI_1, nI_clamp, pr_i_0, pr_i_1, pr_i_4]
              refine pr_cv [_] rfl rfl rfl rfl rfl (Nat.le_of_ble_eq_true rfl) (by first | assumption | decide | (simp (disch := omega) only [rI_mul, nI_add, nI_1, nI_clamp, pr_i_0, pr_i_1, pr_i_4]; first | assumption | exact ⟨Or.inl (by assumption), rvin (by assumption) (by omega) (by decide)⟩ | exact ⟨by assumption, rvin (by assumption) (by omega) (by decide)⟩ | exact ⟨⟨by omega, by omega⟩, rvin (by assumption) (by omega) (by decide)⟩ | exact ⟨Or.inl (by assumption), by assumption⟩ | exact ⟨Or.inr (by assumption), by assumption⟩ | exact ⟨by assumption, by assumption⟩ | decide | omega)) (Nat.le_of_ble_eq_true rfl) (hkk) ?_
              refine pr_seq (pc' := 19) 1 rfl ⟨trivial, trivial⟩ ?_
              try simp (disch := omega) only [rI_mul, nI_add, nI_1, nI_clamp, pr_i_0, pr_i_1, pr_i_4]
              refine pr_ic rfl (fun h19 => ?_) (fun h19 => ?_)
              · simp only [ab_cmp, pr_i_0, pr_i_1, pr_i_4] at h19
                exact absurd h19 z1
              · simp only [ab_cmp, pr_i_0, pr_i_1, pr_i_4] at h19
                first
                | contradiction
                | exact absurd trivial h19
                | exact absurd h19 (by decide)
                | exact absurd (Classical.not_not.mp h19) (by decide)
                | skip
                  refine pr_seq (pc' := 24) 2 rfl ⟨⟨trivial, (by first | decide | assumption)⟩, trivial⟩ ?_
                  try simp (disch := omega) only [rI_mul, nI_add, nI_1, nI_clamp, pr_i_0, pr_i_1, pr_i_4]
                  refine pr_cv [_] rfl rfl rfl rfl rfl (Nat.le_of_ble_eq_true rfl) (by first | assumption | decide | (simp (disch := omega) only [rI_mul, nI_add, nI_1, nI_clamp, pr_i_0, pr_i_1, pr_i_4]; first | assumption | exact ⟨Or.inl (by assumption), rvin (by assumption) (by omega) (by decide)⟩ | exact ⟨by assumption, rvin (by assumption) (by omega) (by decide)⟩ | exact ⟨⟨by omega, by omega⟩, rvin (by assumption) (by omega) (by decide)⟩ | exact ⟨Or.inl (by assumption), by assumption⟩ | exact ⟨Or.inr (by assumption), by assumption⟩ | exact ⟨by assumption, by assumption⟩ | decide | omega)) (Nat.le_of_ble_eq_true rfl) (hsk) ?_
                  refine pr_seq (pc' := 28) 1 rfl ⟨trivial, trivial⟩ ?_
                  try simp (disch := omega) only [rI_mul, nI_add, nI_1, nI_clamp, pr_i_0, pr_i_1, pr_i_4]
                  refine pr_ic rfl (fun h28 => ?_) (fun h28 => ?_)
                  · simp only [ab_cmp, pr_i_0, pr_i_1, pr_i_4] at h28
                    exact absurd c2 h28
                  · simp only [ab_cmp, pr_i_0, pr_i_1, pr_i_4] at h28
                    first
                    | contradiction
                    | exact absurd trivial h28
                    | exact absurd h28 (by decide)
                    | exact absurd (Classical.not_not.mp h28) (by decide)
                    | skip
                      refine pr_seq (pc' := 4) 8 rfl ⟨⟨⟨⟨⟨⟨⟨⟨trivial, trivial⟩, trivial⟩, trivial⟩, trivial⟩, trivial⟩, trivial⟩, trivial⟩, trivial⟩ ?_
                      try simp (disch := omega) only [rI_mul, nI_add, nI_1, nI_clamp, pr_i_0, pr_i_1, pr_i_4]
                      exact hh
        · rw [mk_s0 (f := fun q => decide (lK d q ≠ 4) && decide (lS d q = x)) (by rw [decide_eq_false c2, Bool.and_false])] at hh
          refine pr_seq (pc' := 6) 2 rfl ⟨⟨trivial, trivial⟩, (by first | decide | assumption)⟩ ?_
          try simp (disch := omega) only [e0, rI_mul, nI_add, nI_1, nI_clamp, pr_i_0, pr_i_1, pr_i_4]
          refine pr_cv [] rfl rfl rfl rfl rfl (Nat.le_of_ble_eq_true rfl) (by first | assumption | decide | (simp (disch := omega) only [e0, rI_mul, nI_add, nI_1, nI_clamp, pr_i_0, pr_i_1, pr_i_4]; first | assumption | exact ⟨Or.inl (by assumption), rvin (by assumption) (by omega) (by decide)⟩ | exact ⟨by assumption, rvin (by assumption) (by omega) (by decide)⟩ | exact ⟨⟨by omega, by omega⟩, rvin (by assumption) (by omega) (by decide)⟩ | exact ⟨Or.inl (by assumption), by assumption⟩ | exact ⟨Or.inr (by assumption), by assumption⟩ | exact ⟨by assumption, by assumption⟩ | decide | omega)) (Nat.le_of_ble_eq_true rfl) (hpe) ?_
          refine pr_ic rfl (fun h9 => ?_) (fun h9 => ?_)
          · simp only [ab_cmp, pr_i_0, pr_i_1, pr_i_4] at h9
            exact absurd h9 e1
          · simp only [ab_cmp, pr_i_0, pr_i_1, pr_i_4] at h9
            first
            | contradiction
            | exact absurd trivial h9
            | exact absurd h9 (by decide)
            | exact absurd (Classical.not_not.mp h9) (by decide)
            | skip
              refine pr_seq (pc' := 15) 3 rfl ⟨⟨⟨trivial, trivial⟩, (by first | decide | assumption)⟩, trivial⟩ ?_
              try simp (disch := omega) only [e0, rI_mul, nI_add, nI_1, nI_clamp, pr_i_0, pr_i_1, pr_i_4]
              refine pr_cv [_] rfl rfl rfl rfl rfl (Nat.le_of_ble_eq_true rfl) (by first | assumption | decide | (simp (disch := omega) only [e0, rI_mul, nI_add, nI_1, nI_clamp, pr_i_0, pr_i_1, pr_i_4]; first | assumption | exact ⟨Or.inl (by assumption), rvin (by assumption) (by omega) (by decide)⟩ | exact ⟨by assumption, rvin (by assumption) (by omega) (by decide)⟩ | exact ⟨⟨by omega, by omega⟩, rvin (by assumption) (by omega) (by decide)⟩ | exact ⟨Or.inl (by assumption), by assumption⟩ | exact ⟨Or.inr (by assumption), by assumption⟩ | exact ⟨by assumption, by assumption⟩ | decide | omega)) (Nat.le_of_ble_eq_true rfl) (hkk) ?_
              refine pr_seq (pc' := 19) 1 rfl ⟨trivial, trivial⟩ ?_
              try simp (disch := omega) only [e0, rI_mul, nI_add, nI_1, nI_clamp, pr_i_0, pr_i_1, pr_i_4]
              refine pr_ic rfl (fun h19 => ?_) (fun h19 => ?_)
              · simp only [ab_cmp, pr_i_0, pr_i_1, pr_i_4] at h19
                exact absurd h19 z1
              · simp only [ab_cmp, pr_i_0, pr_i_1, pr_i_4] at h19
                first
                | contradiction
                | exact absurd trivial h19
                | exact absurd h19 (by decide)
                | exact absurd (Classical.not_not.mp h19) (by decide)
                | skip
                  refine pr_seq (pc' := 24) 2 rfl ⟨⟨trivial, (by first | decide | assumption)⟩, trivial⟩ ?_
                  try simp (disch := omega) only [e0, rI_mul, nI_add, nI_1, nI_clamp, pr_i_0, pr_i_1, pr_i_4]
                  refine pr_cv [_] rfl rfl rfl rfl rfl (Nat.le_of_ble_eq_true rfl) (by first | assumption | decide | (simp (disch := omega) only [e0, rI_mul, nI_add, nI_1, nI_clamp, pr_i_0, pr_i_1, pr_i_4]; first | assumption | exact ⟨Or.inl (by assumption), rvin (by assumption) (by omega) (by decide)⟩ | exact ⟨by assumption, rvin (by assumption) (by omega) (by decide)⟩ | exact ⟨⟨by omega, by omega⟩, rvin (by assumption) (by omega) (by decide)⟩ | exact ⟨Or.inl (by assumption), by assumption⟩ | exact ⟨Or.inr (by assumption), by assumption⟩ | exact ⟨by assumption, by assumption⟩ | decide | omega)) (Nat.le_of_ble_eq_true rfl) (hsk) ?_
                  refine pr_seq (pc' := 28) 1 rfl ⟨trivial, trivial⟩ ?_
                  try simp (disch := omega) only [e0, rI_mul, nI_add, nI_1, nI_clamp, pr_i_0, pr_i_1, pr_i_4]
                  refine pr_ic rfl (fun h28 => ?_) (fun h28 => ?_)
                  · simp only [ab_cmp, pr_i_0, pr_i_1, pr_i_4] at h28
                    first
                    | contradiction
                    | exact absurd trivial h28
                    | exact absurd h28 (by decide)
                    | exact absurd (Classical.not_not.mp h28) (by decide)
                    | skip
                      refine pr_seq (pc' := 4) 5 rfl ⟨⟨⟨⟨⟨trivial, trivial⟩, trivial⟩, trivial⟩, trivial⟩, trivial⟩ ?_
                      try simp (disch := omega) only [e0, rI_mul, nI_add, nI_1, nI_clamp, pr_i_0, pr_i_1, pr_i_4]
                      exact hh
                  · simp only [ab_cmp, pr_i_0, pr_i_1, pr_i_4] at h28
                    exact absurd (Classical.not_not.mp h28) c2
  refine pr_seq (pc' := 4) 4 rfl ⟨⟨⟨⟨trivial, trivial⟩, trivial⟩, trivial⟩, trivial⟩ ?_
  exact loop d.2.1.length 0 (by omega)
theorem q_heirs1 {d : Ld} (x : Int32) (h : ab_H) (M : ab_M) (hl : rL h M.2.2) (hv : pg_r (M.1 173) d) (hx : 0 ≤ x) : pr_C pX11_heirs [.ref 172, .int x] h M (some (.int (mk (fun q => decide (lK d q ≠ 1) && decide (lS d q = x)) d.2.1.length))) h M := by
  obtain ⟨k172, rS, rLs, rKn, rPg, rRl, rRk, rTp, rCu, rLe, rLt, rSm, rIk, rLn, rLg, rCe, ⟨kS, nS⟩, ⟨kLs, nLs⟩, ⟨kKn, nKn⟩, ⟨kPg, nPg⟩, ⟨kRl, nRl⟩, ⟨kRk, nRk⟩, ⟨kTp, nTp⟩, ⟨kCu, nCu⟩, ⟨kLe, nLe⟩, ⟨kLt, nLt⟩, ⟨kSm, nSm⟩, ⟨kIk, nIk⟩, ⟨kLn, nLn⟩, ⟨kLg, nLg⟩, kCe, nCe⟩ := id hl
  obtain ⟨g1, g2, g3, g4, g5, ⟨g6, g6'⟩, g7, g8⟩ := id hv
  have hpe := q_people h M hl hv
  have n3 : (1 : Int32) = nI 1 := rfl
  have loop : ∀ dd k, k + dd = d.2.1.length → pr_E pX11_heirs 10 [some (.ref 172), some (.int x), some (.int (mk (fun q => decide (lK d q ≠ 1) && decide (lS d q = x)) k)), some (.int (nI k))] [] h M (some (.int (mk (fun q => decide (lK d q ≠ 1) && decide (lS d q = x)) d.2.1.length))) h M := by
    intro dd
    induction dd with
    | zero =>
      intro k hk
      obtain rfl : k = d.2.1.length := by omega
      have e1 : nI d.2.1.length ≤ nI d.2.1.length := nI_le (Nat.le_refl _) (by omega)
      refine pr_seq (pc' := 12) 2 rfl ⟨⟨trivial, trivial⟩, (by first | decide | assumption)⟩ ?_
      try simp (disch := omega) only [rI_mul, nI_add, nI_1, nI_clamp, pr_i_0, pr_i_1, pr_i_m1]
      refine pr_cv [] rfl rfl rfl rfl rfl (Nat.le_of_ble_eq_true rfl) (by first | assumption | decide | (simp (disch := omega) only [rI_mul, nI_add, nI_1, nI_clamp, pr_i_0, pr_i_1, pr_i_m1]; first | assumption | exact ⟨Or.inl (by assumption), rvin (by assumption) (by omega) (by decide)⟩ | exact ⟨by assumption, rvin (by assumption) (by omega) (by decide)⟩ | exact ⟨⟨by omega, by omega⟩, rvin (by assumption) (by omega) (by decide)⟩ | exact ⟨Or.inl (by assumption), by assumption⟩ | exact ⟨Or.inr (by assumption), by assumption⟩ | exact ⟨by assumption, by assumption⟩ | decide | omega)) (Nat.le_of_ble_eq_true rfl) (hpe) ?_
      refine pr_ic rfl (fun h15 => ?_) (fun h15 => ?_)
      · simp only [ab_cmp, pr_i_0, pr_i_1, pr_i_m1] at h15
        first
        | contradiction
        | exact absurd trivial h15
        | exact absurd h15 (by decide)
        | exact absurd (Classical.not_not.mp h15) (by decide)
        | skip
          refine pr_seq (pc' := 53) 1 rfl ⟨trivial, trivial⟩ ?_
          try simp (disch := omega) only [rI_mul, nI_add, nI_1, nI_clamp, pr_i_0, pr_i_1, pr_i_m1]
          exact pr_irM rfl (by rfl) trivial (by rfl)
      · simp only [ab_cmp, pr_i_0, pr_i_1, pr_i_m1] at h15
        exact absurd e1 h15
    | succ dd ih =>
      intro k hk
      have e1 : ¬ nI d.2.1.length ≤ nI k := nI_ge (by omega) (by omega)
      have hk2 : k < d.2.1.length := by omega
      have hkk := q_kindOf h M hl hv hk2
      have hsk := q_sumOf h M hl hv hk2
      have hh := ih (k + 1) (by omega)
      have e0 : mk (fun q => decide (lK d q ≠ 1) && decide (lS d q = x)) k ||| 0 = mk (fun q => decide (lK d q ≠ 1) && decide (lS d q = x)) k := Int32.or_zero
      by_cases c1 : lK d k = 1
      · have z1 : nI (d_pn d k).1 = 1 := by rw [show (d_pn d k).1 = 1 from c1]; rfl
        rw [mk_s0 (f := fun q => decide (lK d q ≠ 1) && decide (lS d q = x)) (by rw [decide_eq_false (fun q => q c1)]; rfl)] at hh
        refine pr_seq (pc' := 12) 2 rfl ⟨⟨trivial, trivial⟩, (by first | decide | assumption)⟩ ?_
        try simp (disch := omega) only [e0, rI_mul, nI_add, nI_1, nI_clamp, pr_i_0, pr_i_1, pr_i_m1]
        refine pr_cv [] rfl rfl rfl rfl rfl (Nat.le_of_ble_eq_true rfl) (by first | assumption | decide | (simp (disch := omega) only [e0, rI_mul, nI_add, nI_1, nI_clamp, pr_i_0, pr_i_1, pr_i_m1]; first | assumption | exact ⟨Or.inl (by assumption), rvin (by assumption) (by omega) (by decide)⟩ | exact ⟨by assumption, rvin (by assumption) (by omega) (by decide)⟩ | exact ⟨⟨by omega, by omega⟩, rvin (by assumption) (by omega) (by decide)⟩ | exact ⟨Or.inl (by assumption), by assumption⟩ | exact ⟨Or.inr (by assumption), by assumption⟩ | exact ⟨by assumption, by assumption⟩ | decide | omega)) (Nat.le_of_ble_eq_true rfl) (hpe) ?_
        refine pr_ic rfl (fun h15 => ?_) (fun h15 => ?_)
        · simp only [ab_cmp, pr_i_0, pr_i_1, pr_i_m1] at h15
          exact absurd h15 e1
        · simp only [ab_cmp, pr_i_0, pr_i_1, pr_i_m1] at h15
          first
          | contradiction
          | exact absurd trivial h15
          | exact absurd h15 (by decide)
          | exact absurd (Classical.not_not.mp h15) (by decide)
          | skip
            refine pr_seq (pc' := 21) 3 rfl ⟨⟨⟨trivial, trivial⟩, (by first | decide | assumption)⟩, trivial⟩ ?_
            try simp (disch := omega) only [e0, rI_mul, nI_add, nI_1, nI_clamp, pr_i_0, pr_i_1, pr_i_m1]
            refine pr_cv [_] rfl rfl rfl rfl rfl (Nat.le_of_ble_eq_true rfl) (by first | assumption | decide | (simp (disch := omega) only [e0, rI_mul, nI_add, nI_1, nI_clamp, pr_i_0, pr_i_1, pr_i_m1]; first | assumption | exact ⟨Or.inl (by assumption), rvin (by assumption) (by omega) (by decide)⟩ | exact ⟨by assumption, rvin (by assumption) (by omega) (by decide)⟩ | exact ⟨⟨by omega, by omega⟩, rvin (by assumption) (by omega) (by decide)⟩ | exact ⟨Or.inl (by assumption), by assumption⟩ | exact ⟨Or.inr (by assumption), by assumption⟩ | exact ⟨by assumption, by assumption⟩ | decide | omega)) (Nat.le_of_ble_eq_true rfl) (hkk) ?_
            refine pr_seq (pc' := 25) 1 rfl ⟨trivial, trivial⟩ ?_
            try simp (disch := omega) only [e0, rI_mul, nI_add, nI_1, nI_clamp, pr_i_0, pr_i_1, pr_i_m1]
            refine pr_ic rfl (fun h25 => ?_) (fun h25 => ?_)
            · simp only [ab_cmp, pr_i_0, pr_i_1, pr_i_m1] at h25
              first
              | contradiction
              | exact absurd trivial h25
              | exact absurd h25 (by decide)
              | exact absurd (Classical.not_not.mp h25) (by decide)
              | skip
                refine pr_seq (pc' := 10) 5 rfl ⟨⟨⟨⟨⟨trivial, trivial⟩, trivial⟩, trivial⟩, trivial⟩, trivial⟩ ?_
                try simp (disch := omega) only [e0, rI_mul, nI_add, nI_1, nI_clamp, pr_i_0, pr_i_1, pr_i_m1]
                exact hh
            · simp only [ab_cmp, pr_i_0, pr_i_1, pr_i_m1] at h25
              exact absurd z1 h25
      · have z1 : ¬ nI (d_pn d k).1 = 1 := nI_ne (b := 1) c1 (by have := (g8 k hk2).2.1; omega) (by decide)
        by_cases c2 : lS d k = x
        · rw [mk_s1 (f := fun q => decide (lK d q ≠ 1) && decide (lS d q = x)) (by rw [decide_eq_true (show lK d k ≠ 1 from c1), decide_eq_true c2]; rfl)] at hh
          refine pr_seq (pc' := 12) 2 rfl ⟨⟨trivial, trivial⟩, (by first | decide | assumption)⟩ ?_
          try simp (disch := omega) only [rI_mul, nI_add, nI_1, nI_clamp, pr_i_0, pr_i_1, pr_i_m1]
          refine pr_cv [] rfl rfl rfl rfl rfl (Nat.le_of_ble_eq_true rfl) (by first | assumption | decide | (simp (disch := omega) only [rI_mul, nI_add, nI_1, nI_clamp, pr_i_0, pr_i_1, pr_i_m1]; first | assumption | exact ⟨Or.inl (by assumption), rvin (by assumption) (by omega) (by decide)⟩ | exact ⟨by assumption, rvin (by assumption) (by omega) (by decide)⟩ | exact ⟨⟨by omega, by omega⟩, rvin (by assumption) (by omega) (by decide)⟩ | exact ⟨Or.inl (by assumption), by assumption⟩ | exact ⟨Or.inr (by assumption), by assumption⟩ | exact ⟨by assumption, by assumption⟩ | decide | omega)) (Nat.le_of_ble_eq_true rfl) (hpe) ?_
          refine pr_ic rfl (fun h15 => ?_) (fun h15 => ?_)
          · simp only [ab_cmp, pr_i_0, pr_i_1, pr_i_m1] at h15
            exact absurd h15 e1
          · simp only [ab_cmp, pr_i_0, pr_i_1, pr_i_m1] at h15
            first
            | contradiction
            | exact absurd trivial h15
            | exact absurd h15 (by decide)
            | exact absurd (Classical.not_not.mp h15) (by decide)
            | skip
              refine pr_seq (pc' := 21) 3 rfl ⟨⟨⟨trivial, trivial⟩, (by first | decide | assumption)⟩, trivial⟩ ?_
              try simp (disch := omega) only [rI_mul, nI_add, nI_1, nI_clamp, pr_i_0, pr_i_1, pr_i_m1]
              refine pr_cv [_] rfl rfl rfl rfl rfl (Nat.le_of_ble_eq_true rfl) (by first | assumption | decide | (simp (disch := omega) only [rI_mul, nI_add, nI_1, nI_clamp, pr_i_0, pr_i_1, pr_i_m1]; first | assumption | exact ⟨Or.inl (by assumption), rvin (by assumption) (by omega) (by decide)⟩ | exact ⟨by assumption, rvin (by assumption) (by omega) (by decide)⟩ | exact ⟨⟨by omega, by omega⟩, rvin (by assumption) (by omega) (by decide)⟩ | exact ⟨Or.inl (by assumption), by assumption⟩ | exact ⟨Or.inr (by assumption), by assumption⟩ | exact ⟨by assumption, by assumption⟩ | decide | omega)) (Nat.le_of_ble_eq_true rfl) (hkk) ?_
              refine pr_seq (pc' := 25) 1 rfl ⟨trivial, trivial⟩ ?_
              try simp (disch := omega) only [rI_mul, nI_add, nI_1, nI_clamp, pr_i_0, pr_i_1, pr_i_m1]
              refine pr_ic rfl (fun h25 => ?_) (fun h25 => ?_)
              · simp only [ab_cmp, pr_i_0, pr_i_1, pr_i_m1] at h25
                exact absurd h25 z1
              · simp only [ab_cmp, pr_i_0, pr_i_1, pr_i_m1] at h25
                first
                | contradiction
                | exact absurd trivial h25
                | exact absurd h25 (by decide)
                | exact absurd (Classical.not_not.mp h25) (by decide)
                | skip
                  refine pr_seq (pc' := 30) 2 rfl ⟨⟨trivial, (by first | decide | assumption)⟩, trivial⟩ ?_
                  try simp (disch := omega) only [rI_mul, nI_add, nI_1, nI_clamp, pr_i_0, pr_i_1, pr_i_m1]
                  refine pr_cv [_] rfl rfl rfl rfl rfl (Nat.le_of_ble_eq_true rfl) (by first | assumption | decide | (simp (disch := omega) only [rI_mul, nI_add, nI_1, nI_clamp, pr_i_0, pr_i_1, pr_i_m1]; first | assumption | exact ⟨Or.inl (by assumption), rvin (by assumption) (by omega) (by decide)⟩ | exact ⟨by assumption, rvin (by assumption) (by omega) (by decide)⟩ | exact ⟨⟨by omega, by omega⟩, rvin (by assumption) (by omega) (by decide)⟩ | exact ⟨Or.inl (by assumption), by assumption⟩ | exact ⟨Or.inr (by assumption), by assumption⟩ | exact ⟨by assumption, by assumption⟩ | decide | omega)) (Nat.le_of_ble_eq_true rfl) (hsk) ?_
                  refine pr_seq (pc' := 34) 1 rfl ⟨trivial, trivial⟩ ?_
                  try simp (disch := omega) only [rI_mul, nI_add, nI_1, nI_clamp, pr_i_0, pr_i_1, pr_i_m1]
                  refine pr_ic rfl (fun h34 => ?_) (fun h34 => ?_)
                  · simp only [ab_cmp, pr_i_0, pr_i_1, pr_i_m1] at h34
                    exact absurd c2 h34
                  · simp only [ab_cmp, pr_i_0, pr_i_1, pr_i_m1] at h34
                    first
                    | contradiction
                    | exact absurd trivial h34
                    | exact absurd h34 (by decide)
                    | exact absurd (Classical.not_not.mp h34) (by decide)
                    | skip
                      refine pr_seq (pc' := 10) 8 rfl ⟨⟨⟨⟨⟨⟨⟨⟨trivial, trivial⟩, trivial⟩, trivial⟩, trivial⟩, trivial⟩, trivial⟩, trivial⟩, trivial⟩ ?_
                      try simp (disch := omega) only [rI_mul, nI_add, nI_1, nI_clamp, pr_i_0, pr_i_1, pr_i_m1]
                      exact hh
        · rw [mk_s0 (f := fun q => decide (lK d q ≠ 1) && decide (lS d q = x)) (by rw [decide_eq_false c2, Bool.and_false])] at hh
          refine pr_seq (pc' := 12) 2 rfl ⟨⟨trivial, trivial⟩, (by first | decide | assumption)⟩ ?_
          try simp (disch := omega) only [e0, rI_mul, nI_add, nI_1, nI_clamp, pr_i_0, pr_i_1, pr_i_m1]
          refine pr_cv [] rfl rfl rfl rfl rfl (Nat.le_of_ble_eq_true rfl) (by first | assumption | decide | (simp (disch := omega) only [e0, rI_mul, nI_add, nI_1, nI_clamp, pr_i_0, pr_i_1, pr_i_m1]; first | assumption | exact ⟨Or.inl (by assumption), rvin (by assumption) (by omega) (by decide)⟩ | exact ⟨by assumption, rvin (by assumption) (by omega) (by decide)⟩ | exact ⟨⟨by omega, by omega⟩, rvin (by assumption) (by omega) (by decide)⟩ | exact ⟨Or.inl (by assumption), by assumption⟩ | exact ⟨Or.inr (by assumption), by assumption⟩ | exact ⟨by assumption, by assumption⟩ | decide | omega)) (Nat.le_of_ble_eq_true rfl) (hpe) ?_
          refine pr_ic rfl (fun h15 => ?_) (fun h15 => ?_)
          · simp only [ab_cmp, pr_i_0, pr_i_1, pr_i_m1] at h15
            exact absurd h15 e1
          · simp only [ab_cmp, pr_i_0, pr_i_1, pr_i_m1] at h15
            first
            | contradiction
            | exact absurd trivial h15
            | exact absurd h15 (by decide)
            | exact absurd (Classical.not_not.mp h15) (by decide)
            | skip
              refine pr_seq (pc' := 21) 3 rfl ⟨⟨⟨trivial, trivial⟩, (by first | decide | assumption)⟩, trivial⟩ ?_
              try simp (disch := omega) only [e0, rI_mul, nI_add, nI_1, nI_clamp, pr_i_0, pr_i_1, pr_i_m1]
              refine pr_cv [_] rfl rfl rfl rfl rfl (Nat.le_of_ble_eq_true rfl) (by first | assumption | decide | (simp (disch := omega) only [e0, rI_mul, nI_add, nI_1, nI_clamp, pr_i_0, pr_i_1, pr_i_m1]; first | assumption | exact ⟨Or.inl (by assumption), rvin (by assumption) (by omega) (by decide)⟩ | exact ⟨by assumption, rvin (by assumption) (by omega) (by decide)⟩ | exact ⟨⟨by omega, by omega⟩, rvin (by assumption) (by omega) (by decide)⟩ | exact ⟨Or.inl (by assumption), by assumption⟩ | exact ⟨Or.inr (by assumption), by assumption⟩ | exact ⟨by assumption, by assumption⟩ | decide | omega)) (Nat.le_of_ble_eq_true rfl) (hkk) ?_
              refine pr_seq (pc' := 25) 1 rfl ⟨trivial, trivial⟩ ?_
              try simp (disch := omega) only [e0, rI_mul, nI_add, nI_1, nI_clamp, pr_i_0, pr_i_1, pr_i_m1]
              refine pr_ic rfl (fun h25 => ?_) (fun h25 => ?_)
              · simp only [ab_cmp, pr_i_0, pr_i_1, pr_i_m1] at h25
                exact absurd h25 z1
              · simp only [ab_cmp, pr_i_0, pr_i_1, pr_i_m1] at h25
                first
                | contradiction
                | exact absurd trivial h25
                | exact absurd h25 (by decide)
                | exact absurd (Classical.not_not.mp h25) (by decide)
                | skip
                  refine pr_seq (pc' := 30) 2 rfl ⟨⟨trivial, (by first | decide | assumption)⟩, trivial⟩ ?_
                  try simp (disch := omega) only [e0, rI_mul, nI_add, nI_1, nI_clamp, pr_i_0, pr_i_1, pr_i_m1]
                  refine pr_cv [_] rfl rfl rfl rfl rfl (Nat.le_of_ble_eq_true rfl) (by first | assumption | decide | (simp (disch := omega) only [e0, rI_mul, nI_add, nI_1, nI_clamp, pr_i_0, pr_i_1, pr_i_m1]; first | assumption | exact ⟨Or.inl (by assumption), rvin (by assumption) (by omega) (by decide)⟩ | exact ⟨by assumption, rvin (by assumption) (by omega) (by decide)⟩ | exact ⟨⟨by omega, by omega⟩, rvin (by assumption) (by omega) (by decide)⟩ | exact ⟨Or.inl (by assumption), by assumption⟩ | exact ⟨Or.inr (by assumption), by assumption⟩ | exact ⟨by assumption, by assumption⟩ | decide | omega)) (Nat.le_of_ble_eq_true rfl) (hsk) ?_
                  refine pr_seq (pc' := 34) 1 rfl ⟨trivial, trivial⟩ ?_
                  try simp (disch := omega) only [e0, rI_mul, nI_add, nI_1, nI_clamp, pr_i_0, pr_i_1, pr_i_m1]
                  refine pr_ic rfl (fun h34 => ?_) (fun h34 => ?_)
                  · simp only [ab_cmp, pr_i_0, pr_i_1, pr_i_m1] at h34
                    first
                    | contradiction
                    | exact absurd trivial h34
                    | exact absurd h34 (by decide)
                    | exact absurd (Classical.not_not.mp h34) (by decide)
                    | skip
                      refine pr_seq (pc' := 10) 5 rfl ⟨⟨⟨⟨⟨trivial, trivial⟩, trivial⟩, trivial⟩, trivial⟩, trivial⟩ ?_
                      try simp (disch := omega) only [e0, rI_mul, nI_add, nI_1, nI_clamp, pr_i_0, pr_i_1, pr_i_m1]
                      exact hh
                  · simp only [ab_cmp, pr_i_0, pr_i_1, pr_i_m1] at h34
                    exact absurd (Classical.not_not.mp h34) c2
  refine pr_seq (pc' := 1) 1 rfl ⟨trivial, trivial⟩ ?_
  try simp (disch := omega) only [rI_mul, nI_add, nI_1, nI_clamp, pr_i_0, pr_i_1, pr_i_m1]
  refine pr_if rfl (fun h1 => ?_) (fun h1 => ?_)
  · simp only [ab_cmp, pr_i_0, pr_i_1, pr_i_m1] at h1
    first
    | contradiction
    | exact absurd trivial h1
    | exact absurd h1 (by decide)
    | exact absurd (Classical.not_not.mp h1) (by decide)
    | skip
      refine pr_seq (pc' := 10) 4 rfl ⟨⟨⟨⟨trivial, trivial⟩, trivial⟩, trivial⟩, trivial⟩ ?_
      try simp (disch := omega) only [rI_mul, nI_add, nI_1, nI_clamp, pr_i_0, pr_i_1, pr_i_m1]
      exact loop d.2.1.length 0 (by omega)
  · simp only [ab_cmp, pr_i_0, pr_i_1, pr_i_m1] at h1
    exact absurd hx h1
theorem i32_ge (x : Int32) : (0 ≤ x) ↔ ¬ x < 0 := by
  rw [Int32.le_iff_toInt_le, Int32.lt_iff_toInt_lt]
  omega
theorem r_heirs {X : St} (x : Int32) (h : ab_H) (M : ab_M) (hl : rL h M.2.2) (hv : rv M.1 X) : pr_X pX11_heirs [.ref 172, .int x] h M (rp M (f_heirs X x, X)) := by
  have h2 : x_n X ≤ 8 := hv.1.2.1
  unfold f_heirs
  by_cases c : x < 0
  · rw [if_pos c]
    have c' : ¬ 0 ≤ x := fun q => (i32_ge x).mp q c
    refine pr_ofC ?_ (rp_s hv)
    refine pr_seq (pc' := 1) 1 rfl ⟨trivial, trivial⟩ ?_
    refine pr_if rfl (fun h1 => ?_) (fun h1 => ?_)
    · simp only [ab_cmp, pr_i_0, pr_i_1, pr_i_m1] at h1
      exact absurd h1 c'
    · simp only [ab_cmp, pr_i_0, pr_i_1, pr_i_m1] at h1
      first
      | contradiction
      | exact absurd trivial h1
      | exact absurd h1 (by decide)
      | exact absurd (Classical.not_not.mp h1) (by decide)
      | skip
        refine pr_seq (pc' := 5) 1 rfl ⟨trivial, trivial⟩ ?_
        exact pr_irM rfl (by first | rfl | (simp [pr_b, pr_i_0, pr_i_1, pr_i_m1, *]; done) | (simp_all [pr_b, pr_i_0, pr_i_1, pr_i_m1]; done)) trivial (by rfl)
  · rw [if_neg c]
    refine pr_ofC (q_heirs1 x h M hl hv.1 ((i32_ge x).mpr c)) ?_
    rw [mk_and _ _ (by omega), mk_congr (f := fun i => decide (x_S X i = x) && decide (x_K X i ≠ 1)) (g := fun q => decide (lK X.1.1 q ≠ 1) && decide (lS X.1.1 q = x)) _ (fun i _ => Bool.and_comm _ _)]
    exact rp_s hv
theorem r_persons {X : St} (h : ab_H) (M : ab_M) (hl : rL h M.2.2) (hv : rv M.1 X) : pr_X pX11_persons [.ref 172] h M (rp M (f_persons X, X)) := pr_ofC (q_persons h M hl hv.1) (rp_s hv)
theorem r_lone {X : St} (h : ab_H) (M : ab_M) (hl : rL h M.2.2) (hv : rv M.1 X) : pr_X pX11_lone [.ref 172] h M (rp M (f_lone X, X)) := pr_ofC (q_lone h M hl hv.1) (rp_s hv)
theorem r_votes {X : St} (h : ab_H) (M : ab_M) (hl : rL h M.2.2) (hv : rv M.1 X) : pr_X pX11_votes [.ref 172] h M (rp M (f_votes X, X)) := pr_ofC (q_votes h M hl hv.1) (rp_s hv)
theorem r_fault {X : St} (h : ab_H) (M : ab_M) (hl : rL h M.2.2) (hv : rv M.1 X) : pr_X pX11_fault [.ref 172] h M (rp M (nI X.2.2.2.2.1, X)) := by
  have k172 := hl.1
  have e := hv.2.2.2.2.2.2.1
  refine pr_ofC ?_ (rp_s hv)
  refine pr_seq (pc' := 4) 2 rfl ⟨⟨trivial, (by first | assumption | (simp only [e]; first | assumption | decide | exact ⟨by assumption, by assumption⟩ | exact ⟨Or.inl (by assumption), by assumption⟩ | omega) | decide | exact ⟨Or.inl (by assumption), by assumption⟩ | exact ⟨by assumption, by assumption⟩ | omega)⟩, (by first | assumption | (simp only [e]; first | assumption | decide | exact ⟨by assumption, by assumption⟩ | exact ⟨Or.inl (by assumption), by assumption⟩ | omega) | decide | exact ⟨Or.inl (by assumption), by assumption⟩ | exact ⟨by assumption, by assumption⟩ | omega)⟩ ?_
  try simp only [e]
  exact pr_irM rfl (by first | rfl | (simp only [e]; done) | (simp [pr_b, *]; done) | (simp_all [pr_b]; done)) trivial (by rfl)
theorem r_torn {X : St} (h : ab_H) (M : ab_M) (hl : rL h M.2.2) (hv : rv M.1 X) : pr_X pX11_torn [.ref 172] h M (rp M (nI X.2.2.2.2.2, X)) := by
  have k172 := hl.1
  have e := hv.2.2.2.2.2.2.2.1
  refine pr_ofC ?_ (rp_s hv)
  refine pr_seq (pc' := 4) 2 rfl ⟨⟨trivial, (by first | assumption | (simp only [e]; first | assumption | decide | exact ⟨by assumption, by assumption⟩ | exact ⟨Or.inl (by assumption), by assumption⟩ | omega) | decide | exact ⟨Or.inl (by assumption), by assumption⟩ | exact ⟨by assumption, by assumption⟩ | omega)⟩, (by first | assumption | (simp only [e]; first | assumption | decide | exact ⟨by assumption, by assumption⟩ | exact ⟨Or.inl (by assumption), by assumption⟩ | omega) | decide | exact ⟨Or.inl (by assumption), by assumption⟩ | exact ⟨by assumption, by assumption⟩ | omega)⟩ ?_
  try simp only [e]
  exact pr_irM rfl (by first | rfl | (simp only [e]; done) | (simp [pr_b, *]; done) | (simp_all [pr_b]; done)) trivial (by rfl)
theorem r_sum {X : St} (x : Int32) (h : ab_H) (M : ab_M) (hl : rL h M.2.2) (hv : rv M.1 X) : pr_X pX11_sum [.ref 172, .int x] h M (rp M (if ixb x (x_n X) = true then nI (d_S X.1.1 x.toNatClampNeg) else -1, X)) := by
  have k172 := hl.1
  have h8 : x_n X ≤ 8 := hv.1.2.1
  have hi := q_isOne x h M hl hv.1
  refine pr_ofC ?_ (rp_s hv)
  rcases pr_ix x (show x_n X ≤ 1000000 by omega) with q | ⟨j, hj, rfl, q⟩
  · rw [show ixb x (x_n X) = false from q] at hi ⊢
    refine pr_seq (pc' := 2) 2 rfl ⟨⟨trivial, (by first | assumption | decide | exact ⟨Or.inl (by assumption), by assumption⟩ | exact ⟨by assumption, by assumption⟩ | omega)⟩, trivial⟩ ?_
    refine pr_cv [_] rfl rfl rfl rfl rfl (Nat.le_of_ble_eq_true rfl) (by first | assumption | decide | exact ⟨Or.inl (by assumption), by assumption⟩ | exact ⟨by assumption, by assumption⟩ | omega) (Nat.le_of_ble_eq_true rfl) (hi) ?_
    refine pr_if rfl (fun h5 => ?_) (fun h5 => ?_)
    · simp only [ab_cmp, pr_i_m1] at h5
      first
      | contradiction
      | exact absurd trivial h5
      | exact absurd h5 (by decide)
      | exact absurd (Classical.not_not.mp h5) (by decide)
      | skip
        refine pr_seq (pc' := 17) 1 rfl ⟨trivial, trivial⟩ ?_
        exact pr_irM rfl (by first | rfl | (simp [pr_b, pr_i_m1, *]; done) | (simp_all [pr_b, pr_i_m1]; done)) trivial (by rfl)
    · simp only [ab_cmp, pr_i_m1] at h5
      first
      | contradiction
      | exact absurd trivial h5
      | exact absurd h5 (by decide)
      | exact absurd (Classical.not_not.mp h5) (by decide)
      | skip
        refine pr_seq (pc' := 10) 2 rfl ⟨⟨trivial, (by first | assumption | decide | exact ⟨Or.inl (by assumption), by assumption⟩ | exact ⟨by assumption, by assumption⟩ | omega)⟩, trivial⟩ ?_
        fail "no call@10 yX11_sumOf"
  · rw [show ixb (nI j) (x_n X) = true from q] at hi ⊢
    rw [if_pos rfl, nI_clamp (by omega)]
    refine pr_seq (pc' := 2) 2 rfl ⟨⟨trivial, (by first | assumption | decide | exact ⟨Or.inl (by assumption), by assumption⟩ | exact ⟨by assumption, by assumption⟩ | omega)⟩, trivial⟩ ?_
    refine pr_cv [_] rfl rfl rfl rfl rfl (Nat.le_of_ble_eq_true rfl) (by first | assumption | decide | exact ⟨Or.inl (by assumption), by assumption⟩ | exact ⟨by assumption, by assumption⟩ | omega) (Nat.le_of_ble_eq_true rfl) (hi) ?_
    refine pr_if rfl (fun h5 => ?_) (fun h5 => ?_)
    · simp only [ab_cmp, pr_i_m1] at h5
      first
      | contradiction
      | exact absurd trivial h5
      | exact absurd h5 (by decide)
      | exact absurd (Classical.not_not.mp h5) (by decide)
      | skip
        refine pr_seq (pc' := 17) 1 rfl ⟨trivial, trivial⟩ ?_
        exact pr_irM rfl (by rfl) trivial (by rfl)
    · simp only [ab_cmp, pr_i_m1] at h5
      first
      | contradiction
      | exact absurd trivial h5
      | exact absurd h5 (by decide)
      | exact absurd (Classical.not_not.mp h5) (by decide)
      | skip
        refine pr_seq (pc' := 10) 2 rfl ⟨⟨trivial, (by first | assumption | decide | exact ⟨Or.inl (by assumption), by assumption⟩ | exact ⟨by assumption, by assumption⟩ | omega)⟩, trivial⟩ ?_
        refine pr_cv [_] rfl rfl rfl rfl rfl (Nat.le_of_ble_eq_true rfl) (by first | assumption | decide | exact ⟨Or.inl (by assumption), by assumption⟩ | exact ⟨by assumption, by assumption⟩ | omega) (Nat.le_of_ble_eq_true rfl) (q_sumOf h M hl hv.1 hj) ?_
        refine pr_seq (pc' := 17) 1 rfl ⟨trivial, trivial⟩ ?_
        exact pr_irM rfl (by rfl) trivial (by rfl)
theorem r_person {X : St} (x : Int32) (h : ab_H) (M : ab_M) (hl : rL h M.2.2) (hv : rv M.1 X) : pr_X pX11_person [.ref 172, .int x] h M (rp M (f_person X x, X)) := by
  have k172 := hl.1
  have h8 : x_n X ≤ 8 := hv.1.2.1
  have hi := q_isOne x h M hl hv.1
  refine pr_ofC ?_ (rp_s hv)
  unfold f_person
  rcases pr_ix x (show x_n X ≤ 1000000 by omega) with q | ⟨j, hj, rfl, q⟩
  · rw [show ixb x (x_n X) = false from q] at hi ⊢
    refine pr_seq (pc' := 2) 2 rfl ⟨⟨trivial, (by first | assumption | decide | exact ⟨Or.inl (by assumption), by assumption⟩ | exact ⟨by assumption, by assumption⟩ | omega)⟩, trivial⟩ ?_
    refine pr_cv [_] rfl rfl rfl rfl rfl (Nat.le_of_ble_eq_true rfl) (by first | assumption | decide | exact ⟨Or.inl (by assumption), by assumption⟩ | exact ⟨by assumption, by assumption⟩ | omega) (Nat.le_of_ble_eq_true rfl) (hi) ?_
    refine pr_if rfl (fun h5 => ?_) (fun h5 => ?_)
    · simp only [ab_cmp, pr_i_m1] at h5
      first
      | contradiction
      | exact absurd trivial h5
      | exact absurd h5 (by decide)
      | exact absurd (Classical.not_not.mp h5) (by decide)
      | skip
        refine pr_seq (pc' := 17) 1 rfl ⟨trivial, trivial⟩ ?_
        exact pr_irM rfl (by first | rfl | (simp [pr_b, pr_i_m1, *]; done) | (simp_all [pr_b, pr_i_m1]; done)) trivial (by rfl)
    · simp only [ab_cmp, pr_i_m1] at h5
      first
      | contradiction
      | exact absurd trivial h5
      | exact absurd h5 (by decide)
      | exact absurd (Classical.not_not.mp h5) (by decide)
      | skip
        refine pr_seq (pc' := 10) 2 rfl ⟨⟨trivial, (by first | assumption | decide | exact ⟨Or.inl (by assumption), by assumption⟩ | exact ⟨by assumption, by assumption⟩ | omega)⟩, trivial⟩ ?_
        fail "no call@10 yX11_personOf"
  · rw [show ixb (nI j) (x_n X) = true from q] at hi ⊢
    rw [if_pos rfl, nI_clamp (by omega)]
    refine pr_seq (pc' := 2) 2 rfl ⟨⟨trivial, (by first | assumption | decide | exact ⟨Or.inl (by assumption), by assumption⟩ | exact ⟨by assumption, by assumption⟩ | omega)⟩, trivial⟩ ?_
    refine pr_cv [_] rfl rfl rfl rfl rfl (Nat.le_of_ble_eq_true rfl) (by first | assumption | decide | exact ⟨Or.inl (by assumption), by assumption⟩ | exact ⟨by assumption, by assumption⟩ | omega) (Nat.le_of_ble_eq_true rfl) (hi) ?_
    refine pr_if rfl (fun h5 => ?_) (fun h5 => ?_)
    · simp only [ab_cmp, pr_i_m1] at h5
      first
      | contradiction
      | exact absurd trivial h5
      | exact absurd h5 (by decide)
      | exact absurd (Classical.not_not.mp h5) (by decide)
      | skip
        refine pr_seq (pc' := 17) 1 rfl ⟨trivial, trivial⟩ ?_
        exact pr_irM rfl (by rfl) trivial (by rfl)
    · simp only [ab_cmp, pr_i_m1] at h5
      first
      | contradiction
      | exact absurd trivial h5
      | exact absurd h5 (by decide)
      | exact absurd (Classical.not_not.mp h5) (by decide)
      | skip
        refine pr_seq (pc' := 10) 2 rfl ⟨⟨trivial, (by first | assumption | decide | exact ⟨Or.inl (by assumption), by assumption⟩ | exact ⟨by assumption, by assumption⟩ | omega)⟩, trivial⟩ ?_
        refine pr_cv [_] rfl rfl rfl rfl rfl (Nat.le_of_ble_eq_true rfl) (by first | assumption | decide | exact ⟨Or.inl (by assumption), by assumption⟩ | exact ⟨by assumption, by assumption⟩ | omega) (Nat.le_of_ble_eq_true rfl) (q_personOf h M hl hv.1 hj) ?_
        refine pr_seq (pc' := 17) 1 rfl ⟨trivial, trivial⟩ ?_
        exact pr_irM rfl (by rfl) trivial (by rfl)
theorem r_owes {X : St} (x : Int32) (h : ab_H) (M : ab_M) (hl : rL h M.2.2) (hv : rv M.1 X) : pr_X pX11_owes [.ref 172, .int x] h M (rp M (f_owes X x, X)) := by
  have k172 := hl.1
  have h8 : x_n X ≤ 8 := hv.1.2.1
  have hi := q_isOne x h M hl hv.1
  refine pr_ofC ?_ (rp_s hv)
  unfold f_owes
  rcases pr_ix x (show x_n X ≤ 1000000 by omega) with q | ⟨j, hj, rfl, q⟩
  · rw [show ixb x (x_n X) = false from q] at hi ⊢
    refine pr_seq (pc' := 2) 2 rfl ⟨⟨trivial, (by first | assumption | decide | exact ⟨Or.inl (by assumption), by assumption⟩ | exact ⟨by assumption, by assumption⟩ | omega)⟩, trivial⟩ ?_
    refine pr_cv [_] rfl rfl rfl rfl rfl (Nat.le_of_ble_eq_true rfl) (by first | assumption | decide | exact ⟨Or.inl (by assumption), by assumption⟩ | exact ⟨by assumption, by assumption⟩ | omega) (Nat.le_of_ble_eq_true rfl) (hi) ?_
    refine pr_if rfl (fun h5 => ?_) (fun h5 => ?_)
    · simp only [ab_cmp, pr_i_1, pr_i_m1] at h5
      first
      | contradiction
      | exact absurd trivial h5
      | exact absurd h5 (by decide)
      | exact absurd (Classical.not_not.mp h5) (by decide)
      | skip
        refine pr_seq (pc' := 22) 1 rfl ⟨trivial, trivial⟩ ?_
        exact pr_irM rfl (by first | rfl | (simp [pr_b, pr_i_1, pr_i_m1, *]; done) | (simp_all [pr_b, pr_i_1, pr_i_m1]; done)) trivial (by rfl)
    · simp only [ab_cmp, pr_i_1, pr_i_m1] at h5
      first
      | contradiction
      | exact absurd trivial h5
      | exact absurd h5 (by decide)
      | exact absurd (Classical.not_not.mp h5) (by decide)
      | skip
        refine pr_seq (pc' := 11) 3 rfl ⟨⟨⟨trivial, (by first | assumption | decide | exact ⟨Or.inl (by assumption), by assumption⟩ | exact ⟨by assumption, by assumption⟩ | omega)⟩, (by first | assumption | decide | exact ⟨Or.inl (by assumption), by assumption⟩ | exact ⟨by assumption, by assumption⟩ | omega)⟩, trivial⟩ ?_
        fail "no call@11 yX11_personOf"
  · rw [show ixb (nI j) (x_n X) = true from q] at hi ⊢
    rw [if_pos rfl, nI_clamp (by omega)]
    have hs := q_summed (t := 1) (f := lal X.1.1 j) (A := lD X.1.1) h M hl hv.1 (by decide) (fun p hp => (hv.1.2.2.2.2.2.2.2 p hp).2.2.1)
    refine pr_seq (pc' := 2) 2 rfl ⟨⟨trivial, (by first | assumption | decide | exact ⟨Or.inl (by assumption), by assumption⟩ | exact ⟨by assumption, by assumption⟩ | omega)⟩, trivial⟩ ?_
    refine pr_cv [_] rfl rfl rfl rfl rfl (Nat.le_of_ble_eq_true rfl) (by first | assumption | decide | exact ⟨Or.inl (by assumption), by assumption⟩ | exact ⟨by assumption, by assumption⟩ | omega) (Nat.le_of_ble_eq_true rfl) (hi) ?_
    refine pr_if rfl (fun h5 => ?_) (fun h5 => ?_)
    · simp only [ab_cmp, pr_i_1, pr_i_m1] at h5
      first
      | contradiction
      | exact absurd trivial h5
      | exact absurd h5 (by decide)
      | exact absurd (Classical.not_not.mp h5) (by decide)
      | skip
        refine pr_seq (pc' := 22) 1 rfl ⟨trivial, trivial⟩ ?_
        exact pr_irM rfl (by rfl) trivial (by rfl)
    · simp only [ab_cmp, pr_i_1, pr_i_m1] at h5
      first
      | contradiction
      | exact absurd trivial h5
      | exact absurd h5 (by decide)
      | exact absurd (Classical.not_not.mp h5) (by decide)
      | skip
        refine pr_seq (pc' := 11) 3 rfl ⟨⟨⟨trivial, (by first | assumption | decide | exact ⟨Or.inl (by assumption), by assumption⟩ | exact ⟨by assumption, by assumption⟩ | omega)⟩, (by first | assumption | decide | exact ⟨Or.inl (by assumption), by assumption⟩ | exact ⟨by assumption, by assumption⟩ | omega)⟩, trivial⟩ ?_
        refine pr_cv [_] rfl rfl rfl rfl rfl (Nat.le_of_ble_eq_true rfl) (by first | assumption | decide | exact ⟨Or.inl (by assumption), by assumption⟩ | exact ⟨by assumption, by assumption⟩ | omega) (Nat.le_of_ble_eq_true rfl) (q_personOf h M hl hv.1 hj) ?_
        refine pr_seq (pc' := 15) 1 rfl ⟨trivial, trivial⟩ ?_
        refine pr_cv [_, _] rfl rfl rfl rfl rfl (Nat.le_of_ble_eq_true rfl) (by first | assumption | decide | exact ⟨Or.inl (by assumption), by assumption⟩ | exact ⟨by assumption, by assumption⟩ | omega) (Nat.le_of_ble_eq_true rfl) (hs) ?_
        refine pr_seq (pc' := 22) 1 rfl ⟨trivial, trivial⟩ ?_
        exact pr_irM rfl (by rfl) trivial (by rfl)
theorem r_has {X : St} (x : Int32) (h : ab_H) (M : ab_M) (hl : rL h M.2.2) (hv : rv M.1 X) : pr_X pX11_has [.ref 172, .int x] h M (rp M (f_has X x, X)) := by
  have k172 := hl.1
  have h8 : x_n X ≤ 8 := hv.1.2.1
  have hi := q_isOne x h M hl hv.1
  refine pr_ofC ?_ (rp_s hv)
  unfold f_has
  rcases pr_ix x (show x_n X ≤ 1000000 by omega) with q | ⟨j, hj, rfl, q⟩
  · rw [show ixb x (x_n X) = false from q] at hi ⊢
    refine pr_seq (pc' := 2) 2 rfl ⟨⟨trivial, (by first | assumption | decide | exact ⟨Or.inl (by assumption), by assumption⟩ | exact ⟨by assumption, by assumption⟩ | omega)⟩, trivial⟩ ?_
    refine pr_cv [_] rfl rfl rfl rfl rfl (Nat.le_of_ble_eq_true rfl) (by first | assumption | decide | exact ⟨Or.inl (by assumption), by assumption⟩ | exact ⟨by assumption, by assumption⟩ | omega) (Nat.le_of_ble_eq_true rfl) (hi) ?_
    refine pr_if rfl (fun h5 => ?_) (fun h5 => ?_)
    · simp only [ab_cmp, pr_i_2, pr_i_m1] at h5
      first
      | contradiction
      | exact absurd trivial h5
      | exact absurd h5 (by decide)
      | exact absurd (Classical.not_not.mp h5) (by decide)
      | skip
        refine pr_seq (pc' := 22) 1 rfl ⟨trivial, trivial⟩ ?_
        exact pr_irM rfl (by first | rfl | (simp [pr_b, pr_i_2, pr_i_m1, *]; done) | (simp_all [pr_b, pr_i_2, pr_i_m1]; done)) trivial (by rfl)
    · simp only [ab_cmp, pr_i_2, pr_i_m1] at h5
      first
      | contradiction
      | exact absurd trivial h5
      | exact absurd h5 (by decide)
      | exact absurd (Classical.not_not.mp h5) (by decide)
      | skip
        refine pr_seq (pc' := 11) 3 rfl ⟨⟨⟨trivial, (by first | assumption | decide | exact ⟨Or.inl (by assumption), by assumption⟩ | exact ⟨by assumption, by assumption⟩ | omega)⟩, (by first | assumption | decide | exact ⟨Or.inl (by assumption), by assumption⟩ | exact ⟨by assumption, by assumption⟩ | omega)⟩, trivial⟩ ?_
        fail "no call@11 yX11_personOf"
  · rw [show ixb (nI j) (x_n X) = true from q] at hi ⊢
    rw [if_pos rfl, nI_clamp (by omega)]
    have hs := q_summed (t := 2) (f := lal X.1.1 j) (A := lW X.1.1) h M hl hv.1 (by decide) (fun p hp => (hv.1.2.2.2.2.2.2.2 p hp).2.2.2.2.1)
    refine pr_seq (pc' := 2) 2 rfl ⟨⟨trivial, (by first | assumption | decide | exact ⟨Or.inl (by assumption), by assumption⟩ | exact ⟨by assumption, by assumption⟩ | omega)⟩, trivial⟩ ?_
    refine pr_cv [_] rfl rfl rfl rfl rfl (Nat.le_of_ble_eq_true rfl) (by first | assumption | decide | exact ⟨Or.inl (by assumption), by assumption⟩ | exact ⟨by assumption, by assumption⟩ | omega) (Nat.le_of_ble_eq_true rfl) (hi) ?_
    refine pr_if rfl (fun h5 => ?_) (fun h5 => ?_)
    · simp only [ab_cmp, pr_i_2, pr_i_m1] at h5
      first
      | contradiction
      | exact absurd trivial h5
      | exact absurd h5 (by decide)
      | exact absurd (Classical.not_not.mp h5) (by decide)
      | skip
        refine pr_seq (pc' := 22) 1 rfl ⟨trivial, trivial⟩ ?_
        exact pr_irM rfl (by rfl) trivial (by rfl)
    · simp only [ab_cmp, pr_i_2, pr_i_m1] at h5
      first
      | contradiction
      | exact absurd trivial h5
      | exact absurd h5 (by decide)
      | exact absurd (Classical.not_not.mp h5) (by decide)
      | skip
        refine pr_seq (pc' := 11) 3 rfl ⟨⟨⟨trivial, (by first | assumption | decide | exact ⟨Or.inl (by assumption), by assumption⟩ | exact ⟨by assumption, by assumption⟩ | omega)⟩, (by first | assumption | decide | exact ⟨Or.inl (by assumption), by assumption⟩ | exact ⟨by assumption, by assumption⟩ | omega)⟩, trivial⟩ ?_
        refine pr_cv [_] rfl rfl rfl rfl rfl (Nat.le_of_ble_eq_true rfl) (by first | assumption | decide | exact ⟨Or.inl (by assumption), by assumption⟩ | exact ⟨by assumption, by assumption⟩ | omega) (Nat.le_of_ble_eq_true rfl) (q_personOf h M hl hv.1 hj) ?_
        refine pr_seq (pc' := 15) 1 rfl ⟨trivial, trivial⟩ ?_
        refine pr_cv [_, _] rfl rfl rfl rfl rfl (Nat.le_of_ble_eq_true rfl) (by first | assumption | decide | exact ⟨Or.inl (by assumption), by assumption⟩ | exact ⟨by assumption, by assumption⟩ | omega) (Nat.le_of_ble_eq_true rfl) (hs) ?_
        refine pr_seq (pc' := 22) 1 rfl ⟨trivial, trivial⟩ ?_
        exact pr_irM rfl (by rfl) trivial (by rfl)
theorem r_worth {X : St} (l : Int32) (h : ab_H) (M : ab_M) (hl : rL h M.2.2) (hv : rv M.1 X) : pr_X pX11_worth [.ref 172, .int l] h M (rp M (f_worth X l, X)) := by
  have k172 := hl.1
  have hi := q_isLetter l h M
  refine pr_ofC ?_ (rp_s hv)
  unfold f_worth
  rcases pr_rg l 25 25 rfl (by decide) with q | ⟨j, hj, rfl, q⟩
  · rw [q] at hi ⊢
    refine pr_seq (pc' := 1) 1 rfl ⟨trivial, trivial⟩ ?_
    refine pr_cs [_] rfl rfl rfl rfl rfl (Nat.le_of_ble_eq_true rfl) (Nat.le_of_ble_eq_true rfl) (hi) ?_
    refine pr_if rfl (fun h4 => ?_) (fun h4 => ?_)
    · simp only [ab_cmp, pr_i_m1] at h4
      first
      | contradiction
      | exact absurd trivial h4
      | exact absurd h4 (by decide)
      | exact absurd (Classical.not_not.mp h4) (by decide)
      | skip
        refine pr_seq (pc' := 16) 1 rfl ⟨trivial, trivial⟩ ?_
        exact pr_irM rfl (by first | rfl | (simp [pr_b, pr_i_m1, *]; done) | (simp_all [pr_b, pr_i_m1]; done)) trivial (by rfl)
    · simp only [ab_cmp, pr_i_m1] at h4
      first
      | contradiction
      | exact absurd trivial h4
      | exact absurd h4 (by decide)
      | exact absurd (Classical.not_not.mp h4) (by decide)
      | skip
        refine pr_seq (pc' := 9) 2 rfl ⟨⟨trivial, (by first | assumption | decide | exact ⟨Or.inl (by assumption), by assumption⟩ | exact ⟨by assumption, by assumption⟩ | omega)⟩, trivial⟩ ?_
        fail "no call@9 yX11_worthOf"
  · rw [q] at hi ⊢
    rw [if_pos rfl, nI_clamp (by omega)]
    refine pr_seq (pc' := 1) 1 rfl ⟨trivial, trivial⟩ ?_
    refine pr_cs [_] rfl rfl rfl rfl rfl (Nat.le_of_ble_eq_true rfl) (Nat.le_of_ble_eq_true rfl) (hi) ?_
    refine pr_if rfl (fun h4 => ?_) (fun h4 => ?_)
    · simp only [ab_cmp, pr_i_m1] at h4
      first
      | contradiction
      | exact absurd trivial h4
      | exact absurd h4 (by decide)
      | exact absurd (Classical.not_not.mp h4) (by decide)
      | skip
        refine pr_seq (pc' := 16) 1 rfl ⟨trivial, trivial⟩ ?_
        exact pr_irM rfl (by rfl) trivial (by rfl)
    · simp only [ab_cmp, pr_i_m1] at h4
      first
      | contradiction
      | exact absurd trivial h4
      | exact absurd h4 (by decide)
      | exact absurd (Classical.not_not.mp h4) (by decide)
      | skip
        refine pr_seq (pc' := 9) 2 rfl ⟨⟨trivial, (by first | assumption | decide | exact ⟨Or.inl (by assumption), by assumption⟩ | exact ⟨by assumption, by assumption⟩ | omega)⟩, trivial⟩ ?_
        refine pr_cv [_] rfl rfl rfl rfl rfl (Nat.le_of_ble_eq_true rfl) (by first | assumption | decide | exact ⟨Or.inl (by assumption), by assumption⟩ | exact ⟨by assumption, by assumption⟩ | omega) (Nat.le_of_ble_eq_true rfl) (q_worthOf h M hl hv.1 (by omega)) ?_
        refine pr_seq (pc' := 16) 1 rfl ⟨trivial, trivial⟩ ?_
        exact pr_irM rfl (by rfl) trivial (by rfl)
theorem r_rule {X : St} (w : Int32) (h : ab_H) (M : ab_M) (hl : rL h M.2.2) (hv : rv M.1 X) : pr_X pX11_rule [.ref 172, .int w] h M (rp M (f_rule X w, X)) := by
  obtain ⟨k172, rS, rLs, rKn, rPg, rRl, rRk, rTp, rCu, rLe, rLt, rSm, rIk, rLn, rLg, rCe, ⟨kS, nS⟩, ⟨kLs, nLs⟩, ⟨kKn, nKn⟩, ⟨kPg, nPg⟩, ⟨kRl, nRl⟩, ⟨kRk, nRk⟩, ⟨kTp, nTp⟩, ⟨kCu, nCu⟩, ⟨kLe, nLe⟩, ⟨kLt, nLt⟩, ⟨kSm, nSm⟩, ⟨kIk, nIk⟩, ⟨kLn, nLn⟩, ⟨kLg, nLg⟩, kCe, nCe⟩ := id hl
  have hpe := q_people h M hl hv.1
  have hfe := q_feeNow h M hl hv.1
  have g3 := hv.1.2.2.1
  have hls := hv.2.1.1
  refine pr_ofC ?_ (rp_s hv)
  unfold f_rule
  by_cases w0 : w = 0
  · subst w0
    refine pr_seq (pc' := 1) 1 rfl ⟨trivial, trivial⟩ ?_
    try simp (disch := omega) only [rS, rI_mul, nI_add, nI_1, nI_clamp, c219, pr_16_219, pr_i_m1]
    refine pr_tsI (g := 32) rfl (by decide) rfl rfl ?_
    refine pr_seq (pc' := 33) 1 rfl ⟨trivial, (by first | decide | assumption)⟩ ?_
    try simp (disch := omega) only [rS, rI_mul, nI_add, nI_1, nI_clamp, c219, pr_16_219, pr_i_m1]
    refine pr_cv [] rfl rfl rfl rfl rfl (Nat.le_of_ble_eq_true rfl) (by first | assumption | decide | (simp (disch := omega) only [rS, rI_mul, nI_add, nI_1, nI_clamp, c219, pr_16_219, pr_i_m1]; first | assumption | exact ⟨Or.inl (by assumption), rvin (by assumption) (by omega) (by decide)⟩ | exact ⟨by assumption, rvin (by assumption) (by omega) (by decide)⟩ | exact ⟨⟨by omega, by omega⟩, rvin (by assumption) (by omega) (by decide)⟩ | exact ⟨Or.inl (by assumption), by assumption⟩ | exact ⟨Or.inr (by assumption), by assumption⟩ | exact ⟨by assumption, by assumption⟩ | decide | omega)) (Nat.le_of_ble_eq_true rfl) (hpe) ?_
    exact pr_irM rfl (by rfl) trivial (by rfl)
  · by_cases w1 : w = 1
    · subst w1
      refine pr_seq (pc' := 1) 1 rfl ⟨trivial, trivial⟩ ?_
      try simp (disch := omega) only [g3, rS, rI_mul, nI_add, nI_1, nI_clamp, c219, pr_16_219, pr_i_m1]
      refine pr_tsI (g := 37) rfl (by decide) rfl rfl ?_
      refine pr_seq (pc' := 45) 4 rfl ⟨⟨⟨⟨trivial, (by first | decide | assumption)⟩, (by assumption)⟩, trivial⟩, (by first | assumption | decide | (simp (disch := omega) only [g3, rS, rI_mul, nI_add, nI_1, nI_clamp, c219, pr_16_219, pr_i_m1]; first | assumption | exact ⟨Or.inl (by assumption), rvin (by assumption) (by omega) (by decide)⟩ | exact ⟨by assumption, rvin (by assumption) (by omega) (by decide)⟩ | exact ⟨⟨by omega, by omega⟩, rvin (by assumption) (by omega) (by decide)⟩ | exact ⟨Or.inl (by assumption), by assumption⟩ | exact ⟨Or.inr (by assumption), by assumption⟩ | exact ⟨by assumption, by assumption⟩ | decide | omega))⟩ ?_
      try simp (disch := omega) only [g3, rS, rI_mul, nI_add, nI_1, nI_clamp, c219, pr_16_219, pr_i_m1]
      exact pr_irM rfl (by rfl) trivial (by rfl)
    · by_cases w2 : w = 2
      · subst w2
        refine pr_seq (pc' := 1) 1 rfl ⟨trivial, trivial⟩ ?_
        try simp (disch := omega) only [rS, rI_mul, nI_add, nI_1, nI_clamp, c219, pr_16_219, pr_i_m1]
        refine pr_tsI (g := 46) rfl (by decide) rfl rfl ?_
        refine pr_seq (pc' := 47) 1 rfl ⟨trivial, (by first | decide | assumption)⟩ ?_
        try simp (disch := omega) only [rS, rI_mul, nI_add, nI_1, nI_clamp, c219, pr_16_219, pr_i_m1]
        refine pr_cv [] rfl rfl rfl rfl rfl (Nat.le_of_ble_eq_true rfl) (by first | assumption | decide | (simp (disch := omega) only [rS, rI_mul, nI_add, nI_1, nI_clamp, c219, pr_16_219, pr_i_m1]; first | assumption | exact ⟨Or.inl (by assumption), rvin (by assumption) (by omega) (by decide)⟩ | exact ⟨by assumption, rvin (by assumption) (by omega) (by decide)⟩ | exact ⟨⟨by omega, by omega⟩, rvin (by assumption) (by omega) (by decide)⟩ | exact ⟨Or.inl (by assumption), by assumption⟩ | exact ⟨Or.inr (by assumption), by assumption⟩ | exact ⟨by assumption, by assumption⟩ | decide | omega)) (Nat.le_of_ble_eq_true rfl) (hfe) ?_
        exact pr_irM rfl (by rfl) trivial (by rfl)
      · by_cases w3 : w = 3
        · subst w3
          refine pr_seq (pc' := 1) 1 rfl ⟨trivial, trivial⟩ ?_
          try simp (disch := omega) only [hls, rS, rI_mul, nI_add, nI_1, nI_clamp, c219, pr_16_219, pr_i_m1]
          refine pr_tsI (g := 51) rfl (by decide) rfl rfl ?_
          refine pr_seq (pc' := 55) 2 rfl ⟨⟨trivial, (by first | decide | assumption)⟩, (by assumption)⟩ ?_
          try simp (disch := omega) only [hls, rS, rI_mul, nI_add, nI_1, nI_clamp, c219, pr_16_219, pr_i_m1]
          exact pr_irM rfl (by rfl) trivial (by rfl)
        · rw [if_neg w0, if_neg w1, if_neg w2, if_neg w3]
          have ho : w.toInt < (0 : Int) ∨ (3 : Int) < w.toInt := ts_out w 3 (by decide) (fun j hj e => by
            rcases (show j = 0 ∨ j = 1 ∨ j = 2 ∨ j = 3 by omega) with rfl | rfl | rfl | rfl
            · exact w0 e
            · exact w1 e
            · exact w2 e
            · exact w3 e)
          refine pr_seq (pc' := 1) 1 rfl ⟨trivial, trivial⟩ ?_
          try simp (disch := omega) only [rS, rI_mul, nI_add, nI_1, nI_clamp, c219, pr_16_219, pr_i_m1]
          refine pr_tsO (g := 56) rfl (ho) rfl ?_
          refine pr_seq (pc' := 57) 1 rfl ⟨trivial, trivial⟩ ?_
          try simp (disch := omega) only [rS, rI_mul, nI_add, nI_1, nI_clamp, c219, pr_16_219, pr_i_m1]
          exact pr_irM rfl (by rfl) trivial (by rfl)
theorem in03 {w : Int32} (w0 : ¬ w = 0) (w1 : ¬ w = 1) (w2 : ¬ w = 2) (w3 : ¬ w = 3) : pr_in w 0 3 = false := by
  rcases pr_rg w 3 3 rfl (by decide) with q | ⟨j, hj, e, q⟩
  · exact q
  · exfalso
    rcases (show j = 0 ∨ j = 1 ∨ j = 2 ∨ j = 3 by omega) with rfl | rfl | rfl | rfl
    · exact w0 e
    · exact w1 e
    · exact w2 e
    · exact w3 e
theorem in01 {w : Int32} (w0 : ¬ w = 0) (w1 : ¬ w = 1) : pr_in w 0 1 = false := by
  rcases pr_rg w 1 1 rfl (by decide) with q | ⟨j, hj, e, q⟩
  · exact q
  · exfalso
    rcases (show j = 0 ∨ j = 1 by omega) with rfl | rfl
    · exact w0 e
    · exact w1 e
theorem nm_q_o {w : List Nat} {x : Int32} (h : ixb x w.length = false) : nm_q w x = -1 := by
  unfold nm_q
  by_cases c : x < 0
  · rw [if_pos c]
  · rw [if_neg c]
    by_cases c2 : nI w.length ≤ x
    · rw [if_pos c2]
    · exfalso
      rw [show ixb x w.length = (!decide (x < 0) && !decide (nI w.length ≤ x)) from rfl, decide_eq_false c, decide_eq_false c2] at h
      cases h
theorem w_pl {w : Int32} {j : Nat} (e : w - 10 = nI j) : w = nI (j + 10) := by
  have : w = w - 10 + 10 := (Int32.sub_add_cancel w 10).symm
  rw [e] at this
  rw [this]
  exact nI_add j 10
theorem r_one {X : St} (p w : Int32) (h : ab_H) (M : ab_M) (hl : rL h M.2.2) (hv : rv M.1 X) : pr_X pX11_one [.ref 172, .int p, .int w] h M (rp M (f_one X p w, X)) := by
  obtain ⟨k172, rS, rLs, rKn, rPg, rRl, rRk, rTp, rCu, rLe, rLt, rSm, rIk, rLn, rLg, rCe, ⟨kS, nS⟩, ⟨kLs, nLs⟩, ⟨kKn, nKn⟩, ⟨kPg, nPg⟩, ⟨kRl, nRl⟩, ⟨kRk, nRk⟩, ⟨kTp, nTp⟩, ⟨kCu, nCu⟩, ⟨kLe, nLe⟩, ⟨kLt, nLt⟩, ⟨kSm, nSm⟩, ⟨kIk, nIk⟩, ⟨kLn, nLn⟩, ⟨kLg, nLg⟩, kCe, nCe⟩ := id hl
  have h8 : x_n X ≤ 8 := hv.1.2.1
  have hi := q_isOne p h M hl hv.1
  refine pr_ofC ?_ (rp_s hv)
  unfold f_one
  rcases pr_ix p (show x_n X ≤ 1000000 by omega) with q | ⟨j, hj, rfl, q⟩
  · rw [show ixb p (x_n X) = false from q] at hi ⊢
    refine pr_seq (pc' := 2) 2 rfl ⟨⟨trivial, (by first | decide | assumption)⟩, trivial⟩ ?_
    try simp (disch := omega) only [rS, rI_mul, nI_add, nI_1, nI_clamp, c24, pr_8_10, pr_8_24, pr_8_9, pr_i_4, pr_i_m1]
    refine pr_cv [_] rfl rfl rfl rfl rfl (Nat.le_of_ble_eq_true rfl) (by first | assumption | decide | (simp (disch := omega) only [rS, rI_mul, nI_add, nI_1, nI_clamp, c24, pr_8_10, pr_8_24, pr_8_9, pr_i_4, pr_i_m1]; first | assumption | exact ⟨Or.inl (by assumption), rvin (by assumption) (by omega) (by decide)⟩ | exact ⟨by assumption, rvin (by assumption) (by omega) (by decide)⟩ | exact ⟨⟨by omega, by omega⟩, rvin (by assumption) (by omega) (by decide)⟩ | exact ⟨Or.inl (by assumption), by assumption⟩ | exact ⟨Or.inr (by assumption), by assumption⟩ | exact ⟨by assumption, by assumption⟩ | decide | omega)) (Nat.le_of_ble_eq_true rfl) (hi) ?_
    refine pr_if rfl (fun h5 => ?_) (fun h5 => ?_)
    · simp only [ab_cmp, pr_8_10, pr_8_24, pr_8_9, pr_i_4, pr_i_m1] at h5
      first
      | contradiction
      | exact absurd trivial h5
      | exact absurd h5 (by decide)
      | exact absurd (Classical.not_not.mp h5) (by decide)
      | skip
        refine pr_seq (pc' := 41) 1 rfl ⟨trivial, trivial⟩ ?_
        try simp (disch := omega) only [rS, rI_mul, nI_add, nI_1, nI_clamp, c24, pr_8_10, pr_8_24, pr_8_9, pr_i_4, pr_i_m1]
        exact pr_irM rfl (by rfl) trivial (by rfl)
    · simp only [ab_cmp, pr_8_10, pr_8_24, pr_8_9, pr_i_4, pr_i_m1] at h5
      first
      | contradiction
      | exact absurd trivial h5
      | exact absurd h5 (by decide)
      | exact absurd (Classical.not_not.mp h5) (by decide)
      | skip
        refine pr_seq (pc' := 14) 4 rfl ⟨⟨⟨⟨trivial, trivial⟩, trivial⟩, trivial⟩, trivial⟩ ?_
        try simp (disch := omega) only [rS, rI_mul, nI_add, nI_1, nI_clamp, c24, pr_8_10, pr_8_24, pr_8_9, pr_i_4, pr_i_m1]
        fail "no call@14 yX11_in"
  · rw [show ixb (nI j) (x_n X) = true from q] at hi ⊢
    rw [if_pos rfl, nI_clamp (by omega)]
    obtain ⟨y1, y2, y3, y4, y5, y6, y7, y8, y9⟩ := hv.1.2.2.2.2.2.2.2 j hj
    have hlo := q_longOf h M hl hv.1 hj
    have h03 := q_in (a := w.toInt64) (b := Int64.ofNat 0) (c := Int64.ofNat 3) w 0 3 h M rfl rfl rfl
    have n1 : (1 : Int32) = nI 1 := rfl
    have n0 : (24 : Int32) * nI j + 0 = nI (24 * j) := by rw [Int32.add_zero]; exact rI_mul 24 j
    by_cases w0 : w = 0
    · subst w0
      rw [if_pos rfl]
      have n0 : nI (24 * j) + 0 = nI (24 * j) := Int32.add_zero _
      refine pr_seq (pc' := 2) 2 rfl ⟨⟨trivial, (by first | decide | assumption)⟩, trivial⟩ ?_
      try simp (disch := omega) only [n0, y1, rS, rI_mul, nI_add, nI_1, nI_clamp, c24, pr_8_10, pr_8_24, pr_8_9, pr_i_4, pr_i_m1]
      refine pr_cv [_] rfl rfl rfl rfl rfl (Nat.le_of_ble_eq_true rfl) (by first | assumption | decide | (simp (disch := omega) only [n0, y1, rS, rI_mul, nI_add, nI_1, nI_clamp, c24, pr_8_10, pr_8_24, pr_8_9, pr_i_4, pr_i_m1]; first | assumption | exact ⟨Or.inl (by assumption), rvin (by assumption) (by omega) (by decide)⟩ | exact ⟨by assumption, rvin (by assumption) (by omega) (by decide)⟩ | exact ⟨⟨by omega, by omega⟩, rvin (by assumption) (by omega) (by decide)⟩ | exact ⟨Or.inl (by assumption), by assumption⟩ | exact ⟨Or.inr (by assumption), by assumption⟩ | exact ⟨by assumption, by assumption⟩ | decide | omega)) (Nat.le_of_ble_eq_true rfl) (hi) ?_
      refine pr_if rfl (fun h5 => ?_) (fun h5 => ?_)
      · simp only [ab_cmp, pr_8_10, pr_8_24, pr_8_9, pr_i_4, pr_i_m1] at h5
        first
        | contradiction
        | exact absurd trivial h5
        | exact absurd h5 (by decide)
        | exact absurd (Classical.not_not.mp h5) (by decide)
        | skip
          refine pr_seq (pc' := 41) 1 rfl ⟨trivial, trivial⟩ ?_
          try simp (disch := omega) only [n0, y1, rS, rI_mul, nI_add, nI_1, nI_clamp, c24, pr_8_10, pr_8_24, pr_8_9, pr_i_4, pr_i_m1]
          exact pr_irM rfl (by first | rfl | (simp (disch := omega) only [n0, y1, rS, rI_mul, nI_add, nI_1, nI_clamp, c24, pr_8_10, pr_8_24, pr_8_9, pr_i_4, pr_i_m1]; done) | (simp [pr_b, pr_8_10, pr_8_24, pr_8_9, pr_i_4, pr_i_m1, *]; done) | (simp_all [pr_b, pr_8_10, pr_8_24, pr_8_9, pr_i_4, pr_i_m1]; done)) trivial (by rfl)
      · simp only [ab_cmp, pr_8_10, pr_8_24, pr_8_9, pr_i_4, pr_i_m1] at h5
        first
        | contradiction
        | exact absurd trivial h5
        | exact absurd h5 (by decide)
        | exact absurd (Classical.not_not.mp h5) (by decide)
        | skip
          refine pr_seq (pc' := 14) 4 rfl ⟨⟨⟨⟨trivial, trivial⟩, trivial⟩, trivial⟩, trivial⟩ ?_
          try simp (disch := omega) only [n0, y1, rS, rI_mul, nI_add, nI_1, nI_clamp, c24, pr_8_10, pr_8_24, pr_8_9, pr_i_4, pr_i_m1]
          refine pr_cs [_, _, _] rfl rfl rfl rfl rfl (Nat.le_of_ble_eq_true rfl) (Nat.le_of_ble_eq_true rfl) (h03) ?_
          refine pr_if rfl (fun h17 => ?_) (fun h17 => ?_)
          · simp only [ab_cmp, pr_8_10, pr_8_24, pr_8_9, pr_i_4, pr_i_m1] at h17
            first
            | contradiction
            | exact absurd trivial h17
            | exact absurd h17 (by decide)
            | exact absurd (Classical.not_not.mp h17) (by decide)
            | skip
              refine pr_seq (pc' := 44) 2 rfl ⟨⟨trivial, trivial⟩, trivial⟩ ?_
              try simp (disch := omega) only [n0, y1, rS, rI_mul, nI_add, nI_1, nI_clamp, c24, pr_8_10, pr_8_24, pr_8_9, pr_i_4, pr_i_m1]
              refine pr_ic rfl (fun h44 => ?_) (fun h44 => ?_)
              · simp only [ab_cmp, pr_8_10, pr_8_24, pr_8_9, pr_i_4, pr_i_m1] at h44
                exact absurd h44 (by decide)
              · simp only [ab_cmp, pr_8_10, pr_8_24, pr_8_9, pr_i_4, pr_i_m1] at h44
                first
                | contradiction
                | exact absurd trivial h44
                | exact absurd h44 (by decide)
                | exact absurd (Classical.not_not.mp h44) (by decide)
                | skip
                  refine pr_seq (pc' := 77) 9 rfl ⟨⟨⟨⟨⟨⟨⟨⟨⟨trivial, (by first | decide | assumption)⟩, (by assumption)⟩, trivial⟩, trivial⟩, trivial⟩, trivial⟩, trivial⟩, (by first | assumption | decide | (simp (disch := omega) only [n0, y1, rS, rI_mul, nI_add, nI_1, nI_clamp, c24, pr_8_10, pr_8_24, pr_8_9, pr_i_4, pr_i_m1]; first | assumption | exact ⟨Or.inl (by assumption), rvin (by assumption) (by omega) (by decide)⟩ | exact ⟨by assumption, rvin (by assumption) (by omega) (by decide)⟩ | exact ⟨⟨by omega, by omega⟩, rvin (by assumption) (by omega) (by decide)⟩ | exact ⟨Or.inl (by assumption), by assumption⟩ | exact ⟨Or.inr (by assumption), by assumption⟩ | exact ⟨by assumption, by assumption⟩ | decide | omega))⟩, trivial⟩ ?_
                  try simp (disch := omega) only [n0, y1, rS, rI_mul, nI_add, nI_1, nI_clamp, c24, pr_8_10, pr_8_24, pr_8_9, pr_i_4, pr_i_m1]
                  exact pr_irM rfl (by rfl) trivial (by rfl)
          · simp only [ab_cmp, pr_8_10, pr_8_24, pr_8_9, pr_i_4, pr_i_m1] at h17
            first
            | contradiction
            | exact absurd trivial h17
            | exact absurd h17 (by decide)
            | exact absurd (Classical.not_not.mp h17) (by decide)
            | skip
              refine pr_seq (pc' := 29) 6 rfl ⟨⟨⟨⟨⟨⟨trivial, trivial⟩, trivial⟩, trivial⟩, trivial⟩, (by first | decide | assumption)⟩, trivial⟩ ?_
              try simp (disch := omega) only [n0, y1, rS, rI_mul, nI_add, nI_1, nI_clamp, c24, pr_8_10, pr_8_24, pr_8_9, pr_i_4, pr_i_m1]
              fail "no call@29 yX11_longOf"
    · by_cases w1 : w = 1
      · subst w1
        rw [if_neg w0, if_pos rfl]
        refine pr_seq (pc' := 2) 2 rfl ⟨⟨trivial, (by first | decide | assumption)⟩, trivial⟩ ?_
        try simp (disch := omega) only [y3, rS, rI_mul, nI_add, nI_1, nI_clamp, c24, pr_8_10, pr_8_24, pr_8_9, pr_i_4, pr_i_m1]
        refine pr_cv [_] rfl rfl rfl rfl rfl (Nat.le_of_ble_eq_true rfl) (by first | assumption | decide | (simp (disch := omega) only [y3, rS, rI_mul, nI_add, nI_1, nI_clamp, c24, pr_8_10, pr_8_24, pr_8_9, pr_i_4, pr_i_m1]; first | assumption | exact ⟨Or.inl (by assumption), rvin (by assumption) (by omega) (by decide)⟩ | exact ⟨by assumption, rvin (by assumption) (by omega) (by decide)⟩ | exact ⟨⟨by omega, by omega⟩, rvin (by assumption) (by omega) (by decide)⟩ | exact ⟨Or.inl (by assumption), by assumption⟩ | exact ⟨Or.inr (by assumption), by assumption⟩ | exact ⟨by assumption, by assumption⟩ | decide | omega)) (Nat.le_of_ble_eq_true rfl) (hi) ?_
        refine pr_if rfl (fun h5 => ?_) (fun h5 => ?_)
        · simp only [ab_cmp, pr_8_10, pr_8_24, pr_8_9, pr_i_4, pr_i_m1] at h5
          first
          | contradiction
          | exact absurd trivial h5
          | exact absurd h5 (by decide)
          | exact absurd (Classical.not_not.mp h5) (by decide)
          | skip
            refine pr_seq (pc' := 41) 1 rfl ⟨trivial, trivial⟩ ?_
            try simp (disch := omega) only [y3, rS, rI_mul, nI_add, nI_1, nI_clamp, c24, pr_8_10, pr_8_24, pr_8_9, pr_i_4, pr_i_m1]
            exact pr_irM rfl (by first | rfl | (simp (disch := omega) only [y3, rS, rI_mul, nI_add, nI_1, nI_clamp, c24, pr_8_10, pr_8_24, pr_8_9, pr_i_4, pr_i_m1]; done) | (simp [pr_b, pr_8_10, pr_8_24, pr_8_9, pr_i_4, pr_i_m1, *]; done) | (simp_all [pr_b, pr_8_10, pr_8_24, pr_8_9, pr_i_4, pr_i_m1]; done)) trivial (by rfl)
        · simp only [ab_cmp, pr_8_10, pr_8_24, pr_8_9, pr_i_4, pr_i_m1] at h5
          first
          | contradiction
          | exact absurd trivial h5
          | exact absurd h5 (by decide)
          | exact absurd (Classical.not_not.mp h5) (by decide)
          | skip
            refine pr_seq (pc' := 14) 4 rfl ⟨⟨⟨⟨trivial, trivial⟩, trivial⟩, trivial⟩, trivial⟩ ?_
            try simp (disch := omega) only [y3, rS, rI_mul, nI_add, nI_1, nI_clamp, c24, pr_8_10, pr_8_24, pr_8_9, pr_i_4, pr_i_m1]
            refine pr_cs [_, _, _] rfl rfl rfl rfl rfl (Nat.le_of_ble_eq_true rfl) (Nat.le_of_ble_eq_true rfl) (h03) ?_
            refine pr_if rfl (fun h17 => ?_) (fun h17 => ?_)
            · simp only [ab_cmp, pr_8_10, pr_8_24, pr_8_9, pr_i_4, pr_i_m1] at h17
              first
              | contradiction
              | exact absurd trivial h17
              | exact absurd h17 (by decide)
              | exact absurd (Classical.not_not.mp h17) (by decide)
              | skip
                refine pr_seq (pc' := 44) 2 rfl ⟨⟨trivial, trivial⟩, trivial⟩ ?_
                try simp (disch := omega) only [y3, rS, rI_mul, nI_add, nI_1, nI_clamp, c24, pr_8_10, pr_8_24, pr_8_9, pr_i_4, pr_i_m1]
                refine pr_ic rfl (fun h44 => ?_) (fun h44 => ?_)
                · simp only [ab_cmp, pr_8_10, pr_8_24, pr_8_9, pr_i_4, pr_i_m1] at h44
                  exact absurd h44 (by decide)
                · simp only [ab_cmp, pr_8_10, pr_8_24, pr_8_9, pr_i_4, pr_i_m1] at h44
                  first
                  | contradiction
                  | exact absurd trivial h44
                  | exact absurd h44 (by decide)
                  | exact absurd (Classical.not_not.mp h44) (by decide)
                  | skip
                    refine pr_seq (pc' := 77) 9 rfl ⟨⟨⟨⟨⟨⟨⟨⟨⟨trivial, (by first | decide | assumption)⟩, (by assumption)⟩, trivial⟩, trivial⟩, trivial⟩, trivial⟩, trivial⟩, (by first | assumption | decide | (simp (disch := omega) only [y3, rS, rI_mul, nI_add, nI_1, nI_clamp, c24, pr_8_10, pr_8_24, pr_8_9, pr_i_4, pr_i_m1]; first | assumption | exact ⟨Or.inl (by assumption), rvin (by assumption) (by omega) (by decide)⟩ | exact ⟨by assumption, rvin (by assumption) (by omega) (by decide)⟩ | exact ⟨⟨by omega, by omega⟩, rvin (by assumption) (by omega) (by decide)⟩ | exact ⟨Or.inl (by assumption), by assumption⟩ | exact ⟨Or.inr (by assumption), by assumption⟩ | exact ⟨by assumption, by assumption⟩ | decide | omega))⟩, trivial⟩ ?_
                    try simp (disch := omega) only [y3, rS, rI_mul, nI_add, nI_1, nI_clamp, c24, pr_8_10, pr_8_24, pr_8_9, pr_i_4, pr_i_m1]
                    exact pr_irM rfl (by rfl) trivial (by rfl)
            · simp only [ab_cmp, pr_8_10, pr_8_24, pr_8_9, pr_i_4, pr_i_m1] at h17
              first
              | contradiction
              | exact absurd trivial h17
              | exact absurd h17 (by decide)
              | exact absurd (Classical.not_not.mp h17) (by decide)
              | skip
                refine pr_seq (pc' := 29) 6 rfl ⟨⟨⟨⟨⟨⟨trivial, trivial⟩, trivial⟩, trivial⟩, trivial⟩, (by first | decide | assumption)⟩, trivial⟩ ?_
                try simp (disch := omega) only [y3, rS, rI_mul, nI_add, nI_1, nI_clamp, c24, pr_8_10, pr_8_24, pr_8_9, pr_i_4, pr_i_m1]
                fail "no call@29 yX11_longOf"
      · by_cases w2 : w = 2
        · subst w2
          rw [if_neg w0, if_neg w1, if_pos rfl]
          refine pr_seq (pc' := 2) 2 rfl ⟨⟨trivial, (by first | decide | assumption)⟩, trivial⟩ ?_
          try simp (disch := omega) only [c2, y5, rS, rI_mul, nI_add, nI_1, nI_clamp, c24, pr_8_10, pr_8_24, pr_8_9, pr_i_4, pr_i_m1]
          refine pr_cv [_] rfl rfl rfl rfl rfl (Nat.le_of_ble_eq_true rfl) (by first | assumption | decide | (simp (disch := omega) only [c2, y5, rS, rI_mul, nI_add, nI_1, nI_clamp, c24, pr_8_10, pr_8_24, pr_8_9, pr_i_4, pr_i_m1]; first | assumption | exact ⟨Or.inl (by assumption), rvin (by assumption) (by omega) (by decide)⟩ | exact ⟨by assumption, rvin (by assumption) (by omega) (by decide)⟩ | exact ⟨⟨by omega, by omega⟩, rvin (by assumption) (by omega) (by decide)⟩ | exact ⟨Or.inl (by assumption), by assumption⟩ | exact ⟨Or.inr (by assumption), by assumption⟩ | exact ⟨by assumption, by assumption⟩ | decide | omega)) (Nat.le_of_ble_eq_true rfl) (hi) ?_
          refine pr_if rfl (fun h5 => ?_) (fun h5 => ?_)
          · simp only [ab_cmp, pr_8_10, pr_8_24, pr_8_9, pr_i_4, pr_i_m1] at h5
            first
            | contradiction
            | exact absurd trivial h5
            | exact absurd h5 (by decide)
            | exact absurd (Classical.not_not.mp h5) (by decide)
            | skip
              refine pr_seq (pc' := 41) 1 rfl ⟨trivial, trivial⟩ ?_
              try simp (disch := omega) only [c2, y5, rS, rI_mul, nI_add, nI_1, nI_clamp, c24, pr_8_10, pr_8_24, pr_8_9, pr_i_4, pr_i_m1]
              exact pr_irM rfl (by first | rfl | (simp (disch := omega) only [c2, y5, rS, rI_mul, nI_add, nI_1, nI_clamp, c24, pr_8_10, pr_8_24, pr_8_9, pr_i_4, pr_i_m1]; done) | (simp [pr_b, pr_8_10, pr_8_24, pr_8_9, pr_i_4, pr_i_m1, *]; done) | (simp_all [pr_b, pr_8_10, pr_8_24, pr_8_9, pr_i_4, pr_i_m1]; done)) trivial (by rfl)
          · simp only [ab_cmp, pr_8_10, pr_8_24, pr_8_9, pr_i_4, pr_i_m1] at h5
            first
            | contradiction
            | exact absurd trivial h5
            | exact absurd h5 (by decide)
            | exact absurd (Classical.not_not.mp h5) (by decide)
            | skip
              refine pr_seq (pc' := 14) 4 rfl ⟨⟨⟨⟨trivial, trivial⟩, trivial⟩, trivial⟩, trivial⟩ ?_
              try simp (disch := omega) only [c2, y5, rS, rI_mul, nI_add, nI_1, nI_clamp, c24, pr_8_10, pr_8_24, pr_8_9, pr_i_4, pr_i_m1]
              refine pr_cs [_, _, _] rfl rfl rfl rfl rfl (Nat.le_of_ble_eq_true rfl) (Nat.le_of_ble_eq_true rfl) (h03) ?_
              refine pr_if rfl (fun h17 => ?_) (fun h17 => ?_)
              · simp only [ab_cmp, pr_8_10, pr_8_24, pr_8_9, pr_i_4, pr_i_m1] at h17
                first
                | contradiction
                | exact absurd trivial h17
                | exact absurd h17 (by decide)
                | exact absurd (Classical.not_not.mp h17) (by decide)
                | skip
                  refine pr_seq (pc' := 44) 2 rfl ⟨⟨trivial, trivial⟩, trivial⟩ ?_
                  try simp (disch := omega) only [c2, y5, rS, rI_mul, nI_add, nI_1, nI_clamp, c24, pr_8_10, pr_8_24, pr_8_9, pr_i_4, pr_i_m1]
                  refine pr_ic rfl (fun h44 => ?_) (fun h44 => ?_)
                  · simp only [ab_cmp, pr_8_10, pr_8_24, pr_8_9, pr_i_4, pr_i_m1] at h44
                    exact absurd h44 (by decide)
                  · simp only [ab_cmp, pr_8_10, pr_8_24, pr_8_9, pr_i_4, pr_i_m1] at h44
                    first
                    | contradiction
                    | exact absurd trivial h44
                    | exact absurd h44 (by decide)
                    | exact absurd (Classical.not_not.mp h44) (by decide)
                    | skip
                      refine pr_seq (pc' := 77) 9 rfl ⟨⟨⟨⟨⟨⟨⟨⟨⟨trivial, (by first | decide | assumption)⟩, (by assumption)⟩, trivial⟩, trivial⟩, trivial⟩, trivial⟩, trivial⟩, (by first | assumption | decide | (simp (disch := omega) only [c2, y5, rS, rI_mul, nI_add, nI_1, nI_clamp, c24, pr_8_10, pr_8_24, pr_8_9, pr_i_4, pr_i_m1]; first | assumption | exact ⟨Or.inl (by assumption), rvin (by assumption) (by omega) (by decide)⟩ | exact ⟨by assumption, rvin (by assumption) (by omega) (by decide)⟩ | exact ⟨⟨by omega, by omega⟩, rvin (by assumption) (by omega) (by decide)⟩ | exact ⟨Or.inl (by assumption), by assumption⟩ | exact ⟨Or.inr (by assumption), by assumption⟩ | exact ⟨by assumption, by assumption⟩ | decide | omega))⟩, trivial⟩ ?_
                      try simp (disch := omega) only [c2, y5, rS, rI_mul, nI_add, nI_1, nI_clamp, c24, pr_8_10, pr_8_24, pr_8_9, pr_i_4, pr_i_m1]
                      exact pr_irM rfl (by rfl) trivial (by rfl)
              · simp only [ab_cmp, pr_8_10, pr_8_24, pr_8_9, pr_i_4, pr_i_m1] at h17
                first
                | contradiction
                | exact absurd trivial h17
                | exact absurd h17 (by decide)
                | exact absurd (Classical.not_not.mp h17) (by decide)
                | skip
                  refine pr_seq (pc' := 29) 6 rfl ⟨⟨⟨⟨⟨⟨trivial, trivial⟩, trivial⟩, trivial⟩, trivial⟩, (by first | decide | assumption)⟩, trivial⟩ ?_
                  try simp (disch := omega) only [c2, y5, rS, rI_mul, nI_add, nI_1, nI_clamp, c24, pr_8_10, pr_8_24, pr_8_9, pr_i_4, pr_i_m1]
                  fail "no call@29 yX11_longOf"
        · by_cases w3 : w = 3
          · subst w3
            rw [if_neg w0, if_neg w1, if_neg w2, if_pos rfl]
            refine pr_seq (pc' := 2) 2 rfl ⟨⟨trivial, (by first | decide | assumption)⟩, trivial⟩ ?_
            try simp (disch := omega) only [c3, y7, rS, rI_mul, nI_add, nI_1, nI_clamp, c24, pr_8_10, pr_8_24, pr_8_9, pr_i_4, pr_i_m1]
            refine pr_cv [_] rfl rfl rfl rfl rfl (Nat.le_of_ble_eq_true rfl) (by first | assumption | decide | (simp (disch := omega) only [c3, y7, rS, rI_mul, nI_add, nI_1, nI_clamp, c24, pr_8_10, pr_8_24, pr_8_9, pr_i_4, pr_i_m1]; first | assumption | exact ⟨Or.inl (by assumption), rvin (by assumption) (by omega) (by decide)⟩ | exact ⟨by assumption, rvin (by assumption) (by omega) (by decide)⟩ | exact ⟨⟨by omega, by omega⟩, rvin (by assumption) (by omega) (by decide)⟩ | exact ⟨Or.inl (by assumption), by assumption⟩ | exact ⟨Or.inr (by assumption), by assumption⟩ | exact ⟨by assumption, by assumption⟩ | decide | omega)) (Nat.le_of_ble_eq_true rfl) (hi) ?_
            refine pr_if rfl (fun h5 => ?_) (fun h5 => ?_)
            · simp only [ab_cmp, pr_8_10, pr_8_24, pr_8_9, pr_i_4, pr_i_m1] at h5
              first
              | contradiction
              | exact absurd trivial h5
              | exact absurd h5 (by decide)
              | exact absurd (Classical.not_not.mp h5) (by decide)
              | skip
                refine pr_seq (pc' := 41) 1 rfl ⟨trivial, trivial⟩ ?_
                try simp (disch := omega) only [c3, y7, rS, rI_mul, nI_add, nI_1, nI_clamp, c24, pr_8_10, pr_8_24, pr_8_9, pr_i_4, pr_i_m1]
                exact pr_irM rfl (by first | rfl | (simp (disch := omega) only [c3, y7, rS, rI_mul, nI_add, nI_1, nI_clamp, c24, pr_8_10, pr_8_24, pr_8_9, pr_i_4, pr_i_m1]; done) | (simp [pr_b, pr_8_10, pr_8_24, pr_8_9, pr_i_4, pr_i_m1, *]; done) | (simp_all [pr_b, pr_8_10, pr_8_24, pr_8_9, pr_i_4, pr_i_m1]; done)) trivial (by rfl)
            · simp only [ab_cmp, pr_8_10, pr_8_24, pr_8_9, pr_i_4, pr_i_m1] at h5
              first
              | contradiction
              | exact absurd trivial h5
              | exact absurd h5 (by decide)
              | exact absurd (Classical.not_not.mp h5) (by decide)
              | skip
                refine pr_seq (pc' := 14) 4 rfl ⟨⟨⟨⟨trivial, trivial⟩, trivial⟩, trivial⟩, trivial⟩ ?_
                try simp (disch := omega) only [c3, y7, rS, rI_mul, nI_add, nI_1, nI_clamp, c24, pr_8_10, pr_8_24, pr_8_9, pr_i_4, pr_i_m1]
                refine pr_cs [_, _, _] rfl rfl rfl rfl rfl (Nat.le_of_ble_eq_true rfl) (Nat.le_of_ble_eq_true rfl) (h03) ?_
                refine pr_if rfl (fun h17 => ?_) (fun h17 => ?_)
                · simp only [ab_cmp, pr_8_10, pr_8_24, pr_8_9, pr_i_4, pr_i_m1] at h17
                  first
                  | contradiction
                  | exact absurd trivial h17
                  | exact absurd h17 (by decide)
                  | exact absurd (Classical.not_not.mp h17) (by decide)
                  | skip
                    refine pr_seq (pc' := 44) 2 rfl ⟨⟨trivial, trivial⟩, trivial⟩ ?_
                    try simp (disch := omega) only [c3, y7, rS, rI_mul, nI_add, nI_1, nI_clamp, c24, pr_8_10, pr_8_24, pr_8_9, pr_i_4, pr_i_m1]
                    refine pr_ic rfl (fun h44 => ?_) (fun h44 => ?_)
                    · simp only [ab_cmp, pr_8_10, pr_8_24, pr_8_9, pr_i_4, pr_i_m1] at h44
                      exact absurd h44 (by decide)
                    · simp only [ab_cmp, pr_8_10, pr_8_24, pr_8_9, pr_i_4, pr_i_m1] at h44
                      first
                      | contradiction
                      | exact absurd trivial h44
                      | exact absurd h44 (by decide)
                      | exact absurd (Classical.not_not.mp h44) (by decide)
                      | skip
                        refine pr_seq (pc' := 77) 9 rfl ⟨⟨⟨⟨⟨⟨⟨⟨⟨trivial, (by first | decide | assumption)⟩, (by assumption)⟩, trivial⟩, trivial⟩, trivial⟩, trivial⟩, trivial⟩, (by first | assumption | decide | (simp (disch := omega) only [c3, y7, rS, rI_mul, nI_add, nI_1, nI_clamp, c24, pr_8_10, pr_8_24, pr_8_9, pr_i_4, pr_i_m1]; first | assumption | exact ⟨Or.inl (by assumption), rvin (by assumption) (by omega) (by decide)⟩ | exact ⟨by assumption, rvin (by assumption) (by omega) (by decide)⟩ | exact ⟨⟨by omega, by omega⟩, rvin (by assumption) (by omega) (by decide)⟩ | exact ⟨Or.inl (by assumption), by assumption⟩ | exact ⟨Or.inr (by assumption), by assumption⟩ | exact ⟨by assumption, by assumption⟩ | decide | omega))⟩, trivial⟩ ?_
                        try simp (disch := omega) only [c3, y7, rS, rI_mul, nI_add, nI_1, nI_clamp, c24, pr_8_10, pr_8_24, pr_8_9, pr_i_4, pr_i_m1]
                        exact pr_irM rfl (by rfl) trivial (by rfl)
                · simp only [ab_cmp, pr_8_10, pr_8_24, pr_8_9, pr_i_4, pr_i_m1] at h17
                  first
                  | contradiction
                  | exact absurd trivial h17
                  | exact absurd h17 (by decide)
                  | exact absurd (Classical.not_not.mp h17) (by decide)
                  | skip
                    refine pr_seq (pc' := 29) 6 rfl ⟨⟨⟨⟨⟨⟨trivial, trivial⟩, trivial⟩, trivial⟩, trivial⟩, (by first | decide | assumption)⟩, trivial⟩ ?_
                    try simp (disch := omega) only [c3, y7, rS, rI_mul, nI_add, nI_1, nI_clamp, c24, pr_8_10, pr_8_24, pr_8_9, pr_i_4, pr_i_m1]
                    fail "no call@29 yX11_longOf"
          · rw [if_neg w0, if_neg w1, if_neg w2, if_neg w3]
            rw [in03 w0 w1 w2 w3] at h03
            have hpl := q_in (a := w.toInt64) (b := Int64.ofNat 10) (c := (9 + nI (d_pn X.1.1 j).2.2.2.length).toInt64) w 10 (9 + nI (d_pn X.1.1 j).2.2.2.length) h M rfl rfl rfl
            rw [ix_pl w _ (by omega)] at hpl
            rcases pr_ix (w - 10) (show (d_pn X.1.1 j).2.2.2.length ≤ 1000000 by omega) with q2 | ⟨k, hk, e, q2⟩
            · rw [show ixb (w - 10) (d_pn X.1.1 j).2.2.2.length = false from q2] at hpl
              rw [nm_q_o q2]
              refine pr_seq (pc' := 2) 2 rfl ⟨⟨trivial, (by first | assumption | decide | exact ⟨Or.inl (by assumption), by assumption⟩ | exact ⟨by assumption, by assumption⟩ | omega)⟩, trivial⟩ ?_
              refine pr_cv [_] rfl rfl rfl rfl rfl (Nat.le_of_ble_eq_true rfl) (by first | assumption | decide | exact ⟨Or.inl (by assumption), by assumption⟩ | exact ⟨by assumption, by assumption⟩ | omega) (Nat.le_of_ble_eq_true rfl) (hi) ?_
              refine pr_if rfl (fun h5 => ?_) (fun h5 => ?_)
              · simp only [ab_cmp, pr_8_10, pr_8_24, pr_8_9, pr_i_4, pr_i_m1] at h5
                first
                | contradiction
                | exact absurd trivial h5
                | exact absurd h5 (by decide)
                | exact absurd (Classical.not_not.mp h5) (by decide)
                | skip
                  refine pr_seq (pc' := 41) 1 rfl ⟨trivial, trivial⟩ ?_
                  exact pr_irM rfl (by rfl) trivial (by rfl)
              · simp only [ab_cmp, pr_8_10, pr_8_24, pr_8_9, pr_i_4, pr_i_m1] at h5
                first
                | contradiction
                | exact absurd trivial h5
                | exact absurd h5 (by decide)
                | exact absurd (Classical.not_not.mp h5) (by decide)
                | skip
                  refine pr_seq (pc' := 14) 4 rfl ⟨⟨⟨⟨trivial, trivial⟩, trivial⟩, trivial⟩, trivial⟩ ?_
                  refine pr_cs [_, _, _] rfl rfl rfl rfl rfl (Nat.le_of_ble_eq_true rfl) (Nat.le_of_ble_eq_true rfl) (h03) ?_
                  refine pr_if rfl (fun h17 => ?_) (fun h17 => ?_)
                  · simp only [ab_cmp, pr_8_10, pr_8_24, pr_8_9, pr_i_4, pr_i_m1] at h17
                    first
                    | contradiction
                    | exact absurd trivial h17
                    | exact absurd h17 (by decide)
                    | exact absurd (Classical.not_not.mp h17) (by decide)
                    | skip
                      refine pr_seq (pc' := 44) 2 rfl ⟨⟨trivial, trivial⟩, trivial⟩ ?_
                      refine pr_ic rfl (fun h44 => ?_) (fun h44 => ?_)
                      · simp only [ab_cmp, pr_8_10, pr_8_24, pr_8_9, pr_i_4, pr_i_m1] at h44
                        first
                        | contradiction
                        | exact absurd trivial h44
                        | exact absurd h44 (by decide)
                        | exact absurd (Classical.not_not.mp h44) (by decide)
                        | skip
                          refine pr_seq (pc' := 77) 12 rfl ⟨⟨⟨⟨⟨⟨⟨⟨⟨⟨⟨⟨trivial, (by first | assumption | decide | exact ⟨Or.inl (by assumption), by assumption⟩ | exact ⟨by assumption, by assumption⟩ | omega)⟩, (by first | assumption | decide | exact ⟨Or.inl (by assumption), by assumption⟩ | exact ⟨by assumption, by assumption⟩ | omega)⟩, trivial⟩, trivial⟩, trivial⟩, trivial⟩, trivial⟩, trivial⟩, trivial⟩, trivial⟩, trivial⟩, (by first | assumption | decide | exact ⟨Or.inl (by assumption), by assumption⟩ | exact ⟨by assumption, by assumption⟩ | omega)⟩ ?_
                          exact pr_irM rfl (by first | rfl | (simp [pr_b, pr_8_10, pr_8_24, pr_8_9, pr_i_4, pr_i_m1, *]; done) | (simp_all [pr_b, pr_8_10, pr_8_24, pr_8_9, pr_i_4, pr_i_m1]; done)) trivial (by rfl)
                      · simp only [ab_cmp, pr_8_10, pr_8_24, pr_8_9, pr_i_4, pr_i_m1] at h44
                        first
                        | contradiction
                        | exact absurd trivial h44
                        | exact absurd h44 (by decide)
                        | exact absurd (Classical.not_not.mp h44) (by decide)
                        | skip
                          refine pr_seq (pc' := 77) 9 rfl ⟨⟨⟨⟨⟨⟨⟨⟨⟨trivial, (by first | assumption | decide | exact ⟨Or.inl (by assumption), by assumption⟩ | exact ⟨by assumption, by assumption⟩ | omega)⟩, (by first | assumption | decide | exact ⟨Or.inl (by assumption), by assumption⟩ | exact ⟨by assumption, by assumption⟩ | omega)⟩, trivial⟩, trivial⟩, trivial⟩, trivial⟩, trivial⟩, (by first | assumption | decide | exact ⟨Or.inl (by assumption), by assumption⟩ | exact ⟨by assumption, by assumption⟩ | omega)⟩, trivial⟩ ?_
                          exact pr_irM rfl (by first | rfl | (simp [pr_b, pr_8_10, pr_8_24, pr_8_9, pr_i_4, pr_i_m1, *]; done) | (simp_all [pr_b, pr_8_10, pr_8_24, pr_8_9, pr_i_4, pr_i_m1]; done)) trivial (by rfl)
                  · simp only [ab_cmp, pr_8_10, pr_8_24, pr_8_9, pr_i_4, pr_i_m1] at h17
                    first
                    | contradiction
                    | exact absurd trivial h17
                    | exact absurd h17 (by decide)
                    | exact absurd (Classical.not_not.mp h17) (by decide)
                    | skip
                      refine pr_seq (pc' := 29) 6 rfl ⟨⟨⟨⟨⟨⟨trivial, trivial⟩, trivial⟩, trivial⟩, trivial⟩, (by first | assumption | decide | exact ⟨Or.inl (by assumption), by assumption⟩ | exact ⟨by assumption, by assumption⟩ | omega)⟩, trivial⟩ ?_
                      refine pr_cv [_] rfl rfl rfl rfl rfl (Nat.le_of_ble_eq_true rfl) (by first | assumption | decide | exact ⟨Or.inl (by assumption), by assumption⟩ | exact ⟨by assumption, by assumption⟩ | omega) (Nat.le_of_ble_eq_true rfl) (hlo) ?_
                      refine pr_seq (pc' := 34) 2 rfl ⟨⟨trivial, trivial⟩, trivial⟩ ?_
                      refine pr_cs [_, _, _] rfl rfl rfl rfl rfl (Nat.le_of_ble_eq_true rfl) (Nat.le_of_ble_eq_true rfl) (hpl) ?_
                      refine pr_if rfl (fun h37 => ?_) (fun h37 => ?_)
                      · simp only [ab_cmp, pr_8_10, pr_8_24, pr_8_9, pr_i_4, pr_i_m1] at h37
                        first
                        | contradiction
                        | exact absurd trivial h37
                        | exact absurd h37 (by decide)
                        | exact absurd (Classical.not_not.mp h37) (by decide)
                        | skip
                          refine pr_seq (pc' := 44) 2 rfl ⟨⟨trivial, trivial⟩, trivial⟩ ?_
                          refine pr_ic rfl (fun h44 => ?_) (fun h44 => ?_)
                          · simp only [ab_cmp, pr_8_10, pr_8_24, pr_8_9, pr_i_4, pr_i_m1] at h44
                            first
                            | contradiction
                            | exact absurd trivial h44
                            | exact absurd h44 (by decide)
                            | exact absurd (Classical.not_not.mp h44) (by decide)
                            | skip
                              refine pr_seq (pc' := 77) 12 rfl ⟨⟨⟨⟨⟨⟨⟨⟨⟨⟨⟨⟨trivial, (by first | assumption | decide | exact ⟨Or.inl (by assumption), by assumption⟩ | exact ⟨by assumption, by assumption⟩ | omega)⟩, (by first | assumption | decide | exact ⟨Or.inl (by assumption), by assumption⟩ | exact ⟨by assumption, by assumption⟩ | omega)⟩, trivial⟩, trivial⟩, trivial⟩, trivial⟩, trivial⟩, trivial⟩, trivial⟩, trivial⟩, trivial⟩, (by first | assumption | decide | exact ⟨Or.inl (by assumption), by assumption⟩ | exact ⟨by assumption, by assumption⟩ | omega)⟩ ?_
                              exact pr_irM rfl (by first | rfl | (simp [pr_b, pr_8_10, pr_8_24, pr_8_9, pr_i_4, pr_i_m1, *]; done) | (simp_all [pr_b, pr_8_10, pr_8_24, pr_8_9, pr_i_4, pr_i_m1]; done)) trivial (by rfl)
                          · simp only [ab_cmp, pr_8_10, pr_8_24, pr_8_9, pr_i_4, pr_i_m1] at h44
                            first
                            | contradiction
                            | exact absurd trivial h44
                            | exact absurd h44 (by decide)
                            | exact absurd (Classical.not_not.mp h44) (by decide)
                            | skip
                              refine pr_seq (pc' := 77) 9 rfl ⟨⟨⟨⟨⟨⟨⟨⟨⟨trivial, (by first | assumption | decide | exact ⟨Or.inl (by assumption), by assumption⟩ | exact ⟨by assumption, by assumption⟩ | omega)⟩, (by first | assumption | decide | exact ⟨Or.inl (by assumption), by assumption⟩ | exact ⟨by assumption, by assumption⟩ | omega)⟩, trivial⟩, trivial⟩, trivial⟩, trivial⟩, trivial⟩, (by first | assumption | decide | exact ⟨Or.inl (by assumption), by assumption⟩ | exact ⟨by assumption, by assumption⟩ | omega)⟩, trivial⟩ ?_
                              exact pr_irM rfl (by first | rfl | (simp [pr_b, pr_8_10, pr_8_24, pr_8_9, pr_i_4, pr_i_m1, *]; done) | (simp_all [pr_b, pr_8_10, pr_8_24, pr_8_9, pr_i_4, pr_i_m1]; done)) trivial (by rfl)
                      · simp only [ab_cmp, pr_8_10, pr_8_24, pr_8_9, pr_i_4, pr_i_m1] at h37
                        first
                        | contradiction
                        | exact absurd trivial h37
                        | exact absurd h37 (by decide)
                        | exact absurd (Classical.not_not.mp h37) (by decide)
                        | skip
                          refine pr_seq (pc' := 41) 1 rfl ⟨trivial, trivial⟩ ?_
                          exact pr_irM rfl (by rfl) trivial (by rfl)
            · rw [show ixb (w - 10) (d_pn X.1.1 j).2.2.2.length = true from q2] at hpl
              rw [e, nm_q_in hk (by omega)]
              have ew := w_pl e
              subst ew
              obtain ⟨e4, e5⟩ := y9 k hk
              have z : nI 4 ≤ nI (k + 10) := nI_le (by omega) (by omega)
              have e6 : nI (24 * j + 4 + (k + 10)) - 10 = nI (24 * j + 4 + k) := nI_m10 _
              refine pr_seq (pc' := 2) 2 rfl ⟨⟨trivial, (by first | decide | assumption)⟩, trivial⟩ ?_
              try simp (disch := omega) only [c4, e6, e4, rS, rI_mul, nI_add, nI_1, nI_clamp, c24, pr_8_10, pr_8_24, pr_8_9, pr_i_4, pr_i_m1]
              refine pr_cv [_] rfl rfl rfl rfl rfl (Nat.le_of_ble_eq_true rfl) (by first | assumption | decide | (simp (disch := omega) only [c4, e6, e4, rS, rI_mul, nI_add, nI_1, nI_clamp, c24, pr_8_10, pr_8_24, pr_8_9, pr_i_4, pr_i_m1]; first | assumption | exact ⟨Or.inl (by assumption), rvin (by assumption) (by omega) (by decide)⟩ | exact ⟨by assumption, rvin (by assumption) (by omega) (by decide)⟩ | exact ⟨⟨by omega, by omega⟩, rvin (by assumption) (by omega) (by decide)⟩ | exact ⟨Or.inl (by assumption), by assumption⟩ | exact ⟨Or.inr (by assumption), by assumption⟩ | exact ⟨by assumption, by assumption⟩ | decide | omega)) (Nat.le_of_ble_eq_true rfl) (hi) ?_
              refine pr_if rfl (fun h5 => ?_) (fun h5 => ?_)
              · simp only [ab_cmp, pr_8_10, pr_8_24, pr_8_9, pr_i_4, pr_i_m1] at h5
                first
                | contradiction
                | exact absurd trivial h5
                | exact absurd h5 (by decide)
                | exact absurd (Classical.not_not.mp h5) (by decide)
                | skip
                  refine pr_seq (pc' := 41) 1 rfl ⟨trivial, trivial⟩ ?_
                  try simp (disch := omega) only [c4, e6, e4, rS, rI_mul, nI_add, nI_1, nI_clamp, c24, pr_8_10, pr_8_24, pr_8_9, pr_i_4, pr_i_m1]
                  exact pr_irM rfl (by first | rfl | (simp (disch := omega) only [c4, e6, e4, rS, rI_mul, nI_add, nI_1, nI_clamp, c24, pr_8_10, pr_8_24, pr_8_9, pr_i_4, pr_i_m1]; done) | (simp [pr_b, pr_8_10, pr_8_24, pr_8_9, pr_i_4, pr_i_m1, *]; done) | (simp_all [pr_b, pr_8_10, pr_8_24, pr_8_9, pr_i_4, pr_i_m1]; done)) trivial (by rfl)
              · simp only [ab_cmp, pr_8_10, pr_8_24, pr_8_9, pr_i_4, pr_i_m1] at h5
                first
                | contradiction
                | exact absurd trivial h5
                | exact absurd h5 (by decide)
                | exact absurd (Classical.not_not.mp h5) (by decide)
                | skip
                  refine pr_seq (pc' := 14) 4 rfl ⟨⟨⟨⟨trivial, trivial⟩, trivial⟩, trivial⟩, trivial⟩ ?_
                  try simp (disch := omega) only [c4, e6, e4, rS, rI_mul, nI_add, nI_1, nI_clamp, c24, pr_8_10, pr_8_24, pr_8_9, pr_i_4, pr_i_m1]
                  refine pr_cs [_, _, _] rfl rfl rfl rfl rfl (Nat.le_of_ble_eq_true rfl) (Nat.le_of_ble_eq_true rfl) (h03) ?_
                  refine pr_if rfl (fun h17 => ?_) (fun h17 => ?_)
                  · simp only [ab_cmp, pr_8_10, pr_8_24, pr_8_9, pr_i_4, pr_i_m1] at h17
                    first
                    | contradiction
                    | exact absurd trivial h17
                    | exact absurd h17 (by decide)
                    | exact absurd (Classical.not_not.mp h17) (by decide)
                    | skip
                      refine pr_seq (pc' := 44) 2 rfl ⟨⟨trivial, trivial⟩, trivial⟩ ?_
                      try simp (disch := omega) only [c4, e6, e4, rS, rI_mul, nI_add, nI_1, nI_clamp, c24, pr_8_10, pr_8_24, pr_8_9, pr_i_4, pr_i_m1]
                      refine pr_ic rfl (fun h44 => ?_) (fun h44 => ?_)
                      · simp only [ab_cmp, pr_8_10, pr_8_24, pr_8_9, pr_i_4, pr_i_m1] at h44
                        first
                        | contradiction
                        | exact absurd trivial h44
                        | exact absurd h44 (by decide)
                        | exact absurd (Classical.not_not.mp h44) (by decide)
                        | skip
                          refine pr_seq (pc' := 77) 12 rfl ⟨⟨⟨⟨⟨⟨⟨⟨⟨⟨⟨⟨trivial, (by first | decide | assumption)⟩, (by assumption)⟩, trivial⟩, trivial⟩, trivial⟩, trivial⟩, trivial⟩, trivial⟩, trivial⟩, trivial⟩, trivial⟩, (by first | assumption | decide | (simp (disch := omega) only [c4, e6, e4, rS, rI_mul, nI_add, nI_1, nI_clamp, c24, pr_8_10, pr_8_24, pr_8_9, pr_i_4, pr_i_m1]; first | assumption | exact ⟨Or.inl (by assumption), rvin (by assumption) (by omega) (by decide)⟩ | exact ⟨by assumption, rvin (by assumption) (by omega) (by decide)⟩ | exact ⟨⟨by omega, by omega⟩, rvin (by assumption) (by omega) (by decide)⟩ | exact ⟨Or.inl (by assumption), by assumption⟩ | exact ⟨Or.inr (by assumption), by assumption⟩ | exact ⟨by assumption, by assumption⟩ | decide | omega))⟩ ?_
                          try simp (disch := omega) only [c4, e6, e4, rS, rI_mul, nI_add, nI_1, nI_clamp, c24, pr_8_10, pr_8_24, pr_8_9, pr_i_4, pr_i_m1]
                          exact pr_irM rfl (by rfl) trivial (by rfl)
                      · simp only [ab_cmp, pr_8_10, pr_8_24, pr_8_9, pr_i_4, pr_i_m1] at h44
                        exact absurd z h44
                  · simp only [ab_cmp, pr_8_10, pr_8_24, pr_8_9, pr_i_4, pr_i_m1] at h17
                    first
                    | contradiction
                    | exact absurd trivial h17
                    | exact absurd h17 (by decide)
                    | exact absurd (Classical.not_not.mp h17) (by decide)
                    | skip
                      refine pr_seq (pc' := 29) 6 rfl ⟨⟨⟨⟨⟨⟨trivial, trivial⟩, trivial⟩, trivial⟩, trivial⟩, (by first | decide | assumption)⟩, trivial⟩ ?_
                      try simp (disch := omega) only [c4, e6, e4, rS, rI_mul, nI_add, nI_1, nI_clamp, c24, pr_8_10, pr_8_24, pr_8_9, pr_i_4, pr_i_m1]
                      refine pr_cv [_] rfl rfl rfl rfl rfl (Nat.le_of_ble_eq_true rfl) (by first | assumption | decide | (simp (disch := omega) only [c4, e6, e4, rS, rI_mul, nI_add, nI_1, nI_clamp, c24, pr_8_10, pr_8_24, pr_8_9, pr_i_4, pr_i_m1]; first | assumption | exact ⟨Or.inl (by assumption), rvin (by assumption) (by omega) (by decide)⟩ | exact ⟨by assumption, rvin (by assumption) (by omega) (by decide)⟩ | exact ⟨⟨by omega, by omega⟩, rvin (by assumption) (by omega) (by decide)⟩ | exact ⟨Or.inl (by assumption), by assumption⟩ | exact ⟨Or.inr (by assumption), by assumption⟩ | exact ⟨by assumption, by assumption⟩ | decide | omega)) (Nat.le_of_ble_eq_true rfl) (hlo) ?_
                      refine pr_seq (pc' := 34) 2 rfl ⟨⟨trivial, trivial⟩, trivial⟩ ?_
                      try simp (disch := omega) only [c4, e6, e4, rS, rI_mul, nI_add, nI_1, nI_clamp, c24, pr_8_10, pr_8_24, pr_8_9, pr_i_4, pr_i_m1]
                      refine pr_cs [_, _, _] rfl rfl rfl rfl rfl (Nat.le_of_ble_eq_true rfl) (Nat.le_of_ble_eq_true rfl) ((by first | exact hpl | simpa [nI_add] using hpl)) ?_
                      refine pr_if rfl (fun h37 => ?_) (fun h37 => ?_)
                      · simp only [ab_cmp, pr_8_10, pr_8_24, pr_8_9, pr_i_4, pr_i_m1] at h37
                        first
                        | contradiction
                        | exact absurd trivial h37
                        | exact absurd h37 (by decide)
                        | exact absurd (Classical.not_not.mp h37) (by decide)
                        | skip
                          refine pr_seq (pc' := 44) 2 rfl ⟨⟨trivial, trivial⟩, trivial⟩ ?_
                          try simp (disch := omega) only [c4, e6, e4, rS, rI_mul, nI_add, nI_1, nI_clamp, c24, pr_8_10, pr_8_24, pr_8_9, pr_i_4, pr_i_m1]
                          refine pr_ic rfl (fun h44 => ?_) (fun h44 => ?_)
                          · simp only [ab_cmp, pr_8_10, pr_8_24, pr_8_9, pr_i_4, pr_i_m1] at h44
                            first
                            | contradiction
                            | exact absurd trivial h44
                            | exact absurd h44 (by decide)
                            | exact absurd (Classical.not_not.mp h44) (by decide)
                            | skip
                              refine pr_seq (pc' := 77) 12 rfl ⟨⟨⟨⟨⟨⟨⟨⟨⟨⟨⟨⟨trivial, (by first | decide | assumption)⟩, (by assumption)⟩, trivial⟩, trivial⟩, trivial⟩, trivial⟩, trivial⟩, trivial⟩, trivial⟩, trivial⟩, trivial⟩, (by first | assumption | decide | (simp (disch := omega) only [c4, e6, e4, rS, rI_mul, nI_add, nI_1, nI_clamp, c24, pr_8_10, pr_8_24, pr_8_9, pr_i_4, pr_i_m1]; first | assumption | exact ⟨Or.inl (by assumption), rvin (by assumption) (by omega) (by decide)⟩ | exact ⟨by assumption, rvin (by assumption) (by omega) (by decide)⟩ | exact ⟨⟨by omega, by omega⟩, rvin (by assumption) (by omega) (by decide)⟩ | exact ⟨Or.inl (by assumption), by assumption⟩ | exact ⟨Or.inr (by assumption), by assumption⟩ | exact ⟨by assumption, by assumption⟩ | decide | omega))⟩ ?_
                              try simp (disch := omega) only [c4, e6, e4, rS, rI_mul, nI_add, nI_1, nI_clamp, c24, pr_8_10, pr_8_24, pr_8_9, pr_i_4, pr_i_m1]
                              exact pr_irM rfl (by rfl) trivial (by rfl)
                          · simp only [ab_cmp, pr_8_10, pr_8_24, pr_8_9, pr_i_4, pr_i_m1] at h44
                            exact absurd z h44
                      · simp only [ab_cmp, pr_8_10, pr_8_24, pr_8_9, pr_i_4, pr_i_m1] at h37
                        first
                        | contradiction
                        | exact absurd trivial h37
                        | exact absurd h37 (by decide)
                        | exact absurd (Classical.not_not.mp h37) (by decide)
                        | skip
                          refine pr_seq (pc' := 41) 1 rfl ⟨trivial, trivial⟩ ?_
                          try simp (disch := omega) only [c4, e6, e4, rS, rI_mul, nI_add, nI_1, nI_clamp, c24, pr_8_10, pr_8_24, pr_8_9, pr_i_4, pr_i_m1]
                          exact pr_irM rfl (by first | rfl | (simp (disch := omega) only [c4, e6, e4, rS, rI_mul, nI_add, nI_1, nI_clamp, c24, pr_8_10, pr_8_24, pr_8_9, pr_i_4, pr_i_m1]; done) | (simp [pr_b, pr_8_10, pr_8_24, pr_8_9, pr_i_4, pr_i_m1, *]; done) | (simp_all [pr_b, pr_8_10, pr_8_24, pr_8_9, pr_i_4, pr_i_m1]; done)) trivial (by rfl)
theorem r_listed {X : St} (p w : Int32) (h : ab_H) (M : ab_M) (hl : rL h M.2.2) (hv : rv M.1 X) : pr_X pX11_listed [.ref 172, .int p, .int w] h M (rp M (f_listed X p w, X)) := by
  obtain ⟨k172, rS, rLs, rKn, rPg, rRl, rRk, rTp, rCu, rLe, rLt, rSm, rIk, rLn, rLg, rCe, ⟨kS, nS⟩, ⟨kLs, nLs⟩, ⟨kKn, nKn⟩, ⟨kPg, nPg⟩, ⟨kRl, nRl⟩, ⟨kRk, nRk⟩, ⟨kTp, nTp⟩, ⟨kCu, nCu⟩, ⟨kLe, nLe⟩, ⟨kLt, nLt⟩, ⟨kSm, nSm⟩, ⟨kIk, nIk⟩, ⟨kLn, nLn⟩, ⟨kLg, nLg⟩, kCe, nCe⟩ := id hl
  obtain ⟨l1, l2, l3⟩ := hv.2.1
  have hi := q_isListed p h M hl l1 l2
  refine pr_ofC ?_ (rp_s hv)
  unfold f_listed
  rcases pr_ix p (show X.1.2.1.length ≤ 1000000 by omega) with q | ⟨j, hj, rfl, q⟩
  · rw [show ixb p X.1.2.1.length = false from q] at hi ⊢
    refine pr_seq (pc' := 2) 2 rfl ⟨⟨trivial, (by first | decide | assumption)⟩, trivial⟩ ?_
    try simp (disch := omega) only [rLs, rI_mul, nI_add, nI_1, nI_clamp, c11, pr_8_10, pr_8_11, pr_8_9, pr_i_1, pr_i_m1]
    refine pr_cv [_] rfl rfl rfl rfl rfl (Nat.le_of_ble_eq_true rfl) (by first | assumption | decide | (simp (disch := omega) only [rLs, rI_mul, nI_add, nI_1, nI_clamp, c11, pr_8_10, pr_8_11, pr_8_9, pr_i_1, pr_i_m1]; first | assumption | exact ⟨Or.inl (by assumption), rvin (by assumption) (by omega) (by decide)⟩ | exact ⟨by assumption, rvin (by assumption) (by omega) (by decide)⟩ | exact ⟨⟨by omega, by omega⟩, rvin (by assumption) (by omega) (by decide)⟩ | exact ⟨Or.inl (by assumption), by assumption⟩ | exact ⟨Or.inr (by assumption), by assumption⟩ | exact ⟨by assumption, by assumption⟩ | decide | omega)) (Nat.le_of_ble_eq_true rfl) (hi) ?_
    refine pr_if rfl (fun h5 => ?_) (fun h5 => ?_)
    · simp only [ab_cmp, pr_8_10, pr_8_11, pr_8_9, pr_i_1, pr_i_m1] at h5
      first
      | contradiction
      | exact absurd trivial h5
      | exact absurd h5 (by decide)
      | exact absurd (Classical.not_not.mp h5) (by decide)
      | skip
        refine pr_seq (pc' := 43) 1 rfl ⟨trivial, trivial⟩ ?_
        try simp (disch := omega) only [rLs, rI_mul, nI_add, nI_1, nI_clamp, c11, pr_8_10, pr_8_11, pr_8_9, pr_i_1, pr_i_m1]
        exact pr_irM rfl (by rfl) trivial (by rfl)
    · simp only [ab_cmp, pr_8_10, pr_8_11, pr_8_9, pr_i_1, pr_i_m1] at h5
      first
      | contradiction
      | exact absurd trivial h5
      | exact absurd h5 (by decide)
      | exact absurd (Classical.not_not.mp h5) (by decide)
      | skip
        refine pr_seq (pc' := 12) 4 rfl ⟨⟨⟨⟨trivial, trivial⟩, trivial⟩, trivial⟩, trivial⟩ ?_
        try simp (disch := omega) only [rLs, rI_mul, nI_add, nI_1, nI_clamp, c11, pr_8_10, pr_8_11, pr_8_9, pr_i_1, pr_i_m1]
        fail "no call@12 yX11_in"
  · rw [show ixb (nI j) X.1.2.1.length = true from q] at hi ⊢
    rw [if_pos rfl, nI_clamp (by omega)]
    have hls := q_listSum h M hl hv.1 l3 l2 hj
    obtain ⟨y1, y2, y9⟩ := l3 j hj
    unfold x_ls at hls
    unfold x_ln at hls ⊢
    generalize X.1.2.1.getD j [] = u at *
    have h01 := q_in (a := w.toInt64) (b := Int64.ofNat 0) (c := Int64.ofNat 1) w 0 1 h M rfl rfl rfl
    by_cases w0 : w = 0
    · subst w0
      rw [if_pos rfl]
      refine pr_seq (pc' := 2) 2 rfl ⟨⟨trivial, (by first | decide | assumption)⟩, trivial⟩ ?_
      try simp (disch := omega) only [y1, rLs, rI_mul, nI_add, nI_1, nI_clamp, c11, pr_8_10, pr_8_11, pr_8_9, pr_i_1, pr_i_m1]
      refine pr_cv [_] rfl rfl rfl rfl rfl (Nat.le_of_ble_eq_true rfl) (by first | assumption | decide | (simp (disch := omega) only [y1, rLs, rI_mul, nI_add, nI_1, nI_clamp, c11, pr_8_10, pr_8_11, pr_8_9, pr_i_1, pr_i_m1]; first | assumption | exact ⟨Or.inl (by assumption), rvin (by assumption) (by omega) (by decide)⟩ | exact ⟨by assumption, rvin (by assumption) (by omega) (by decide)⟩ | exact ⟨⟨by omega, by omega⟩, rvin (by assumption) (by omega) (by decide)⟩ | exact ⟨Or.inl (by assumption), by assumption⟩ | exact ⟨Or.inr (by assumption), by assumption⟩ | exact ⟨by assumption, by assumption⟩ | decide | omega)) (Nat.le_of_ble_eq_true rfl) (hi) ?_
      refine pr_if rfl (fun h5 => ?_) (fun h5 => ?_)
      · simp only [ab_cmp, pr_8_10, pr_8_11, pr_8_9, pr_i_1, pr_i_m1] at h5
        first
        | contradiction
        | exact absurd trivial h5
        | exact absurd h5 (by decide)
        | exact absurd (Classical.not_not.mp h5) (by decide)
        | skip
          refine pr_seq (pc' := 43) 1 rfl ⟨trivial, trivial⟩ ?_
          try simp (disch := omega) only [y1, rLs, rI_mul, nI_add, nI_1, nI_clamp, c11, pr_8_10, pr_8_11, pr_8_9, pr_i_1, pr_i_m1]
          exact pr_irM rfl (by first | rfl | (simp (disch := omega) only [y1, rLs, rI_mul, nI_add, nI_1, nI_clamp, c11, pr_8_10, pr_8_11, pr_8_9, pr_i_1, pr_i_m1]; done) | (simp [pr_b, pr_8_10, pr_8_11, pr_8_9, pr_i_1, pr_i_m1, *]; done) | (simp_all [pr_b, pr_8_10, pr_8_11, pr_8_9, pr_i_1, pr_i_m1]; done)) trivial (by rfl)
      · simp only [ab_cmp, pr_8_10, pr_8_11, pr_8_9, pr_i_1, pr_i_m1] at h5
        first
        | contradiction
        | exact absurd trivial h5
        | exact absurd h5 (by decide)
        | exact absurd (Classical.not_not.mp h5) (by decide)
        | skip
          refine pr_seq (pc' := 12) 4 rfl ⟨⟨⟨⟨trivial, trivial⟩, trivial⟩, trivial⟩, trivial⟩ ?_
          try simp (disch := omega) only [y1, rLs, rI_mul, nI_add, nI_1, nI_clamp, c11, pr_8_10, pr_8_11, pr_8_9, pr_i_1, pr_i_m1]
          refine pr_cs [_, _, _] rfl rfl rfl rfl rfl (Nat.le_of_ble_eq_true rfl) (Nat.le_of_ble_eq_true rfl) (h01) ?_
          refine pr_if rfl (fun h15 => ?_) (fun h15 => ?_)
          · simp only [ab_cmp, pr_8_10, pr_8_11, pr_8_9, pr_i_1, pr_i_m1] at h15
            first
            | contradiction
            | exact absurd trivial h15
            | exact absurd h15 (by decide)
            | exact absurd (Classical.not_not.mp h15) (by decide)
            | skip
              refine pr_seq (pc' := 46) 2 rfl ⟨⟨trivial, trivial⟩, trivial⟩ ?_
              try simp (disch := omega) only [y1, rLs, rI_mul, nI_add, nI_1, nI_clamp, c11, pr_8_10, pr_8_11, pr_8_9, pr_i_1, pr_i_m1]
              refine pr_ic rfl (fun h46 => ?_) (fun h46 => ?_)
              · simp only [ab_cmp, pr_8_10, pr_8_11, pr_8_9, pr_i_1, pr_i_m1] at h46
                first
                | contradiction
                | exact absurd trivial h46
                | exact absurd h46 (by decide)
                | exact absurd (Classical.not_not.mp h46) (by decide)
                | skip
                  refine pr_seq (pc' := 58) 1 rfl ⟨trivial, trivial⟩ ?_
                  try simp (disch := omega) only [y1, rLs, rI_mul, nI_add, nI_1, nI_clamp, c11, pr_8_10, pr_8_11, pr_8_9, pr_i_1, pr_i_m1]
                  refine pr_if rfl (fun h58 => ?_) (fun h58 => ?_)
                  · simp only [ab_cmp, pr_8_10, pr_8_11, pr_8_9, pr_i_1, pr_i_m1] at h58
                    exact absurd trivial h58
                  · simp only [ab_cmp, pr_8_10, pr_8_11, pr_8_9, pr_i_1, pr_i_m1] at h58
                    first
                    | contradiction
                    | exact absurd trivial h58
                    | exact absurd h58 (by decide)
                    | exact absurd (Classical.not_not.mp h58) (by decide)
                    | skip
                      refine pr_seq (pc' := 89) 7 rfl ⟨⟨⟨⟨⟨⟨⟨trivial, (by first | decide | assumption)⟩, (by assumption)⟩, trivial⟩, trivial⟩, trivial⟩, (by first | assumption | decide | (simp (disch := omega) only [y1, rLs, rI_mul, nI_add, nI_1, nI_clamp, c11, pr_8_10, pr_8_11, pr_8_9, pr_i_1, pr_i_m1]; first | assumption | exact ⟨Or.inl (by assumption), rvin (by assumption) (by omega) (by decide)⟩ | exact ⟨by assumption, rvin (by assumption) (by omega) (by decide)⟩ | exact ⟨⟨by omega, by omega⟩, rvin (by assumption) (by omega) (by decide)⟩ | exact ⟨Or.inl (by assumption), by assumption⟩ | exact ⟨Or.inr (by assumption), by assumption⟩ | exact ⟨by assumption, by assumption⟩ | decide | omega))⟩, trivial⟩ ?_
                      try simp (disch := omega) only [y1, rLs, rI_mul, nI_add, nI_1, nI_clamp, c11, pr_8_10, pr_8_11, pr_8_9, pr_i_1, pr_i_m1]
                      exact pr_irM rfl (by rfl) trivial (by rfl)
              · simp only [ab_cmp, pr_8_10, pr_8_11, pr_8_9, pr_i_1, pr_i_m1] at h46
                exact absurd (Classical.not_not.mp h46) (by decide)
          · simp only [ab_cmp, pr_8_10, pr_8_11, pr_8_9, pr_i_1, pr_i_m1] at h15
            first
            | contradiction
            | exact absurd trivial h15
            | exact absurd h15 (by decide)
            | exact absurd (Classical.not_not.mp h15) (by decide)
            | skip
              refine pr_seq (pc' := 36) 12 rfl ⟨⟨⟨⟨⟨⟨⟨⟨⟨⟨⟨⟨trivial, trivial⟩, trivial⟩, trivial⟩, trivial⟩, (by first | decide | assumption)⟩, (by assumption)⟩, trivial⟩, trivial⟩, trivial⟩, (by first | assumption | decide | (simp (disch := omega) only [y1, rLs, rI_mul, nI_add, nI_1, nI_clamp, c11, pr_8_10, pr_8_11, pr_8_9, pr_i_1, pr_i_m1]; first | assumption | exact ⟨Or.inl (by assumption), rvin (by assumption) (by omega) (by decide)⟩ | exact ⟨by assumption, rvin (by assumption) (by omega) (by decide)⟩ | exact ⟨⟨by omega, by omega⟩, rvin (by assumption) (by omega) (by decide)⟩ | exact ⟨Or.inl (by assumption), by assumption⟩ | exact ⟨Or.inr (by assumption), by assumption⟩ | exact ⟨by assumption, by assumption⟩ | decide | omega))⟩, trivial⟩, trivial⟩ ?_
              try simp (disch := omega) only [y1, rLs, rI_mul, nI_add, nI_1, nI_clamp, c11, pr_8_10, pr_8_11, pr_8_9, pr_i_1, pr_i_m1]
              fail "no call@36 yX11_in"
    · by_cases w1 : w = 1
      · subst w1
        rw [if_neg w0, if_pos rfl]
        refine pr_seq (pc' := 2) 2 rfl ⟨⟨trivial, (by first | decide | assumption)⟩, trivial⟩ ?_
        try simp (disch := omega) only [rLs, rI_mul, nI_add, nI_1, nI_clamp, c11, pr_8_10, pr_8_11, pr_8_9, pr_i_1, pr_i_m1]
        refine pr_cv [_] rfl rfl rfl rfl rfl (Nat.le_of_ble_eq_true rfl) (by first | assumption | decide | (simp (disch := omega) only [rLs, rI_mul, nI_add, nI_1, nI_clamp, c11, pr_8_10, pr_8_11, pr_8_9, pr_i_1, pr_i_m1]; first | assumption | exact ⟨Or.inl (by assumption), rvin (by assumption) (by omega) (by decide)⟩ | exact ⟨by assumption, rvin (by assumption) (by omega) (by decide)⟩ | exact ⟨⟨by omega, by omega⟩, rvin (by assumption) (by omega) (by decide)⟩ | exact ⟨Or.inl (by assumption), by assumption⟩ | exact ⟨Or.inr (by assumption), by assumption⟩ | exact ⟨by assumption, by assumption⟩ | decide | omega)) (Nat.le_of_ble_eq_true rfl) (hi) ?_
        refine pr_if rfl (fun h5 => ?_) (fun h5 => ?_)
        · simp only [ab_cmp, pr_8_10, pr_8_11, pr_8_9, pr_i_1, pr_i_m1] at h5
          first
          | contradiction
          | exact absurd trivial h5
          | exact absurd h5 (by decide)
          | exact absurd (Classical.not_not.mp h5) (by decide)
          | skip
            refine pr_seq (pc' := 43) 1 rfl ⟨trivial, trivial⟩ ?_
            try simp (disch := omega) only [rLs, rI_mul, nI_add, nI_1, nI_clamp, c11, pr_8_10, pr_8_11, pr_8_9, pr_i_1, pr_i_m1]
            exact pr_irM rfl (by first | rfl | (simp (disch := omega) only [rLs, rI_mul, nI_add, nI_1, nI_clamp, c11, pr_8_10, pr_8_11, pr_8_9, pr_i_1, pr_i_m1]; done) | (simp [pr_b, pr_8_10, pr_8_11, pr_8_9, pr_i_1, pr_i_m1, *]; done) | (simp_all [pr_b, pr_8_10, pr_8_11, pr_8_9, pr_i_1, pr_i_m1]; done)) trivial (by rfl)
        · simp only [ab_cmp, pr_8_10, pr_8_11, pr_8_9, pr_i_1, pr_i_m1] at h5
          first
          | contradiction
          | exact absurd trivial h5
          | exact absurd h5 (by decide)
          | exact absurd (Classical.not_not.mp h5) (by decide)
          | skip
            refine pr_seq (pc' := 12) 4 rfl ⟨⟨⟨⟨trivial, trivial⟩, trivial⟩, trivial⟩, trivial⟩ ?_
            try simp (disch := omega) only [rLs, rI_mul, nI_add, nI_1, nI_clamp, c11, pr_8_10, pr_8_11, pr_8_9, pr_i_1, pr_i_m1]
            refine pr_cs [_, _, _] rfl rfl rfl rfl rfl (Nat.le_of_ble_eq_true rfl) (Nat.le_of_ble_eq_true rfl) (h01) ?_
            refine pr_if rfl (fun h15 => ?_) (fun h15 => ?_)
            · simp only [ab_cmp, pr_8_10, pr_8_11, pr_8_9, pr_i_1, pr_i_m1] at h15
              first
              | contradiction
              | exact absurd trivial h15
              | exact absurd h15 (by decide)
              | exact absurd (Classical.not_not.mp h15) (by decide)
              | skip
                refine pr_seq (pc' := 46) 2 rfl ⟨⟨trivial, trivial⟩, trivial⟩ ?_
                try simp (disch := omega) only [rLs, rI_mul, nI_add, nI_1, nI_clamp, c11, pr_8_10, pr_8_11, pr_8_9, pr_i_1, pr_i_m1]
                refine pr_ic rfl (fun h46 => ?_) (fun h46 => ?_)
                · simp only [ab_cmp, pr_8_10, pr_8_11, pr_8_9, pr_i_1, pr_i_m1] at h46
                  exact absurd trivial h46
                · simp only [ab_cmp, pr_8_10, pr_8_11, pr_8_9, pr_i_1, pr_i_m1] at h46
                  first
                  | contradiction
                  | exact absurd trivial h46
                  | exact absurd h46 (by decide)
                  | exact absurd (Classical.not_not.mp h46) (by decide)
                  | skip
                    refine pr_seq (pc' := 51) 2 rfl ⟨⟨trivial, (by first | decide | assumption)⟩, trivial⟩ ?_
                    try simp (disch := omega) only [rLs, rI_mul, nI_add, nI_1, nI_clamp, c11, pr_8_10, pr_8_11, pr_8_9, pr_i_1, pr_i_m1]
                    refine pr_cv [_] rfl rfl rfl rfl rfl (Nat.le_of_ble_eq_true rfl) (by first | assumption | decide | (simp (disch := omega) only [rLs, rI_mul, nI_add, nI_1, nI_clamp, c11, pr_8_10, pr_8_11, pr_8_9, pr_i_1, pr_i_m1]; first | assumption | exact ⟨Or.inl (by assumption), rvin (by assumption) (by omega) (by decide)⟩ | exact ⟨by assumption, rvin (by assumption) (by omega) (by decide)⟩ | exact ⟨⟨by omega, by omega⟩, rvin (by assumption) (by omega) (by decide)⟩ | exact ⟨Or.inl (by assumption), by assumption⟩ | exact ⟨Or.inr (by assumption), by assumption⟩ | exact ⟨by assumption, by assumption⟩ | decide | omega)) (Nat.le_of_ble_eq_true rfl) (hls) ?_
                    refine pr_seq (pc' := 89) 1 rfl ⟨trivial, trivial⟩ ?_
                    try simp (disch := omega) only [rLs, rI_mul, nI_add, nI_1, nI_clamp, c11, pr_8_10, pr_8_11, pr_8_9, pr_i_1, pr_i_m1]
                    exact pr_irM rfl (by rfl) trivial (by rfl)
            · simp only [ab_cmp, pr_8_10, pr_8_11, pr_8_9, pr_i_1, pr_i_m1] at h15
              first
              | contradiction
              | exact absurd trivial h15
              | exact absurd h15 (by decide)
              | exact absurd (Classical.not_not.mp h15) (by decide)
              | skip
                refine pr_seq (pc' := 36) 12 rfl ⟨⟨⟨⟨⟨⟨⟨⟨⟨⟨⟨⟨trivial, trivial⟩, trivial⟩, trivial⟩, trivial⟩, (by first | decide | assumption)⟩, (by assumption)⟩, trivial⟩, trivial⟩, trivial⟩, (by first | assumption | decide | (simp (disch := omega) only [rLs, rI_mul, nI_add, nI_1, nI_clamp, c11, pr_8_10, pr_8_11, pr_8_9, pr_i_1, pr_i_m1]; first | assumption | exact ⟨Or.inl (by assumption), rvin (by assumption) (by omega) (by decide)⟩ | exact ⟨by assumption, rvin (by assumption) (by omega) (by decide)⟩ | exact ⟨⟨by omega, by omega⟩, rvin (by assumption) (by omega) (by decide)⟩ | exact ⟨Or.inl (by assumption), by assumption⟩ | exact ⟨Or.inr (by assumption), by assumption⟩ | exact ⟨by assumption, by assumption⟩ | decide | omega))⟩, trivial⟩, trivial⟩ ?_
                try simp (disch := omega) only [rLs, rI_mul, nI_add, nI_1, nI_clamp, c11, pr_8_10, pr_8_11, pr_8_9, pr_i_1, pr_i_m1]
                fail "no call@36 yX11_in"
      · rw [if_neg w0, if_neg w1]
        rw [in01 w0 w1] at h01
        have hpl := q_in (a := w.toInt64) (b := Int64.ofNat 10) (c := (9 + nI u.length).toInt64) w 10 (9 + nI u.length) h M rfl rfl rfl
        rw [ix_pl w _ (by omega)] at hpl
        rcases pr_ix (w - 10) (show u.length ≤ 1000000 by omega) with q2 | ⟨k, hk, e, q2⟩
        · rw [show ixb (w - 10) u.length = false from q2] at hpl
          rw [nm_q_o q2]
          refine pr_seq (pc' := 2) 2 rfl ⟨⟨trivial, (by first | decide | assumption)⟩, trivial⟩ ?_
          try simp (disch := omega) only [y1, rLs, rI_mul, nI_add, nI_1, nI_clamp, c11, pr_8_10, pr_8_11, pr_8_9, pr_i_1, pr_i_m1]
          refine pr_cv [_] rfl rfl rfl rfl rfl (Nat.le_of_ble_eq_true rfl) (by first | assumption | decide | (simp (disch := omega) only [y1, rLs, rI_mul, nI_add, nI_1, nI_clamp, c11, pr_8_10, pr_8_11, pr_8_9, pr_i_1, pr_i_m1]; first | assumption | exact ⟨Or.inl (by assumption), rvin (by assumption) (by omega) (by decide)⟩ | exact ⟨by assumption, rvin (by assumption) (by omega) (by decide)⟩ | exact ⟨⟨by omega, by omega⟩, rvin (by assumption) (by omega) (by decide)⟩ | exact ⟨Or.inl (by assumption), by assumption⟩ | exact ⟨Or.inr (by assumption), by assumption⟩ | exact ⟨by assumption, by assumption⟩ | decide | omega)) (Nat.le_of_ble_eq_true rfl) (hi) ?_
          refine pr_if rfl (fun h5 => ?_) (fun h5 => ?_)
          · simp only [ab_cmp, pr_8_10, pr_8_11, pr_8_9, pr_i_1, pr_i_m1] at h5
            first
            | contradiction
            | exact absurd trivial h5
            | exact absurd h5 (by decide)
            | exact absurd (Classical.not_not.mp h5) (by decide)
            | skip
              refine pr_seq (pc' := 43) 1 rfl ⟨trivial, trivial⟩ ?_
              try simp (disch := omega) only [y1, rLs, rI_mul, nI_add, nI_1, nI_clamp, c11, pr_8_10, pr_8_11, pr_8_9, pr_i_1, pr_i_m1]
              exact pr_irM rfl (by rfl) trivial (by rfl)
          · simp only [ab_cmp, pr_8_10, pr_8_11, pr_8_9, pr_i_1, pr_i_m1] at h5
            first
            | contradiction
            | exact absurd trivial h5
            | exact absurd h5 (by decide)
            | exact absurd (Classical.not_not.mp h5) (by decide)
            | skip
              refine pr_seq (pc' := 12) 4 rfl ⟨⟨⟨⟨trivial, trivial⟩, trivial⟩, trivial⟩, trivial⟩ ?_
              try simp (disch := omega) only [y1, rLs, rI_mul, nI_add, nI_1, nI_clamp, c11, pr_8_10, pr_8_11, pr_8_9, pr_i_1, pr_i_m1]
              refine pr_cs [_, _, _] rfl rfl rfl rfl rfl (Nat.le_of_ble_eq_true rfl) (Nat.le_of_ble_eq_true rfl) (h01) ?_
              refine pr_if rfl (fun h15 => ?_) (fun h15 => ?_)
              · simp only [ab_cmp, pr_8_10, pr_8_11, pr_8_9, pr_i_1, pr_i_m1] at h15
                first
                | contradiction
                | exact absurd trivial h15
                | exact absurd h15 (by decide)
                | exact absurd (Classical.not_not.mp h15) (by decide)
                | skip
                  refine pr_seq (pc' := 46) 2 rfl ⟨⟨trivial, trivial⟩, trivial⟩ ?_
                  try simp (disch := omega) only [y1, rLs, rI_mul, nI_add, nI_1, nI_clamp, c11, pr_8_10, pr_8_11, pr_8_9, pr_i_1, pr_i_m1]
                  refine pr_ic rfl (fun h46 => ?_) (fun h46 => ?_)
                  · simp only [ab_cmp, pr_8_10, pr_8_11, pr_8_9, pr_i_1, pr_i_m1] at h46
                    first
                    | contradiction
                    | exact absurd trivial h46
                    | exact absurd h46 (by decide)
                    | exact absurd (Classical.not_not.mp h46) (by decide)
                    | skip
                      refine pr_seq (pc' := 58) 1 rfl ⟨trivial, trivial⟩ ?_
                      try simp (disch := omega) only [y1, rLs, rI_mul, nI_add, nI_1, nI_clamp, c11, pr_8_10, pr_8_11, pr_8_9, pr_i_1, pr_i_m1]
                      refine pr_if rfl (fun h58 => ?_) (fun h58 => ?_)
                      · simp only [ab_cmp, pr_8_10, pr_8_11, pr_8_9, pr_i_1, pr_i_m1] at h58
                        first
                        | contradiction
                        | exact absurd trivial h58
                        | exact absurd h58 (by decide)
                        | exact absurd (Classical.not_not.mp h58) (by decide)
                        | skip
                          refine pr_seq (pc' := 89) 12 rfl ⟨⟨⟨⟨⟨⟨⟨⟨⟨⟨⟨⟨trivial, (by first | decide | assumption)⟩, (by assumption)⟩, trivial⟩, trivial⟩, trivial⟩, trivial⟩, trivial⟩, trivial⟩, trivial⟩, trivial⟩, trivial⟩, (by first | assumption | decide | (simp (disch := omega) only [y1, rLs, rI_mul, nI_add, nI_1, nI_clamp, c11, pr_8_10, pr_8_11, pr_8_9, pr_i_1, pr_i_m1]; first | assumption | exact ⟨Or.inl (by assumption), rvin (by assumption) (by omega) (by decide)⟩ | exact ⟨by assumption, rvin (by assumption) (by omega) (by decide)⟩ | exact ⟨⟨by omega, by omega⟩, rvin (by assumption) (by omega) (by decide)⟩ | exact ⟨Or.inl (by assumption), by assumption⟩ | exact ⟨Or.inr (by assumption), by assumption⟩ | exact ⟨by assumption, by assumption⟩ | decide | omega))⟩ ?_
                          try simp (disch := omega) only [y1, rLs, rI_mul, nI_add, nI_1, nI_clamp, c11, pr_8_10, pr_8_11, pr_8_9, pr_i_1, pr_i_m1]
                          exact pr_irM rfl (by first | rfl | (simp (disch := omega) only [y1, rLs, rI_mul, nI_add, nI_1, nI_clamp, c11, pr_8_10, pr_8_11, pr_8_9, pr_i_1, pr_i_m1]; done) | (simp [pr_b, pr_8_10, pr_8_11, pr_8_9, pr_i_1, pr_i_m1, *]; done) | (simp_all [pr_b, pr_8_10, pr_8_11, pr_8_9, pr_i_1, pr_i_m1]; done)) trivial (by rfl)
                      · simp only [ab_cmp, pr_8_10, pr_8_11, pr_8_9, pr_i_1, pr_i_m1] at h58
                        first
                        | contradiction
                        | exact absurd trivial h58
                        | exact absurd h58 (by decide)
                        | exact absurd (Classical.not_not.mp h58) (by decide)
                        | skip
                          refine pr_seq (pc' := 89) 7 rfl ⟨⟨⟨⟨⟨⟨⟨trivial, (by first | decide | assumption)⟩, (by assumption)⟩, trivial⟩, trivial⟩, trivial⟩, (by first | assumption | decide | (simp (disch := omega) only [y1, rLs, rI_mul, nI_add, nI_1, nI_clamp, c11, pr_8_10, pr_8_11, pr_8_9, pr_i_1, pr_i_m1]; first | assumption | exact ⟨Or.inl (by assumption), rvin (by assumption) (by omega) (by decide)⟩ | exact ⟨by assumption, rvin (by assumption) (by omega) (by decide)⟩ | exact ⟨⟨by omega, by omega⟩, rvin (by assumption) (by omega) (by decide)⟩ | exact ⟨Or.inl (by assumption), by assumption⟩ | exact ⟨Or.inr (by assumption), by assumption⟩ | exact ⟨by assumption, by assumption⟩ | decide | omega))⟩, trivial⟩ ?_
                          try simp (disch := omega) only [y1, rLs, rI_mul, nI_add, nI_1, nI_clamp, c11, pr_8_10, pr_8_11, pr_8_9, pr_i_1, pr_i_m1]
                          exact pr_irM rfl (by first | rfl | (simp (disch := omega) only [y1, rLs, rI_mul, nI_add, nI_1, nI_clamp, c11, pr_8_10, pr_8_11, pr_8_9, pr_i_1, pr_i_m1]; done) | (simp [pr_b, pr_8_10, pr_8_11, pr_8_9, pr_i_1, pr_i_m1, *]; done) | (simp_all [pr_b, pr_8_10, pr_8_11, pr_8_9, pr_i_1, pr_i_m1]; done)) trivial (by rfl)
                  · simp only [ab_cmp, pr_8_10, pr_8_11, pr_8_9, pr_i_1, pr_i_m1] at h46
                    first
                    | contradiction
                    | exact absurd trivial h46
                    | exact absurd h46 (by decide)
                    | exact absurd (Classical.not_not.mp h46) (by decide)
                    | skip
                      refine pr_seq (pc' := 51) 2 rfl ⟨⟨trivial, (by first | decide | assumption)⟩, trivial⟩ ?_
                      try simp (disch := omega) only [y1, rLs, rI_mul, nI_add, nI_1, nI_clamp, c11, pr_8_10, pr_8_11, pr_8_9, pr_i_1, pr_i_m1]
                      fail "no call@51 yX11_listSum"
              · simp only [ab_cmp, pr_8_10, pr_8_11, pr_8_9, pr_i_1, pr_i_m1] at h15
                first
                | contradiction
                | exact absurd trivial h15
                | exact absurd h15 (by decide)
                | exact absurd (Classical.not_not.mp h15) (by decide)
                | skip
                  refine pr_seq (pc' := 36) 12 rfl ⟨⟨⟨⟨⟨⟨⟨⟨⟨⟨⟨⟨trivial, trivial⟩, trivial⟩, trivial⟩, trivial⟩, (by first | decide | assumption)⟩, (by assumption)⟩, trivial⟩, trivial⟩, trivial⟩, (by first | assumption | decide | (simp (disch := omega) only [y1, rLs, rI_mul, nI_add, nI_1, nI_clamp, c11, pr_8_10, pr_8_11, pr_8_9, pr_i_1, pr_i_m1]; first | assumption | exact ⟨Or.inl (by assumption), rvin (by assumption) (by omega) (by decide)⟩ | exact ⟨by assumption, rvin (by assumption) (by omega) (by decide)⟩ | exact ⟨⟨by omega, by omega⟩, rvin (by assumption) (by omega) (by decide)⟩ | exact ⟨Or.inl (by assumption), by assumption⟩ | exact ⟨Or.inr (by assumption), by assumption⟩ | exact ⟨by assumption, by assumption⟩ | decide | omega))⟩, trivial⟩, trivial⟩ ?_
                  try simp (disch := omega) only [y1, rLs, rI_mul, nI_add, nI_1, nI_clamp, c11, pr_8_10, pr_8_11, pr_8_9, pr_i_1, pr_i_m1]
                  refine pr_cs [_, _, _] rfl rfl rfl rfl rfl (Nat.le_of_ble_eq_true rfl) (Nat.le_of_ble_eq_true rfl) ((by first | exact hpl | simpa [nI_add] using hpl)) ?_
                  refine pr_if rfl (fun h39 => ?_) (fun h39 => ?_)
                  · simp only [ab_cmp, pr_8_10, pr_8_11, pr_8_9, pr_i_1, pr_i_m1] at h39
                    first
                    | contradiction
                    | exact absurd trivial h39
                    | exact absurd h39 (by decide)
                    | exact absurd (Classical.not_not.mp h39) (by decide)
                    | skip
                      refine pr_seq (pc' := 46) 2 rfl ⟨⟨trivial, trivial⟩, trivial⟩ ?_
                      try simp (disch := omega) only [y1, rLs, rI_mul, nI_add, nI_1, nI_clamp, c11, pr_8_10, pr_8_11, pr_8_9, pr_i_1, pr_i_m1]
                      refine pr_ic rfl (fun h46 => ?_) (fun h46 => ?_)
                      · simp only [ab_cmp, pr_8_10, pr_8_11, pr_8_9, pr_i_1, pr_i_m1] at h46
                        first
                        | contradiction
                        | exact absurd trivial h46
                        | exact absurd h46 (by decide)
                        | exact absurd (Classical.not_not.mp h46) (by decide)
                        | skip
                          refine pr_seq (pc' := 58) 1 rfl ⟨trivial, trivial⟩ ?_
                          try simp (disch := omega) only [y1, rLs, rI_mul, nI_add, nI_1, nI_clamp, c11, pr_8_10, pr_8_11, pr_8_9, pr_i_1, pr_i_m1]
                          refine pr_if rfl (fun h58 => ?_) (fun h58 => ?_)
                          · simp only [ab_cmp, pr_8_10, pr_8_11, pr_8_9, pr_i_1, pr_i_m1] at h58
                            first
                            | contradiction
                            | exact absurd trivial h58
                            | exact absurd h58 (by decide)
                            | exact absurd (Classical.not_not.mp h58) (by decide)
                            | skip
                              refine pr_seq (pc' := 89) 12 rfl ⟨⟨⟨⟨⟨⟨⟨⟨⟨⟨⟨⟨trivial, (by first | decide | assumption)⟩, (by assumption)⟩, trivial⟩, trivial⟩, trivial⟩, trivial⟩, trivial⟩, trivial⟩, trivial⟩, trivial⟩, trivial⟩, (by first | assumption | decide | (simp (disch := omega) only [y1, rLs, rI_mul, nI_add, nI_1, nI_clamp, c11, pr_8_10, pr_8_11, pr_8_9, pr_i_1, pr_i_m1]; first | assumption | exact ⟨Or.inl (by assumption), rvin (by assumption) (by omega) (by decide)⟩ | exact ⟨by assumption, rvin (by assumption) (by omega) (by decide)⟩ | exact ⟨⟨by omega, by omega⟩, rvin (by assumption) (by omega) (by decide)⟩ | exact ⟨Or.inl (by assumption), by assumption⟩ | exact ⟨Or.inr (by assumption), by assumption⟩ | exact ⟨by assumption, by assumption⟩ | decide | omega))⟩ ?_
                              try simp (disch := omega) only [y1, rLs, rI_mul, nI_add, nI_1, nI_clamp, c11, pr_8_10, pr_8_11, pr_8_9, pr_i_1, pr_i_m1]
                              exact pr_irM rfl (by first | rfl | (simp (disch := omega) only [y1, rLs, rI_mul, nI_add, nI_1, nI_clamp, c11, pr_8_10, pr_8_11, pr_8_9, pr_i_1, pr_i_m1]; done) | (simp [pr_b, pr_8_10, pr_8_11, pr_8_9, pr_i_1, pr_i_m1, *]; done) | (simp_all [pr_b, pr_8_10, pr_8_11, pr_8_9, pr_i_1, pr_i_m1]; done)) trivial (by rfl)
                          · simp only [ab_cmp, pr_8_10, pr_8_11, pr_8_9, pr_i_1, pr_i_m1] at h58
                            first
                            | contradiction
                            | exact absurd trivial h58
                            | exact absurd h58 (by decide)
                            | exact absurd (Classical.not_not.mp h58) (by decide)
                            | skip
                              refine pr_seq (pc' := 89) 7 rfl ⟨⟨⟨⟨⟨⟨⟨trivial, (by first | decide | assumption)⟩, (by assumption)⟩, trivial⟩, trivial⟩, trivial⟩, (by first | assumption | decide | (simp (disch := omega) only [y1, rLs, rI_mul, nI_add, nI_1, nI_clamp, c11, pr_8_10, pr_8_11, pr_8_9, pr_i_1, pr_i_m1]; first | assumption | exact ⟨Or.inl (by assumption), rvin (by assumption) (by omega) (by decide)⟩ | exact ⟨by assumption, rvin (by assumption) (by omega) (by decide)⟩ | exact ⟨⟨by omega, by omega⟩, rvin (by assumption) (by omega) (by decide)⟩ | exact ⟨Or.inl (by assumption), by assumption⟩ | exact ⟨Or.inr (by assumption), by assumption⟩ | exact ⟨by assumption, by assumption⟩ | decide | omega))⟩, trivial⟩ ?_
                              try simp (disch := omega) only [y1, rLs, rI_mul, nI_add, nI_1, nI_clamp, c11, pr_8_10, pr_8_11, pr_8_9, pr_i_1, pr_i_m1]
                              exact pr_irM rfl (by first | rfl | (simp (disch := omega) only [y1, rLs, rI_mul, nI_add, nI_1, nI_clamp, c11, pr_8_10, pr_8_11, pr_8_9, pr_i_1, pr_i_m1]; done) | (simp [pr_b, pr_8_10, pr_8_11, pr_8_9, pr_i_1, pr_i_m1, *]; done) | (simp_all [pr_b, pr_8_10, pr_8_11, pr_8_9, pr_i_1, pr_i_m1]; done)) trivial (by rfl)
                      · simp only [ab_cmp, pr_8_10, pr_8_11, pr_8_9, pr_i_1, pr_i_m1] at h46
                        first
                        | contradiction
                        | exact absurd trivial h46
                        | exact absurd h46 (by decide)
                        | exact absurd (Classical.not_not.mp h46) (by decide)
                        | skip
                          refine pr_seq (pc' := 51) 2 rfl ⟨⟨trivial, (by first | decide | assumption)⟩, trivial⟩ ?_
                          try simp (disch := omega) only [y1, rLs, rI_mul, nI_add, nI_1, nI_clamp, c11, pr_8_10, pr_8_11, pr_8_9, pr_i_1, pr_i_m1]
                          fail "no call@51 yX11_listSum"
                  · simp only [ab_cmp, pr_8_10, pr_8_11, pr_8_9, pr_i_1, pr_i_m1] at h39
                    first
                    | contradiction
                    | exact absurd trivial h39
                    | exact absurd h39 (by decide)
                    | exact absurd (Classical.not_not.mp h39) (by decide)
                    | skip
                      refine pr_seq (pc' := 43) 1 rfl ⟨trivial, trivial⟩ ?_
                      try simp (disch := omega) only [y1, rLs, rI_mul, nI_add, nI_1, nI_clamp, c11, pr_8_10, pr_8_11, pr_8_9, pr_i_1, pr_i_m1]
                      exact pr_irM rfl (by rfl) trivial (by rfl)
        · rw [show ixb (w - 10) u.length = true from q2] at hpl
          rw [e, nm_q_in hk (by omega)]
          have ew := w_pl e
          subst ew
          obtain ⟨e4, e5⟩ := y9 k hk
          have e6 : nI (11 * j + 1 + (k + 10)) - 10 = nI (11 * j + 1 + k) := nI_m10 _
          refine pr_seq (pc' := 2) 2 rfl ⟨⟨trivial, (by first | decide | assumption)⟩, trivial⟩ ?_
          try simp (disch := omega) only [y1, e6, e4, rLs, rI_mul, nI_add, nI_1, nI_clamp, c11, pr_8_10, pr_8_11, pr_8_9, pr_i_1, pr_i_m1]
          refine pr_cv [_] rfl rfl rfl rfl rfl (Nat.le_of_ble_eq_true rfl) (by first | assumption | decide | (simp (disch := omega) only [y1, e6, e4, rLs, rI_mul, nI_add, nI_1, nI_clamp, c11, pr_8_10, pr_8_11, pr_8_9, pr_i_1, pr_i_m1]; first | assumption | exact ⟨Or.inl (by assumption), rvin (by assumption) (by omega) (by decide)⟩ | exact ⟨by assumption, rvin (by assumption) (by omega) (by decide)⟩ | exact ⟨⟨by omega, by omega⟩, rvin (by assumption) (by omega) (by decide)⟩ | exact ⟨Or.inl (by assumption), by assumption⟩ | exact ⟨Or.inr (by assumption), by assumption⟩ | exact ⟨by assumption, by assumption⟩ | decide | omega)) (Nat.le_of_ble_eq_true rfl) (hi) ?_
          refine pr_if rfl (fun h5 => ?_) (fun h5 => ?_)
          · simp only [ab_cmp, pr_8_10, pr_8_11, pr_8_9, pr_i_1, pr_i_m1] at h5
            first
            | contradiction
            | exact absurd trivial h5
            | exact absurd h5 (by decide)
            | exact absurd (Classical.not_not.mp h5) (by decide)
            | skip
              refine pr_seq (pc' := 43) 1 rfl ⟨trivial, trivial⟩ ?_
              try simp (disch := omega) only [y1, e6, e4, rLs, rI_mul, nI_add, nI_1, nI_clamp, c11, pr_8_10, pr_8_11, pr_8_9, pr_i_1, pr_i_m1]
              exact pr_irM rfl (by first | rfl | (simp (disch := omega) only [y1, e6, e4, rLs, rI_mul, nI_add, nI_1, nI_clamp, c11, pr_8_10, pr_8_11, pr_8_9, pr_i_1, pr_i_m1]; done) | (simp [pr_b, pr_8_10, pr_8_11, pr_8_9, pr_i_1, pr_i_m1, *]; done) | (simp_all [pr_b, pr_8_10, pr_8_11, pr_8_9, pr_i_1, pr_i_m1]; done)) trivial (by rfl)
          · simp only [ab_cmp, pr_8_10, pr_8_11, pr_8_9, pr_i_1, pr_i_m1] at h5
            first
            | contradiction
            | exact absurd trivial h5
            | exact absurd h5 (by decide)
            | exact absurd (Classical.not_not.mp h5) (by decide)
            | skip
              refine pr_seq (pc' := 12) 4 rfl ⟨⟨⟨⟨trivial, trivial⟩, trivial⟩, trivial⟩, trivial⟩ ?_
              try simp (disch := omega) only [y1, e6, e4, rLs, rI_mul, nI_add, nI_1, nI_clamp, c11, pr_8_10, pr_8_11, pr_8_9, pr_i_1, pr_i_m1]
              refine pr_cs [_, _, _] rfl rfl rfl rfl rfl (Nat.le_of_ble_eq_true rfl) (Nat.le_of_ble_eq_true rfl) (h01) ?_
              refine pr_if rfl (fun h15 => ?_) (fun h15 => ?_)
              · simp only [ab_cmp, pr_8_10, pr_8_11, pr_8_9, pr_i_1, pr_i_m1] at h15
                first
                | contradiction
                | exact absurd trivial h15
                | exact absurd h15 (by decide)
                | exact absurd (Classical.not_not.mp h15) (by decide)
                | skip
                  refine pr_seq (pc' := 46) 2 rfl ⟨⟨trivial, trivial⟩, trivial⟩ ?_
                  try simp (disch := omega) only [y1, e6, e4, rLs, rI_mul, nI_add, nI_1, nI_clamp, c11, pr_8_10, pr_8_11, pr_8_9, pr_i_1, pr_i_m1]
                  refine pr_ic rfl (fun h46 => ?_) (fun h46 => ?_)
                  · simp only [ab_cmp, pr_8_10, pr_8_11, pr_8_9, pr_i_1, pr_i_m1] at h46
                    first
                    | contradiction
                    | exact absurd trivial h46
                    | exact absurd h46 (by decide)
                    | exact absurd (Classical.not_not.mp h46) (by decide)
                    | skip
                      refine pr_seq (pc' := 58) 1 rfl ⟨trivial, trivial⟩ ?_
                      try simp (disch := omega) only [y1, e6, e4, rLs, rI_mul, nI_add, nI_1, nI_clamp, c11, pr_8_10, pr_8_11, pr_8_9, pr_i_1, pr_i_m1]
                      refine pr_if rfl (fun h58 => ?_) (fun h58 => ?_)
                      · simp only [ab_cmp, pr_8_10, pr_8_11, pr_8_9, pr_i_1, pr_i_m1] at h58
                        first
                        | contradiction
                        | exact absurd trivial h58
                        | exact absurd h58 (by decide)
                        | exact absurd (Classical.not_not.mp h58) (by decide)
                        | skip
                          refine pr_seq (pc' := 89) 12 rfl ⟨⟨⟨⟨⟨⟨⟨⟨⟨⟨⟨⟨trivial, (by first | decide | assumption)⟩, (by assumption)⟩, trivial⟩, trivial⟩, trivial⟩, trivial⟩, trivial⟩, trivial⟩, trivial⟩, trivial⟩, trivial⟩, (by first | assumption | decide | (simp (disch := omega) only [y1, e6, e4, rLs, rI_mul, nI_add, nI_1, nI_clamp, c11, pr_8_10, pr_8_11, pr_8_9, pr_i_1, pr_i_m1]; first | assumption | exact ⟨Or.inl (by assumption), rvin (by assumption) (by omega) (by decide)⟩ | exact ⟨by assumption, rvin (by assumption) (by omega) (by decide)⟩ | exact ⟨⟨by omega, by omega⟩, rvin (by assumption) (by omega) (by decide)⟩ | exact ⟨Or.inl (by assumption), by assumption⟩ | exact ⟨Or.inr (by assumption), by assumption⟩ | exact ⟨by assumption, by assumption⟩ | decide | omega))⟩ ?_
                          try simp (disch := omega) only [y1, e6, e4, rLs, rI_mul, nI_add, nI_1, nI_clamp, c11, pr_8_10, pr_8_11, pr_8_9, pr_i_1, pr_i_m1]
                          exact pr_irM rfl (by rfl) trivial (by rfl)
                      · simp only [ab_cmp, pr_8_10, pr_8_11, pr_8_9, pr_i_1, pr_i_m1] at h58
                        exact absurd (Classical.not_not.mp h58) w0
                  · simp only [ab_cmp, pr_8_10, pr_8_11, pr_8_9, pr_i_1, pr_i_m1] at h46
                    exact absurd (Classical.not_not.mp h46) w1
              · simp only [ab_cmp, pr_8_10, pr_8_11, pr_8_9, pr_i_1, pr_i_m1] at h15
                first
                | contradiction
                | exact absurd trivial h15
                | exact absurd h15 (by decide)
                | exact absurd (Classical.not_not.mp h15) (by decide)
                | skip
                  refine pr_seq (pc' := 36) 12 rfl ⟨⟨⟨⟨⟨⟨⟨⟨⟨⟨⟨⟨trivial, trivial⟩, trivial⟩, trivial⟩, trivial⟩, (by first | decide | assumption)⟩, (by assumption)⟩, trivial⟩, trivial⟩, trivial⟩, (by first | assumption | decide | (simp (disch := omega) only [y1, e6, e4, rLs, rI_mul, nI_add, nI_1, nI_clamp, c11, pr_8_10, pr_8_11, pr_8_9, pr_i_1, pr_i_m1]; first | assumption | exact ⟨Or.inl (by assumption), rvin (by assumption) (by omega) (by decide)⟩ | exact ⟨by assumption, rvin (by assumption) (by omega) (by decide)⟩ | exact ⟨⟨by omega, by omega⟩, rvin (by assumption) (by omega) (by decide)⟩ | exact ⟨Or.inl (by assumption), by assumption⟩ | exact ⟨Or.inr (by assumption), by assumption⟩ | exact ⟨by assumption, by assumption⟩ | decide | omega))⟩, trivial⟩, trivial⟩ ?_
                  try simp (disch := omega) only [y1, e6, e4, rLs, rI_mul, nI_add, nI_1, nI_clamp, c11, pr_8_10, pr_8_11, pr_8_9, pr_i_1, pr_i_m1]
                  refine pr_cs [_, _, _] rfl rfl rfl rfl rfl (Nat.le_of_ble_eq_true rfl) (Nat.le_of_ble_eq_true rfl) ((by first | exact hpl | simpa [nI_add] using hpl)) ?_
                  refine pr_if rfl (fun h39 => ?_) (fun h39 => ?_)
                  · simp only [ab_cmp, pr_8_10, pr_8_11, pr_8_9, pr_i_1, pr_i_m1] at h39
                    first
                    | contradiction
                    | exact absurd trivial h39
                    | exact absurd h39 (by decide)
                    | exact absurd (Classical.not_not.mp h39) (by decide)
                    | skip
                      refine pr_seq (pc' := 46) 2 rfl ⟨⟨trivial, trivial⟩, trivial⟩ ?_
                      try simp (disch := omega) only [y1, e6, e4, rLs, rI_mul, nI_add, nI_1, nI_clamp, c11, pr_8_10, pr_8_11, pr_8_9, pr_i_1, pr_i_m1]
                      refine pr_ic rfl (fun h46 => ?_) (fun h46 => ?_)
                      · simp only [ab_cmp, pr_8_10, pr_8_11, pr_8_9, pr_i_1, pr_i_m1] at h46
                        first
                        | contradiction
                        | exact absurd trivial h46
                        | exact absurd h46 (by decide)
                        | exact absurd (Classical.not_not.mp h46) (by decide)
                        | skip
                          refine pr_seq (pc' := 58) 1 rfl ⟨trivial, trivial⟩ ?_
                          try simp (disch := omega) only [y1, e6, e4, rLs, rI_mul, nI_add, nI_1, nI_clamp, c11, pr_8_10, pr_8_11, pr_8_9, pr_i_1, pr_i_m1]
                          refine pr_if rfl (fun h58 => ?_) (fun h58 => ?_)
                          · simp only [ab_cmp, pr_8_10, pr_8_11, pr_8_9, pr_i_1, pr_i_m1] at h58
                            first
                            | contradiction
                            | exact absurd trivial h58
                            | exact absurd h58 (by decide)
                            | exact absurd (Classical.not_not.mp h58) (by decide)
                            | skip
                              refine pr_seq (pc' := 89) 12 rfl ⟨⟨⟨⟨⟨⟨⟨⟨⟨⟨⟨⟨trivial, (by first | decide | assumption)⟩, (by assumption)⟩, trivial⟩, trivial⟩, trivial⟩, trivial⟩, trivial⟩, trivial⟩, trivial⟩, trivial⟩, trivial⟩, (by first | assumption | decide | (simp (disch := omega) only [y1, e6, e4, rLs, rI_mul, nI_add, nI_1, nI_clamp, c11, pr_8_10, pr_8_11, pr_8_9, pr_i_1, pr_i_m1]; first | assumption | exact ⟨Or.inl (by assumption), rvin (by assumption) (by omega) (by decide)⟩ | exact ⟨by assumption, rvin (by assumption) (by omega) (by decide)⟩ | exact ⟨⟨by omega, by omega⟩, rvin (by assumption) (by omega) (by decide)⟩ | exact ⟨Or.inl (by assumption), by assumption⟩ | exact ⟨Or.inr (by assumption), by assumption⟩ | exact ⟨by assumption, by assumption⟩ | decide | omega))⟩ ?_
                              try simp (disch := omega) only [y1, e6, e4, rLs, rI_mul, nI_add, nI_1, nI_clamp, c11, pr_8_10, pr_8_11, pr_8_9, pr_i_1, pr_i_m1]
                              exact pr_irM rfl (by rfl) trivial (by rfl)
                          · simp only [ab_cmp, pr_8_10, pr_8_11, pr_8_9, pr_i_1, pr_i_m1] at h58
                            exact absurd (Classical.not_not.mp h58) w0
                      · simp only [ab_cmp, pr_8_10, pr_8_11, pr_8_9, pr_i_1, pr_i_m1] at h46
                        exact absurd (Classical.not_not.mp h46) w1
                  · simp only [ab_cmp, pr_8_10, pr_8_11, pr_8_9, pr_i_1, pr_i_m1] at h39
                    first
                    | contradiction
                    | exact absurd trivial h39
                    | exact absurd h39 (by decide)
                    | exact absurd (Classical.not_not.mp h39) (by decide)
                    | skip
                      refine pr_seq (pc' := 43) 1 rfl ⟨trivial, trivial⟩ ?_
                      try simp (disch := omega) only [y1, e6, e4, rLs, rI_mul, nI_add, nI_1, nI_clamp, c11, pr_8_10, pr_8_11, pr_8_9, pr_i_1, pr_i_m1]
                      exact pr_irM rfl (by first | rfl | (simp (disch := omega) only [y1, e6, e4, rLs, rI_mul, nI_add, nI_1, nI_clamp, c11, pr_8_10, pr_8_11, pr_8_9, pr_i_1, pr_i_m1]; done) | (simp [pr_b, pr_8_10, pr_8_11, pr_8_9, pr_i_1, pr_i_m1, *]; done) | (simp_all [pr_b, pr_8_10, pr_8_11, pr_8_9, pr_i_1, pr_i_m1]; done)) trivial (by rfl)
