
/-! ===== the reference: by which sum one is best off ===== -/
theorem q_worthAt {d : Ld} {p s : Nat} (h : ab_H) (M : ab_M) (hl : rL h M.2.2) (hv : pg_r (M.1 173) d) (hp : p < d.2.1.length) : pr_C pX11_worthAt [.ref 172, .int (nI p), .int (nI s)] h M (some (.int (a_wh (al (va_up (lS d) p (nI s)) (lK d) p) (lW d) (lD d) d.2.1.length))) h M := by
  obtain ⟨k172, rS, rLs, rKn, rPg, rRl, rRk, rTp, rCu, rLe, rLt, rSm, rIk, rLn, rLg, rCe, ⟨kS, nS⟩, ⟨kLs, nLs⟩, ⟨kKn, nKn⟩, ⟨kPg, nPg⟩, ⟨kRl, nRl⟩, ⟨kRk, nRk⟩, ⟨kTp, nTp⟩, ⟨kCu, nCu⟩, ⟨kLe, nLe⟩, ⟨kLt, nLt⟩, ⟨kSm, nSm⟩, ⟨kIk, nIk⟩, ⟨kLn, nLn⟩, ⟨kLg, nLg⟩, kCe, nCe⟩ := id hl
  obtain ⟨g1, g2, g3, g4, g5, ⟨g6, g6'⟩, g7, g8⟩ := id hv
  have hpe := q_people h M hl hv
  have hkp := q_kindOf h M hl hv hp
  have hwh := q_worthHaving (f := al (va_up (lS d) p (nI s)) (lK d) p) h M hl hv
  by_cases k4 : lK d p = 4
  · have z : nI (d_pn d p).1 = nI 4 := by rw [show (d_pn d p).1 = 4 from k4]
    have e1 : ¬ nI d.2.1.length ≤ nI 0 := nI_ge (by omega) (by omega)
    have e2 : mk (al (va_up (lS d) p (nI s)) (lK d) p) d.2.1.length = bt1 p := by
      have a1 := mo_mk (fun _ => false) p d.2.1.length hp
      unfold mo at a1
      rw [mk_none, Int32.zero_or] at a1
      rw [a1]
      refine mk_congr _ (fun i hi => ?_)
      show (decide (p = i) || (decide (lK d p ≠ 4) && _)) = _
      rw [decide_eq_false (show ¬ lK d p ≠ 4 from fun q => q k4)]
      simp
    rw [e2] at hwh
    refine pr_seq (pc' := 10) 8 rfl ⟨⟨⟨⟨⟨⟨⟨⟨trivial, trivial⟩, trivial⟩, trivial⟩, trivial⟩, trivial⟩, trivial⟩, trivial⟩, (by first | decide | assumption)⟩ ?_
    try simp (disch := omega) only [c4, rI_mul, nI_add, nI_1, nI_clamp, pr_i_0, pr_i_1, pr_i_4]
    refine pr_cv [] rfl rfl rfl rfl rfl (Nat.le_of_ble_eq_true rfl) (by first | assumption | decide | (simp (disch := omega) only [c4, rI_mul, nI_add, nI_1, nI_clamp, pr_i_0, pr_i_1, pr_i_4]; first | assumption | exact ⟨Or.inl (by assumption), rvin (by assumption) (by omega) (by decide)⟩ | exact ⟨by assumption, rvin (by assumption) (by omega) (by decide)⟩ | exact ⟨⟨by omega, by omega⟩, rvin (by assumption) (by omega) (by decide)⟩ | exact ⟨Or.inr (by assumption), rvin (by assumption) (by omega) (by decide)⟩ | exact ⟨Or.inr ⟨by assumption, (by first | exact Or.inl rfl | exact Or.inr rfl | exact pr_b01 _)⟩, rvin (by assumption) (by omega) (by decide)⟩ | exact ⟨by assumption, by assumption⟩ | decide | omega)) (Nat.le_of_ble_eq_true rfl) (hpe) ?_
    refine pr_ic rfl (fun h13 => ?_) (fun h13 => ?_)
    · simp only [ab_cmp, pr_i_0, pr_i_1, pr_i_4] at h13
      exact absurd h13 e1
    · simp only [ab_cmp, pr_i_0, pr_i_1, pr_i_4] at h13
      first
      | contradiction
      | exact absurd trivial h13
      | exact absurd h13 (by decide)
      | exact absurd (Classical.not_not.mp h13) (by decide)
      | skip
        refine pr_seq (pc' := 18) 2 rfl ⟨⟨trivial, (by first | decide | assumption)⟩, trivial⟩ ?_
        try simp (disch := omega) only [c4, rI_mul, nI_add, nI_1, nI_clamp, pr_i_0, pr_i_1, pr_i_4]
        refine pr_cv [_] rfl rfl rfl rfl rfl (Nat.le_of_ble_eq_true rfl) (by first | assumption | decide | (simp (disch := omega) only [c4, rI_mul, nI_add, nI_1, nI_clamp, pr_i_0, pr_i_1, pr_i_4]; first | assumption | exact ⟨Or.inl (by assumption), rvin (by assumption) (by omega) (by decide)⟩ | exact ⟨by assumption, rvin (by assumption) (by omega) (by decide)⟩ | exact ⟨⟨by omega, by omega⟩, rvin (by assumption) (by omega) (by decide)⟩ | exact ⟨Or.inr (by assumption), rvin (by assumption) (by omega) (by decide)⟩ | exact ⟨Or.inr ⟨by assumption, (by first | exact Or.inl rfl | exact Or.inr rfl | exact pr_b01 _)⟩, rvin (by assumption) (by omega) (by decide)⟩ | exact ⟨by assumption, by assumption⟩ | decide | omega)) (Nat.le_of_ble_eq_true rfl) (hkp) ?_
        refine pr_seq (pc' := 22) 1 rfl ⟨trivial, trivial⟩ ?_
        try simp (disch := omega) only [c4, rI_mul, nI_add, nI_1, nI_clamp, pr_i_0, pr_i_1, pr_i_4]
        refine pr_ic rfl (fun h22 => ?_) (fun h22 => ?_)
        · simp only [ab_cmp, pr_i_0, pr_i_1, pr_i_4] at h22
          first
          | contradiction
          | exact absurd trivial h22
          | exact absurd h22 (by decide)
          | exact absurd (Classical.not_not.mp h22) (by decide)
          | skip
            refine pr_seq (pc' := 70) 2 rfl ⟨⟨trivial, (by first | decide | assumption)⟩, trivial⟩ ?_
            try simp (disch := omega) only [c4, rI_mul, nI_add, nI_1, nI_clamp, pr_i_0, pr_i_1, pr_i_4]
            refine pr_cv [_] rfl rfl rfl rfl rfl (Nat.le_of_ble_eq_true rfl) (by first | assumption | decide | (simp (disch := omega) only [c4, rI_mul, nI_add, nI_1, nI_clamp, pr_i_0, pr_i_1, pr_i_4]; first | assumption | exact ⟨Or.inl (by assumption), rvin (by assumption) (by omega) (by decide)⟩ | exact ⟨by assumption, rvin (by assumption) (by omega) (by decide)⟩ | exact ⟨⟨by omega, by omega⟩, rvin (by assumption) (by omega) (by decide)⟩ | exact ⟨Or.inr (by assumption), rvin (by assumption) (by omega) (by decide)⟩ | exact ⟨Or.inr ⟨by assumption, (by first | exact Or.inl rfl | exact Or.inr rfl | exact pr_b01 _)⟩, rvin (by assumption) (by omega) (by decide)⟩ | exact ⟨by assumption, by assumption⟩ | decide | omega)) (Nat.le_of_ble_eq_true rfl) (hwh) ?_
            exact pr_irM rfl (by rfl) trivial (by rfl)
        · simp only [ab_cmp, pr_i_0, pr_i_1, pr_i_4] at h22
          exact absurd z h22
  · have z : ¬ nI (d_pn d p).1 = nI 4 := nI_ne k4 (by have := (g8 p hp).2.1; omega) (by decide)
    generalize hG : (fun q => decide (q ≠ p) && (decide (lK d q ≠ 4) && decide (lS d q = nI s))) = G
    have hGq : ∀ q, G q = (decide (q ≠ p) && (decide (lK d q ≠ 4) && decide (lS d q = nI s))) := fun q => by rw [← hG]
    have e2 : mk (al (va_up (lS d) p (nI s)) (lK d) p) d.2.1.length = mo G p d.2.1.length := by
      rw [mo_mk _ p _ hp]
      refine mk_congr _ (fun i hi => ?_)
      show (decide (p = i) || (decide (lK d p ≠ 4) && (decide (lK d i ≠ 4) && decide (va_up (lS d) p (nI s) p = va_up (lS d) p (nI s) i)))) = _
      rw [decide_eq_true (show lK d p ≠ 4 from k4), Bool.true_and, va_up_at, hGq]
      by_cases c : p = i
      · rw [decide_eq_true c, Bool.true_or, Bool.or_true]
      · rw [decide_eq_false c, decide_eq_true (show i ≠ p from fun q => c q.symm), va_up_n (fun q => c q.symm), Bool.false_or, Bool.or_false, Bool.true_and, decide_eq_decide.mpr (show nI s = lS d i ↔ lS d i = nI s from eq_comm)]
    rw [e2] at hwh
    have loop : ∀ dd k, k + dd = d.2.1.length → pr_E pX11_worthAt 7 [some (.ref 172), some (.int (nI p)), some (.int (nI s)), some (.int (mo G p k)), some (.int (nI k))] [] h M (some (.int (a_wh (al (va_up (lS d) p (nI s)) (lK d) p) (lW d) (lD d) d.2.1.length))) h M := by
      intro dd
      induction dd with
      | zero =>
        intro k hk
        obtain rfl : k = d.2.1.length := by omega
        have e1 : nI d.2.1.length ≤ nI d.2.1.length := nI_le (Nat.le_refl _) (by omega)
        refine pr_seq (pc' := 10) 2 rfl ⟨⟨trivial, trivial⟩, (by first | decide | assumption)⟩ ?_
        try simp (disch := omega) only [c4, rI_mul, nI_add, nI_1, nI_clamp, pr_i_0, pr_i_1, pr_i_4]
        refine pr_cv [] rfl rfl rfl rfl rfl (Nat.le_of_ble_eq_true rfl) (by first | assumption | decide | (simp (disch := omega) only [c4, rI_mul, nI_add, nI_1, nI_clamp, pr_i_0, pr_i_1, pr_i_4]; first | assumption | exact ⟨Or.inl (by assumption), rvin (by assumption) (by omega) (by decide)⟩ | exact ⟨by assumption, rvin (by assumption) (by omega) (by decide)⟩ | exact ⟨⟨by omega, by omega⟩, rvin (by assumption) (by omega) (by decide)⟩ | exact ⟨Or.inr (by assumption), rvin (by assumption) (by omega) (by decide)⟩ | exact ⟨Or.inr ⟨by assumption, (by first | exact Or.inl rfl | exact Or.inr rfl | exact pr_b01 _)⟩, rvin (by assumption) (by omega) (by decide)⟩ | exact ⟨by assumption, by assumption⟩ | decide | omega)) (Nat.le_of_ble_eq_true rfl) (hpe) ?_
        refine pr_ic rfl (fun h13 => ?_) (fun h13 => ?_)
        · simp only [ab_cmp, pr_i_0, pr_i_1, pr_i_4] at h13
          first
          | contradiction
          | exact absurd trivial h13
          | exact absurd h13 (by decide)
          | exact absurd (Classical.not_not.mp h13) (by decide)
          | skip
            refine pr_seq (pc' := 70) 2 rfl ⟨⟨trivial, (by first | decide | assumption)⟩, trivial⟩ ?_
            try simp (disch := omega) only [c4, rI_mul, nI_add, nI_1, nI_clamp, pr_i_0, pr_i_1, pr_i_4]
            refine pr_cv [_] rfl rfl rfl rfl rfl (Nat.le_of_ble_eq_true rfl) (by first | assumption | decide | (simp (disch := omega) only [c4, rI_mul, nI_add, nI_1, nI_clamp, pr_i_0, pr_i_1, pr_i_4]; first | assumption | exact ⟨Or.inl (by assumption), rvin (by assumption) (by omega) (by decide)⟩ | exact ⟨by assumption, rvin (by assumption) (by omega) (by decide)⟩ | exact ⟨⟨by omega, by omega⟩, rvin (by assumption) (by omega) (by decide)⟩ | exact ⟨Or.inr (by assumption), rvin (by assumption) (by omega) (by decide)⟩ | exact ⟨Or.inr ⟨by assumption, (by first | exact Or.inl rfl | exact Or.inr rfl | exact pr_b01 _)⟩, rvin (by assumption) (by omega) (by decide)⟩ | exact ⟨by assumption, by assumption⟩ | decide | omega)) (Nat.le_of_ble_eq_true rfl) (hwh) ?_
            exact pr_irM rfl (by rfl) trivial (by rfl)
        · simp only [ab_cmp, pr_i_0, pr_i_1, pr_i_4] at h13
          exact absurd e1 h13
      | succ dd ih =>
        intro k hk
        have e1 : ¬ nI d.2.1.length ≤ nI k := nI_ge (by omega) (by omega)
        have hk2 : k < d.2.1.length := by omega
        have hkk := q_kindOf h M hl hv hk2
        have hsk := q_sumOf h M hl hv hk2
        have hh := ih (k + 1) (by omega)
        by_cases c0 : k = p
        · have z0 : nI k = nI p := by rw [c0]
          rw [← mo_2 (show G k = false by rw [hGq, decide_eq_false (fun q => q c0)]; rfl)] at hh
          refine pr_seq (pc' := 10) 2 rfl ⟨⟨trivial, trivial⟩, (by first | decide | assumption)⟩ ?_
          try simp (disch := omega) only [c4, rI_mul, nI_add, nI_1, nI_clamp, pr_i_0, pr_i_1, pr_i_4]
          refine pr_cv [] rfl rfl rfl rfl rfl (Nat.le_of_ble_eq_true rfl) (by first | assumption | decide | (simp (disch := omega) only [c4, rI_mul, nI_add, nI_1, nI_clamp, pr_i_0, pr_i_1, pr_i_4]; first | assumption | exact ⟨Or.inl (by assumption), rvin (by assumption) (by omega) (by decide)⟩ | exact ⟨by assumption, rvin (by assumption) (by omega) (by decide)⟩ | exact ⟨⟨by omega, by omega⟩, rvin (by assumption) (by omega) (by decide)⟩ | exact ⟨Or.inr (by assumption), rvin (by assumption) (by omega) (by decide)⟩ | exact ⟨Or.inr ⟨by assumption, (by first | exact Or.inl rfl | exact Or.inr rfl | exact pr_b01 _)⟩, rvin (by assumption) (by omega) (by decide)⟩ | exact ⟨by assumption, by assumption⟩ | decide | omega)) (Nat.le_of_ble_eq_true rfl) (hpe) ?_
          refine pr_ic rfl (fun h13 => ?_) (fun h13 => ?_)
          · simp only [ab_cmp, pr_i_0, pr_i_1, pr_i_4] at h13
            exact absurd h13 e1
          · simp only [ab_cmp, pr_i_0, pr_i_1, pr_i_4] at h13
            first
            | contradiction
            | exact absurd trivial h13
            | exact absurd h13 (by decide)
            | exact absurd (Classical.not_not.mp h13) (by decide)
            | skip
              refine pr_seq (pc' := 18) 2 rfl ⟨⟨trivial, (by first | decide | assumption)⟩, trivial⟩ ?_
              try simp (disch := omega) only [c4, rI_mul, nI_add, nI_1, nI_clamp, pr_i_0, pr_i_1, pr_i_4]
              refine pr_cv [_] rfl rfl rfl rfl rfl (Nat.le_of_ble_eq_true rfl) (by first | assumption | decide | (simp (disch := omega) only [c4, rI_mul, nI_add, nI_1, nI_clamp, pr_i_0, pr_i_1, pr_i_4]; first | assumption | exact ⟨Or.inl (by assumption), rvin (by assumption) (by omega) (by decide)⟩ | exact ⟨by assumption, rvin (by assumption) (by omega) (by decide)⟩ | exact ⟨⟨by omega, by omega⟩, rvin (by assumption) (by omega) (by decide)⟩ | exact ⟨Or.inr (by assumption), rvin (by assumption) (by omega) (by decide)⟩ | exact ⟨Or.inr ⟨by assumption, (by first | exact Or.inl rfl | exact Or.inr rfl | exact pr_b01 _)⟩, rvin (by assumption) (by omega) (by decide)⟩ | exact ⟨by assumption, by assumption⟩ | decide | omega)) (Nat.le_of_ble_eq_true rfl) (hkp) ?_
              refine pr_seq (pc' := 22) 1 rfl ⟨trivial, trivial⟩ ?_
              try simp (disch := omega) only [c4, rI_mul, nI_add, nI_1, nI_clamp, pr_i_0, pr_i_1, pr_i_4]
              refine pr_ic rfl (fun h22 => ?_) (fun h22 => ?_)
              · simp only [ab_cmp, pr_i_0, pr_i_1, pr_i_4] at h22
                exact absurd h22 z
              · simp only [ab_cmp, pr_i_0, pr_i_1, pr_i_4] at h22
                first
                | contradiction
                | exact absurd trivial h22
                | exact absurd h22 (by decide)
                | exact absurd (Classical.not_not.mp h22) (by decide)
                | skip
                  refine pr_seq (pc' := 29) 3 rfl ⟨⟨⟨trivial, trivial⟩, trivial⟩, trivial⟩ ?_
                  try simp (disch := omega) only [c4, rI_mul, nI_add, nI_1, nI_clamp, pr_i_0, pr_i_1, pr_i_4]
                  refine pr_ic rfl (fun h29 => ?_) (fun h29 => ?_)
                  · simp only [ab_cmp, pr_i_0, pr_i_1, pr_i_4] at h29
                    first
                    | contradiction
                    | exact absurd trivial h29
                    | exact absurd h29 (by decide)
                    | exact absurd (Classical.not_not.mp h29) (by decide)
                    | skip
                      refine pr_seq (pc' := 7) 5 rfl ⟨⟨⟨⟨⟨trivial, trivial⟩, trivial⟩, trivial⟩, trivial⟩, trivial⟩ ?_
                      try simp (disch := omega) only [c4, rI_mul, nI_add, nI_1, nI_clamp, pr_i_0, pr_i_1, pr_i_4]
                      exact hh
                  · simp only [ab_cmp, pr_i_0, pr_i_1, pr_i_4] at h29
                    exact absurd z0 h29
        · have z0 : ¬ nI k = nI p := nI_ne c0 (by omega) (by omega)
          by_cases c1 : lK d k = 4
          · have z1 : nI (d_pn d k).1 = nI 4 := by rw [show (d_pn d k).1 = 4 from c1]
            rw [← mo_2 (show G k = false by rw [hGq, decide_eq_false (show ¬ lK d k ≠ 4 from fun q => q c1), Bool.false_and, Bool.and_false])] at hh
            refine pr_seq (pc' := 10) 2 rfl ⟨⟨trivial, trivial⟩, (by first | decide | assumption)⟩ ?_
            try simp (disch := omega) only [c4, rI_mul, nI_add, nI_1, nI_clamp, pr_i_0, pr_i_1, pr_i_4]
            refine pr_cv [] rfl rfl rfl rfl rfl (Nat.le_of_ble_eq_true rfl) (by first | assumption | decide | (simp (disch := omega) only [c4, rI_mul, nI_add, nI_1, nI_clamp, pr_i_0, pr_i_1, pr_i_4]; first | assumption | exact ⟨Or.inl (by assumption), rvin (by assumption) (by omega) (by decide)⟩ | exact ⟨by assumption, rvin (by assumption) (by omega) (by decide)⟩ | exact ⟨⟨by omega, by omega⟩, rvin (by assumption) (by omega) (by decide)⟩ | exact ⟨Or.inr (by assumption), rvin (by assumption) (by omega) (by decide)⟩ | exact ⟨Or.inr ⟨by assumption, (by first | exact Or.inl rfl | exact Or.inr rfl | exact pr_b01 _)⟩, rvin (by assumption) (by omega) (by decide)⟩ | exact ⟨by assumption, by assumption⟩ | decide | omega)) (Nat.le_of_ble_eq_true rfl) (hpe) ?_
            refine pr_ic rfl (fun h13 => ?_) (fun h13 => ?_)
            · simp only [ab_cmp, pr_i_0, pr_i_1, pr_i_4] at h13
              exact absurd h13 e1
            · simp only [ab_cmp, pr_i_0, pr_i_1, pr_i_4] at h13
              first
              | contradiction
              | exact absurd trivial h13
              | exact absurd h13 (by decide)
              | exact absurd (Classical.not_not.mp h13) (by decide)
              | skip
                refine pr_seq (pc' := 18) 2 rfl ⟨⟨trivial, (by first | decide | assumption)⟩, trivial⟩ ?_
                try simp (disch := omega) only [c4, rI_mul, nI_add, nI_1, nI_clamp, pr_i_0, pr_i_1, pr_i_4]
                refine pr_cv [_] rfl rfl rfl rfl rfl (Nat.le_of_ble_eq_true rfl) (by first | assumption | decide | (simp (disch := omega) only [c4, rI_mul, nI_add, nI_1, nI_clamp, pr_i_0, pr_i_1, pr_i_4]; first | assumption | exact ⟨Or.inl (by assumption), rvin (by assumption) (by omega) (by decide)⟩ | exact ⟨by assumption, rvin (by assumption) (by omega) (by decide)⟩ | exact ⟨⟨by omega, by omega⟩, rvin (by assumption) (by omega) (by decide)⟩ | exact ⟨Or.inr (by assumption), rvin (by assumption) (by omega) (by decide)⟩ | exact ⟨Or.inr ⟨by assumption, (by first | exact Or.inl rfl | exact Or.inr rfl | exact pr_b01 _)⟩, rvin (by assumption) (by omega) (by decide)⟩ | exact ⟨by assumption, by assumption⟩ | decide | omega)) (Nat.le_of_ble_eq_true rfl) (hkp) ?_
                refine pr_seq (pc' := 22) 1 rfl ⟨trivial, trivial⟩ ?_
                try simp (disch := omega) only [c4, rI_mul, nI_add, nI_1, nI_clamp, pr_i_0, pr_i_1, pr_i_4]
                refine pr_ic rfl (fun h22 => ?_) (fun h22 => ?_)
                · simp only [ab_cmp, pr_i_0, pr_i_1, pr_i_4] at h22
                  exact absurd h22 z
                · simp only [ab_cmp, pr_i_0, pr_i_1, pr_i_4] at h22
                  first
                  | contradiction
                  | exact absurd trivial h22
                  | exact absurd h22 (by decide)
                  | exact absurd (Classical.not_not.mp h22) (by decide)
                  | skip
                    refine pr_seq (pc' := 29) 3 rfl ⟨⟨⟨trivial, trivial⟩, trivial⟩, trivial⟩ ?_
                    try simp (disch := omega) only [c4, rI_mul, nI_add, nI_1, nI_clamp, pr_i_0, pr_i_1, pr_i_4]
                    refine pr_ic rfl (fun h29 => ?_) (fun h29 => ?_)
                    · simp only [ab_cmp, pr_i_0, pr_i_1, pr_i_4] at h29
                      exact absurd h29 z0
                    · simp only [ab_cmp, pr_i_0, pr_i_1, pr_i_4] at h29
                      first
                      | contradiction
                      | exact absurd trivial h29
                      | exact absurd h29 (by decide)
                      | exact absurd (Classical.not_not.mp h29) (by decide)
                      | skip
                        refine pr_seq (pc' := 35) 2 rfl ⟨⟨trivial, (by first | decide | assumption)⟩, trivial⟩ ?_
                        try simp (disch := omega) only [c4, rI_mul, nI_add, nI_1, nI_clamp, pr_i_0, pr_i_1, pr_i_4]
                        refine pr_cv [_] rfl rfl rfl rfl rfl (Nat.le_of_ble_eq_true rfl) (by first | assumption | decide | (simp (disch := omega) only [c4, rI_mul, nI_add, nI_1, nI_clamp, pr_i_0, pr_i_1, pr_i_4]; first | assumption | exact ⟨Or.inl (by assumption), rvin (by assumption) (by omega) (by decide)⟩ | exact ⟨by assumption, rvin (by assumption) (by omega) (by decide)⟩ | exact ⟨⟨by omega, by omega⟩, rvin (by assumption) (by omega) (by decide)⟩ | exact ⟨Or.inr (by assumption), rvin (by assumption) (by omega) (by decide)⟩ | exact ⟨Or.inr ⟨by assumption, (by first | exact Or.inl rfl | exact Or.inr rfl | exact pr_b01 _)⟩, rvin (by assumption) (by omega) (by decide)⟩ | exact ⟨by assumption, by assumption⟩ | decide | omega)) (Nat.le_of_ble_eq_true rfl) (hkk) ?_
                        refine pr_seq (pc' := 39) 1 rfl ⟨trivial, trivial⟩ ?_
                        try simp (disch := omega) only [c4, rI_mul, nI_add, nI_1, nI_clamp, pr_i_0, pr_i_1, pr_i_4]
                        refine pr_ic rfl (fun h39 => ?_) (fun h39 => ?_)
                        · simp only [ab_cmp, pr_i_0, pr_i_1, pr_i_4] at h39
                          first
                          | contradiction
                          | exact absurd trivial h39
                          | exact absurd h39 (by decide)
                          | exact absurd (Classical.not_not.mp h39) (by decide)
                          | skip
                            refine pr_seq (pc' := 7) 5 rfl ⟨⟨⟨⟨⟨trivial, trivial⟩, trivial⟩, trivial⟩, trivial⟩, trivial⟩ ?_
                            try simp (disch := omega) only [c4, rI_mul, nI_add, nI_1, nI_clamp, pr_i_0, pr_i_1, pr_i_4]
                            exact hh
                        · simp only [ab_cmp, pr_i_0, pr_i_1, pr_i_4] at h39
                          exact absurd z1 h39
          · have z1 : ¬ nI (d_pn d k).1 = nI 4 := nI_ne c1 (by have := (g8 k hk2).2.1; omega) (by decide)
            by_cases c2 : lS d k = nI s
            · rw [← mo_1 (show G k = true by rw [hGq, decide_eq_true (show k ≠ p from c0), decide_eq_true (show lK d k ≠ 4 from c1), decide_eq_true c2]; rfl)] at hh
              refine pr_seq (pc' := 10) 2 rfl ⟨⟨trivial, trivial⟩, (by first | decide | assumption)⟩ ?_
              try simp (disch := omega) only [c4, rI_mul, nI_add, nI_1, nI_clamp, pr_i_0, pr_i_1, pr_i_4]
              refine pr_cv [] rfl rfl rfl rfl rfl (Nat.le_of_ble_eq_true rfl) (by first | assumption | decide | (simp (disch := omega) only [c4, rI_mul, nI_add, nI_1, nI_clamp, pr_i_0, pr_i_1, pr_i_4]; first | assumption | exact ⟨Or.inl (by assumption), rvin (by assumption) (by omega) (by decide)⟩ | exact ⟨by assumption, rvin (by assumption) (by omega) (by decide)⟩ | exact ⟨⟨by omega, by omega⟩, rvin (by assumption) (by omega) (by decide)⟩ | exact ⟨Or.inr (by assumption), rvin (by assumption) (by omega) (by decide)⟩ | exact ⟨Or.inr ⟨by assumption, (by first | exact Or.inl rfl | exact Or.inr rfl | exact pr_b01 _)⟩, rvin (by assumption) (by omega) (by decide)⟩ | exact ⟨by assumption, by assumption⟩ | decide | omega)) (Nat.le_of_ble_eq_true rfl) (hpe) ?_
              refine pr_ic rfl (fun h13 => ?_) (fun h13 => ?_)
              · simp only [ab_cmp, pr_i_0, pr_i_1, pr_i_4] at h13
                exact absurd h13 e1
              · simp only [ab_cmp, pr_i_0, pr_i_1, pr_i_4] at h13
                first
                | contradiction
                | exact absurd trivial h13
                | exact absurd h13 (by decide)
                | exact absurd (Classical.not_not.mp h13) (by decide)
                | skip
                  refine pr_seq (pc' := 18) 2 rfl ⟨⟨trivial, (by first | decide | assumption)⟩, trivial⟩ ?_
                  try simp (disch := omega) only [c4, rI_mul, nI_add, nI_1, nI_clamp, pr_i_0, pr_i_1, pr_i_4]
                  refine pr_cv [_] rfl rfl rfl rfl rfl (Nat.le_of_ble_eq_true rfl) (by first | assumption | decide | (simp (disch := omega) only [c4, rI_mul, nI_add, nI_1, nI_clamp, pr_i_0, pr_i_1, pr_i_4]; first | assumption | exact ⟨Or.inl (by assumption), rvin (by assumption) (by omega) (by decide)⟩ | exact ⟨by assumption, rvin (by assumption) (by omega) (by decide)⟩ | exact ⟨⟨by omega, by omega⟩, rvin (by assumption) (by omega) (by decide)⟩ | exact ⟨Or.inr (by assumption), rvin (by assumption) (by omega) (by decide)⟩ | exact ⟨Or.inr ⟨by assumption, (by first | exact Or.inl rfl | exact Or.inr rfl | exact pr_b01 _)⟩, rvin (by assumption) (by omega) (by decide)⟩ | exact ⟨by assumption, by assumption⟩ | decide | omega)) (Nat.le_of_ble_eq_true rfl) (hkp) ?_
                  refine pr_seq (pc' := 22) 1 rfl ⟨trivial, trivial⟩ ?_
                  try simp (disch := omega) only [c4, rI_mul, nI_add, nI_1, nI_clamp, pr_i_0, pr_i_1, pr_i_4]
                  refine pr_ic rfl (fun h22 => ?_) (fun h22 => ?_)
                  · simp only [ab_cmp, pr_i_0, pr_i_1, pr_i_4] at h22
                    exact absurd h22 z
                  · simp only [ab_cmp, pr_i_0, pr_i_1, pr_i_4] at h22
                    first
                    | contradiction
                    | exact absurd trivial h22
                    | exact absurd h22 (by decide)
                    | exact absurd (Classical.not_not.mp h22) (by decide)
                    | skip
                      refine pr_seq (pc' := 29) 3 rfl ⟨⟨⟨trivial, trivial⟩, trivial⟩, trivial⟩ ?_
                      try simp (disch := omega) only [c4, rI_mul, nI_add, nI_1, nI_clamp, pr_i_0, pr_i_1, pr_i_4]
                      refine pr_ic rfl (fun h29 => ?_) (fun h29 => ?_)
                      · simp only [ab_cmp, pr_i_0, pr_i_1, pr_i_4] at h29
                        exact absurd h29 z0
                      · simp only [ab_cmp, pr_i_0, pr_i_1, pr_i_4] at h29
                        first
                        | contradiction
                        | exact absurd trivial h29
                        | exact absurd h29 (by decide)
                        | exact absurd (Classical.not_not.mp h29) (by decide)
                        | skip
                          refine pr_seq (pc' := 35) 2 rfl ⟨⟨trivial, (by first | decide | assumption)⟩, trivial⟩ ?_
                          try simp (disch := omega) only [c4, rI_mul, nI_add, nI_1, nI_clamp, pr_i_0, pr_i_1, pr_i_4]
                          refine pr_cv [_] rfl rfl rfl rfl rfl (Nat.le_of_ble_eq_true rfl) (by first | assumption | decide | (simp (disch := omega) only [c4, rI_mul, nI_add, nI_1, nI_clamp, pr_i_0, pr_i_1, pr_i_4]; first | assumption | exact ⟨Or.inl (by assumption), rvin (by assumption) (by omega) (by decide)⟩ | exact ⟨by assumption, rvin (by assumption) (by omega) (by decide)⟩ | exact ⟨⟨by omega, by omega⟩, rvin (by assumption) (by omega) (by decide)⟩ | exact ⟨Or.inr (by assumption), rvin (by assumption) (by omega) (by decide)⟩ | exact ⟨Or.inr ⟨by assumption, (by first | exact Or.inl rfl | exact Or.inr rfl | exact pr_b01 _)⟩, rvin (by assumption) (by omega) (by decide)⟩ | exact ⟨by assumption, by assumption⟩ | decide | omega)) (Nat.le_of_ble_eq_true rfl) (hkk) ?_
                          refine pr_seq (pc' := 39) 1 rfl ⟨trivial, trivial⟩ ?_
                          try simp (disch := omega) only [c4, rI_mul, nI_add, nI_1, nI_clamp, pr_i_0, pr_i_1, pr_i_4]
                          refine pr_ic rfl (fun h39 => ?_) (fun h39 => ?_)
                          · simp only [ab_cmp, pr_i_0, pr_i_1, pr_i_4] at h39
                            exact absurd h39 z1
                          · simp only [ab_cmp, pr_i_0, pr_i_1, pr_i_4] at h39
                            first
                            | contradiction
                            | exact absurd trivial h39
                            | exact absurd h39 (by decide)
                            | exact absurd (Classical.not_not.mp h39) (by decide)
                            | skip
                              refine pr_seq (pc' := 45) 2 rfl ⟨⟨trivial, (by first | decide | assumption)⟩, trivial⟩ ?_
                              try simp (disch := omega) only [c4, rI_mul, nI_add, nI_1, nI_clamp, pr_i_0, pr_i_1, pr_i_4]
                              refine pr_cv [_] rfl rfl rfl rfl rfl (Nat.le_of_ble_eq_true rfl) (by first | assumption | decide | (simp (disch := omega) only [c4, rI_mul, nI_add, nI_1, nI_clamp, pr_i_0, pr_i_1, pr_i_4]; first | assumption | exact ⟨Or.inl (by assumption), rvin (by assumption) (by omega) (by decide)⟩ | exact ⟨by assumption, rvin (by assumption) (by omega) (by decide)⟩ | exact ⟨⟨by omega, by omega⟩, rvin (by assumption) (by omega) (by decide)⟩ | exact ⟨Or.inr (by assumption), rvin (by assumption) (by omega) (by decide)⟩ | exact ⟨Or.inr ⟨by assumption, (by first | exact Or.inl rfl | exact Or.inr rfl | exact pr_b01 _)⟩, rvin (by assumption) (by omega) (by decide)⟩ | exact ⟨by assumption, by assumption⟩ | decide | omega)) (Nat.le_of_ble_eq_true rfl) (hsk) ?_
                              refine pr_seq (pc' := 49) 1 rfl ⟨trivial, trivial⟩ ?_
                              try simp (disch := omega) only [c4, rI_mul, nI_add, nI_1, nI_clamp, pr_i_0, pr_i_1, pr_i_4]
                              refine pr_ic rfl (fun h49 => ?_) (fun h49 => ?_)
                              · simp only [ab_cmp, pr_i_0, pr_i_1, pr_i_4] at h49
                                exact absurd c2 h49
                              · simp only [ab_cmp, pr_i_0, pr_i_1, pr_i_4] at h49
                                first
                                | contradiction
                                | exact absurd trivial h49
                                | exact absurd h49 (by decide)
                                | exact absurd (Classical.not_not.mp h49) (by decide)
                                | skip
                                  refine pr_seq (pc' := 7) 8 rfl ⟨⟨⟨⟨⟨⟨⟨⟨trivial, trivial⟩, trivial⟩, trivial⟩, trivial⟩, trivial⟩, trivial⟩, trivial⟩, trivial⟩ ?_
                                  try simp (disch := omega) only [c4, rI_mul, nI_add, nI_1, nI_clamp, pr_i_0, pr_i_1, pr_i_4]
                                  exact hh
            · rw [← mo_2 (show G k = false by rw [hGq, decide_eq_false c2, Bool.and_false, Bool.and_false])] at hh
              refine pr_seq (pc' := 10) 2 rfl ⟨⟨trivial, trivial⟩, (by first | decide | assumption)⟩ ?_
              try simp (disch := omega) only [c4, rI_mul, nI_add, nI_1, nI_clamp, pr_i_0, pr_i_1, pr_i_4]
              refine pr_cv [] rfl rfl rfl rfl rfl (Nat.le_of_ble_eq_true rfl) (by first | assumption | decide | (simp (disch := omega) only [c4, rI_mul, nI_add, nI_1, nI_clamp, pr_i_0, pr_i_1, pr_i_4]; first | assumption | exact ⟨Or.inl (by assumption), rvin (by assumption) (by omega) (by decide)⟩ | exact ⟨by assumption, rvin (by assumption) (by omega) (by decide)⟩ | exact ⟨⟨by omega, by omega⟩, rvin (by assumption) (by omega) (by decide)⟩ | exact ⟨Or.inr (by assumption), rvin (by assumption) (by omega) (by decide)⟩ | exact ⟨Or.inr ⟨by assumption, (by first | exact Or.inl rfl | exact Or.inr rfl | exact pr_b01 _)⟩, rvin (by assumption) (by omega) (by decide)⟩ | exact ⟨by assumption, by assumption⟩ | decide | omega)) (Nat.le_of_ble_eq_true rfl) (hpe) ?_
              refine pr_ic rfl (fun h13 => ?_) (fun h13 => ?_)
              · simp only [ab_cmp, pr_i_0, pr_i_1, pr_i_4] at h13
                exact absurd h13 e1
              · simp only [ab_cmp, pr_i_0, pr_i_1, pr_i_4] at h13
                first
                | contradiction
                | exact absurd trivial h13
                | exact absurd h13 (by decide)
                | exact absurd (Classical.not_not.mp h13) (by decide)
                | skip
                  refine pr_seq (pc' := 18) 2 rfl ⟨⟨trivial, (by first | decide | assumption)⟩, trivial⟩ ?_
                  try simp (disch := omega) only [c4, rI_mul, nI_add, nI_1, nI_clamp, pr_i_0, pr_i_1, pr_i_4]
                  refine pr_cv [_] rfl rfl rfl rfl rfl (Nat.le_of_ble_eq_true rfl) (by first | assumption | decide | (simp (disch := omega) only [c4, rI_mul, nI_add, nI_1, nI_clamp, pr_i_0, pr_i_1, pr_i_4]; first | assumption | exact ⟨Or.inl (by assumption), rvin (by assumption) (by omega) (by decide)⟩ | exact ⟨by assumption, rvin (by assumption) (by omega) (by decide)⟩ | exact ⟨⟨by omega, by omega⟩, rvin (by assumption) (by omega) (by decide)⟩ | exact ⟨Or.inr (by assumption), rvin (by assumption) (by omega) (by decide)⟩ | exact ⟨Or.inr ⟨by assumption, (by first | exact Or.inl rfl | exact Or.inr rfl | exact pr_b01 _)⟩, rvin (by assumption) (by omega) (by decide)⟩ | exact ⟨by assumption, by assumption⟩ | decide | omega)) (Nat.le_of_ble_eq_true rfl) (hkp) ?_
                  refine pr_seq (pc' := 22) 1 rfl ⟨trivial, trivial⟩ ?_
                  try simp (disch := omega) only [c4, rI_mul, nI_add, nI_1, nI_clamp, pr_i_0, pr_i_1, pr_i_4]
                  refine pr_ic rfl (fun h22 => ?_) (fun h22 => ?_)
                  · simp only [ab_cmp, pr_i_0, pr_i_1, pr_i_4] at h22
                    exact absurd h22 z
                  · simp only [ab_cmp, pr_i_0, pr_i_1, pr_i_4] at h22
                    first
                    | contradiction
                    | exact absurd trivial h22
                    | exact absurd h22 (by decide)
                    | exact absurd (Classical.not_not.mp h22) (by decide)
                    | skip
                      refine pr_seq (pc' := 29) 3 rfl ⟨⟨⟨trivial, trivial⟩, trivial⟩, trivial⟩ ?_
                      try simp (disch := omega) only [c4, rI_mul, nI_add, nI_1, nI_clamp, pr_i_0, pr_i_1, pr_i_4]
                      refine pr_ic rfl (fun h29 => ?_) (fun h29 => ?_)
                      · simp only [ab_cmp, pr_i_0, pr_i_1, pr_i_4] at h29
                        exact absurd h29 z0
                      · simp only [ab_cmp, pr_i_0, pr_i_1, pr_i_4] at h29
                        first
                        | contradiction
                        | exact absurd trivial h29
                        | exact absurd h29 (by decide)
                        | exact absurd (Classical.not_not.mp h29) (by decide)
                        | skip
                          refine pr_seq (pc' := 35) 2 rfl ⟨⟨trivial, (by first | decide | assumption)⟩, trivial⟩ ?_
                          try simp (disch := omega) only [c4, rI_mul, nI_add, nI_1, nI_clamp, pr_i_0, pr_i_1, pr_i_4]
                          refine pr_cv [_] rfl rfl rfl rfl rfl (Nat.le_of_ble_eq_true rfl) (by first | assumption | decide | (simp (disch := omega) only [c4, rI_mul, nI_add, nI_1, nI_clamp, pr_i_0, pr_i_1, pr_i_4]; first | assumption | exact ⟨Or.inl (by assumption), rvin (by assumption) (by omega) (by decide)⟩ | exact ⟨by assumption, rvin (by assumption) (by omega) (by decide)⟩ | exact ⟨⟨by omega, by omega⟩, rvin (by assumption) (by omega) (by decide)⟩ | exact ⟨Or.inr (by assumption), rvin (by assumption) (by omega) (by decide)⟩ | exact ⟨Or.inr ⟨by assumption, (by first | exact Or.inl rfl | exact Or.inr rfl | exact pr_b01 _)⟩, rvin (by assumption) (by omega) (by decide)⟩ | exact ⟨by assumption, by assumption⟩ | decide | omega)) (Nat.le_of_ble_eq_true rfl) (hkk) ?_
                          refine pr_seq (pc' := 39) 1 rfl ⟨trivial, trivial⟩ ?_
                          try simp (disch := omega) only [c4, rI_mul, nI_add, nI_1, nI_clamp, pr_i_0, pr_i_1, pr_i_4]
                          refine pr_ic rfl (fun h39 => ?_) (fun h39 => ?_)
                          · simp only [ab_cmp, pr_i_0, pr_i_1, pr_i_4] at h39
                            exact absurd h39 z1
                          · simp only [ab_cmp, pr_i_0, pr_i_1, pr_i_4] at h39
                            first
                            | contradiction
                            | exact absurd trivial h39
                            | exact absurd h39 (by decide)
                            | exact absurd (Classical.not_not.mp h39) (by decide)
                            | skip
                              refine pr_seq (pc' := 45) 2 rfl ⟨⟨trivial, (by first | decide | assumption)⟩, trivial⟩ ?_
                              try simp (disch := omega) only [c4, rI_mul, nI_add, nI_1, nI_clamp, pr_i_0, pr_i_1, pr_i_4]
                              refine pr_cv [_] rfl rfl rfl rfl rfl (Nat.le_of_ble_eq_true rfl) (by first | assumption | decide | (simp (disch := omega) only [c4, rI_mul, nI_add, nI_1, nI_clamp, pr_i_0, pr_i_1, pr_i_4]; first | assumption | exact ⟨Or.inl (by assumption), rvin (by assumption) (by omega) (by decide)⟩ | exact ⟨by assumption, rvin (by assumption) (by omega) (by decide)⟩ | exact ⟨⟨by omega, by omega⟩, rvin (by assumption) (by omega) (by decide)⟩ | exact ⟨Or.inr (by assumption), rvin (by assumption) (by omega) (by decide)⟩ | exact ⟨Or.inr ⟨by assumption, (by first | exact Or.inl rfl | exact Or.inr rfl | exact pr_b01 _)⟩, rvin (by assumption) (by omega) (by decide)⟩ | exact ⟨by assumption, by assumption⟩ | decide | omega)) (Nat.le_of_ble_eq_true rfl) (hsk) ?_
                              refine pr_seq (pc' := 49) 1 rfl ⟨trivial, trivial⟩ ?_
                              try simp (disch := omega) only [c4, rI_mul, nI_add, nI_1, nI_clamp, pr_i_0, pr_i_1, pr_i_4]
                              refine pr_ic rfl (fun h49 => ?_) (fun h49 => ?_)
                              · simp only [ab_cmp, pr_i_0, pr_i_1, pr_i_4] at h49
                                first
                                | contradiction
                                | exact absurd trivial h49
                                | exact absurd h49 (by decide)
                                | exact absurd (Classical.not_not.mp h49) (by decide)
                                | skip
                                  refine pr_seq (pc' := 7) 5 rfl ⟨⟨⟨⟨⟨trivial, trivial⟩, trivial⟩, trivial⟩, trivial⟩, trivial⟩ ?_
                                  try simp (disch := omega) only [c4, rI_mul, nI_add, nI_1, nI_clamp, pr_i_0, pr_i_1, pr_i_4]
                                  exact hh
                              · simp only [ab_cmp, pr_i_0, pr_i_1, pr_i_4] at h49
                                exact absurd (Classical.not_not.mp h49) c2
    have h0 := loop d.2.1.length 0 (by omega)
    rw [mo_0] at h0
    refine pr_seq (pc' := 7) 6 rfl ⟨⟨⟨⟨⟨⟨trivial, trivial⟩, trivial⟩, trivial⟩, trivial⟩, trivial⟩, trivial⟩ ?_
    exact h0
/-- some sum can be come to -/
theorem dl_some {X : St} {F : Nat → Int32} {p : Nat} (hv : pg_r F X.1.1) (hp : p < X.1.1.2.1.length) : ∃ s, s < 8401 ∧ x_dl X p s < 100000 := by
  have hvr : vr (x_c X p) (fun _ => 0) 0 (x_nm X p).length := fun j _ _ => by
    show 0 < (if 25 - (x_nm X p).getD j 0 < 3 then 25 - (x_nm X p).getD j 0 else 3) + 1
    omega
  have hc : ∀ i, x_c X p i ≤ 4 := fun j => by
    show (if 25 - (x_nm X p).getD j 0 < 3 then 25 - (x_nm X p).getD j 0 else 3) + 1 ≤ 4
    split <;> omega
  have h1 := dL_2 (c := x_c X p) (sh := x_sh X p) hc (fun _ => 0) (x_nm X p).length 0 hvr
  have h2 := x_sh_b hv hp (fun _ => 0) (Nat.le_refl _) hvr
  have h3 : ∀ d i, sfA (fun _ => 0) d i = 0 := by
    intro d
    induction d with
    | zero => intro i; rfl
    | succ d ih => intro i; show 0 + sfA (fun _ => 0) d (i + 1) = 0; rw [ih]
  rw [h3] at h1
  exact ⟨_, by omega, Nat.lt_of_le_of_lt h1 (by decide)⟩
theorem ccc_some {X : St} {p s : Nat} (h : x_dl X p s < 100000) : ∀ k, s < k → ¬ ccc X p k = none := by
  intro k
  induction k with
  | zero => intro q; omega
  | succ k ih =>
    intro q
    show ¬ (if x_dl X p k < 100000 then (match ccc X p k with
      | none => some (x_rv X p k, k)
      | some (b, w) => if b < x_rv X p k then some (x_rv X p k, k) else some (b, w)) else ccc X p k) = none
    by_cases c : x_dl X p k < 100000
    · rw [if_pos c]
      cases ccc X p k with
      | none => intro q; cases q
      | some o =>
        obtain ⟨b, w⟩ := o
        dsimp only
        split <;> (intro q; cases q)
    · rw [if_neg c]
      refine ih ?_
      rcases Nat.lt_or_ge s k with z | z
      · exact z
      · have e : s = k := by omega
        subst e
        exact absurd h c
/-- the reference's best and which, of the choice -/
def cbw : Option (Int32 × Nat) → Int32 × Int32
  | none => (Int32.ofNat 4294867296, nI 0)
  | some (b, w) => (b, nI w)
theorem ccc_w {X : St} {p : Nat} : ∀ k b w, ccc X p k = some (b, w) → w < k := by
  intro k
  induction k with
  | zero => intro b w q; cases q
  | succ k ih =>
    intro b w q
    have q : (if x_dl X p k < 100000 then (match ccc X p k with
      | none => some (x_rv X p k, k)
      | some (b, w) => if b < x_rv X p k then some (x_rv X p k, k) else some (b, w)) else ccc X p k) = some (b, w) := q
    by_cases c : x_dl X p k < 100000
    · rw [if_pos c] at q
      cases hc : ccc X p k with
      | none => rw [hc] at q; cases q; omega
      | some o =>
        obtain ⟨b', w'⟩ := o
        rw [hc] at q
        dsimp only at q
        have := ih b' w' hc
        split at q <;> cases q <;> omega
    · rw [if_neg c] at q
      have := ih b w q
      omega
theorem r_rid {X : St} (x w : Int32) (h : ab_H) (M : ab_M) (hl : rL h M.2.2) (hv : rv M.1 X) : pr_X pX11_rid [.ref 172, .int x, .int w] h M (rp M (f_rid X x w, X)) := by
  obtain ⟨k172, rS, rLs, rKn, rPg, rRl, rRk, rTp, rCu, rLe, rLt, rSm, rIk, rLn, rLg, rCe, ⟨kS, nS⟩, ⟨kLs, nLs⟩, ⟨kKn, nKn⟩, ⟨kPg, nPg⟩, ⟨kRl, nRl⟩, ⟨kRk, nRk⟩, ⟨kTp, nTp⟩, ⟨kCu, nCu⟩, ⟨kLe, nLe⟩, ⟨kLt, nLt⟩, ⟨kSm, nSm⟩, ⟨kIk, nIk⟩, ⟨kLn, nLn⟩, ⟨kLg, nLg⟩, kCe, nCe⟩ := id hl
  have h8 : x_n X ≤ 8 := hv.1.2.1
  have h1 := q_isOne x h M hl hv.1
  have h2 := q_in (a := w.toInt64) (b := Int64.ofNat 0) (c := Int64.ofNat 2) w 0 2 h M rfl rfl rfl
  have c8401 : (8401 : Int32) = nI 8401 := rfl
  have n100 : Int32.ofNat 100000 = nI 100000 := rfl
  unfold f_rid
  rcases pr_ix x (show x_n X ≤ 1000000 by omega) with q | ⟨p, hp, rfl, q⟩
  · rw [show ixb x (x_n X) = false from q] at h1 ⊢
    refine pr_ofC ?_ (rp_s hv)
    refine pr_seq (pc' := 2) 2 rfl ⟨⟨trivial, (by first | assumption | decide | exact ⟨Or.inl (by assumption), by assumption⟩ | exact ⟨by assumption, by assumption⟩ | omega)⟩, trivial⟩ ?_
    refine pr_cv [_] rfl rfl rfl rfl rfl (Nat.le_of_ble_eq_true rfl) (by first | assumption | decide | exact ⟨Or.inl (by assumption), by assumption⟩ | exact ⟨by assumption, by assumption⟩ | omega) (Nat.le_of_ble_eq_true rfl) (h1) ?_
    refine pr_if rfl (fun h5 => ?_) (fun h5 => ?_)
    · simp only [ab_cmp, pr_16_8401, pr_i_0, pr_i_1, pr_i_m1] at h5
      first
      | contradiction
      | exact absurd trivial h5
      | exact absurd h5 (by decide)
      | exact absurd (Classical.not_not.mp h5) (by decide)
      | skip
        refine pr_seq (pc' := 21) 1 rfl ⟨trivial, trivial⟩ ?_
        exact pr_irM rfl (by first | rfl | (simp [pr_b, pr_16_8401, pr_i_0, pr_i_1, pr_i_m1, *]; done) | (simp_all [pr_b, pr_16_8401, pr_i_0, pr_i_1, pr_i_m1]; done)) trivial (by rfl)
    · simp only [ab_cmp, pr_16_8401, pr_i_0, pr_i_1, pr_i_m1] at h5
      exact absurd rfl h5
  · rw [show ixb (nI p) (x_n X) = true from q] at h1 ⊢
    cases q2 : pr_in w 0 2 with
    | false =>
      rw [q2] at h2
      refine pr_ofC ?_ (rp_s hv)
      refine pr_seq (pc' := 2) 2 rfl ⟨⟨trivial, (by first | assumption | decide | exact ⟨Or.inl (by assumption), by assumption⟩ | exact ⟨by assumption, by assumption⟩ | omega)⟩, trivial⟩ ?_
      refine pr_cv [_] rfl rfl rfl rfl rfl (Nat.le_of_ble_eq_true rfl) (by first | assumption | decide | exact ⟨Or.inl (by assumption), by assumption⟩ | exact ⟨by assumption, by assumption⟩ | omega) (Nat.le_of_ble_eq_true rfl) (h1) ?_
      refine pr_if rfl (fun h5 => ?_) (fun h5 => ?_)
      · simp only [ab_cmp, pr_16_8401, pr_i_0, pr_i_1, pr_i_m1] at h5
        exact absurd h5 (by decide)
      · simp only [ab_cmp, pr_16_8401, pr_i_0, pr_i_1, pr_i_m1] at h5
        first
        | contradiction
        | exact absurd trivial h5
        | exact absurd h5 (by decide)
        | exact absurd (Classical.not_not.mp h5) (by decide)
        | skip
          refine pr_seq (pc' := 14) 4 rfl ⟨⟨⟨⟨trivial, trivial⟩, trivial⟩, trivial⟩, trivial⟩ ?_
          refine pr_cs [_, _, _] rfl rfl rfl rfl rfl (Nat.le_of_ble_eq_true rfl) (Nat.le_of_ble_eq_true rfl) (h2) ?_
          refine pr_if rfl (fun h17 => ?_) (fun h17 => ?_)
          · simp only [ab_cmp, pr_16_8401, pr_i_0, pr_i_1, pr_i_m1] at h17
            exact absurd rfl h17
          · simp only [ab_cmp, pr_16_8401, pr_i_0, pr_i_1, pr_i_m1] at h17
            first
            | contradiction
            | exact absurd trivial h17
            | exact absurd h17 (by decide)
            | exact absurd (Classical.not_not.mp h17) (by decide)
            | skip
              refine pr_seq (pc' := 21) 1 rfl ⟨trivial, trivial⟩ ?_
              exact pr_irM rfl (by first | rfl | (simp [pr_b, pr_16_8401, pr_i_0, pr_i_1, pr_i_m1, *]; done) | (simp_all [pr_b, pr_16_8401, pr_i_0, pr_i_1, pr_i_m1]; done)) trivial (by rfl)
    | true =>
      rw [q2] at h2
      rw [if_pos (show (true && true) = true from rfl), nI_clamp (by omega)]
      have hp' : p < X.1.1.2.1.length := hp
      have hlay : pr_X pX11_layChanges [.ref 172, .int (nI p)] h M (ly_p M (x_c X p) (x_sh X p) (x_nm X p).length) := q_lay h M hl hv.1 hp'
      have hfee : 1 ≤ X.1.1.2.2.2 ∧ X.1.1.2.2.2 ≤ 9 := hv.1.2.2.2.2.2.1
      obtain ⟨b, wh, hlast⟩ : ∃ b wh, ccc X p 8401 = some (b, wh) := by
        obtain ⟨s0, hs0, hd0⟩ := dl_some hv.1 hp'
        cases hc : ccc X p 8401 with
        | none => exact absurd hc (ccc_some hd0 8401 hs0)
        | some o => exact ⟨o.1, o.2, rfl⟩
      have hwh := ccc_w _ _ _ hlast
      have main : ∀ (I : Nat → Nat → Int32), (∀ a, a ≠ 182 → I a = M.1 a) → (∀ j, j ≤ (x_nm X p).length → lv_r I (x_c X p) (x_sh X p) (x_nm X p).length j) → ∀ dd s, s + dd = 8401 → ∀ z6, pr_T pX11_rid 36 [some (.ref 172), some (.int (nI p)), some (.int w), some (.int (cbw (ccc X p s)).1), some (.int (cbw (ccc X p s)).2), some (.int (nI s)), z6] [] h (I, M.2) (rp M (if w = 0 then c3b (ccc X p 8401) else if w = 1 then c3s (ccc X p 8401) else c3f X p (ccc X p 8401), X)) := by
        intro I f1 f2
        have hpg : pg_r (I 173) X.1.1 := by rw [f1 173 (by decide)]; exact hv.1
        have hz : ∀ s, s < 8401 → I 182 s = nI (x_dl X p s) := fun s hs => by
          have := f2 0 (Nat.zero_le _) s hs
          rw [show 8401 * 0 + s = s by omega] at this
          exact this
        have fin : ∀ v, rp M (v, X) (some (.int v)) (I, M.2.1, M.2.2) := fun v => rp_I (rv_same hv (fun a a1 _ => f1 a a1)) (fun a ha => f1 a (by omega))
        have hfe := q_feeNow h (I, M.2) hl hpg
        intro dd
        induction dd with
        | zero =>
          intro s hs z6
          obtain rfl : s = 8401 := by omega
          have e1 : nI 8401 ≤ nI 8401 := nI_le (Nat.le_refl _) (by decide)
          rw [hlast]
          have zw := hz wh hwh
          by_cases w0 : w = 0
          · rw [if_pos w0]
            refine pr_seqT (pc' := 41) 2 rfl ⟨⟨trivial, trivial⟩, trivial⟩ ?_
            try simp (disch := omega) only [c8401, rLt, rI_mul, nI_add, nI_1, nI_clamp, pr_16_8401, pr_i_0, pr_i_1, pr_i_m1]
            refine pr_icT rfl (fun h41 => ?_) (fun h41 => ?_)
            · simp only [ab_cmp, pr_16_8401, pr_i_0, pr_i_1, pr_i_m1] at h41
              first
              | contradiction
              | exact absurd trivial h41
              | exact absurd h41 (by decide)
              | exact absurd (Classical.not_not.mp h41) (by decide)
              | skip
                refine pr_seqT (pc' := 113) 1 rfl ⟨trivial, trivial⟩ ?_
                try simp (disch := omega) only [c8401, rLt, rI_mul, nI_add, nI_1, nI_clamp, pr_16_8401, pr_i_0, pr_i_1, pr_i_m1]
                refine pr_ifT rfl (fun h113 => ?_) (fun h113 => ?_)
                · simp only [ab_cmp, pr_16_8401, pr_i_0, pr_i_1, pr_i_m1] at h113
                  exact absurd w0 h113
                · simp only [ab_cmp, pr_16_8401, pr_i_0, pr_i_1, pr_i_m1] at h113
                  first
                  | contradiction
                  | exact absurd trivial h113
                  | exact absurd h113 (by decide)
                  | exact absurd (Classical.not_not.mp h113) (by decide)
                  | skip
                    refine pr_seqT (pc' := 142) 2 rfl ⟨⟨trivial, trivial⟩, trivial⟩ ?_
                    try simp (disch := omega) only [c8401, rLt, rI_mul, nI_add, nI_1, nI_clamp, pr_16_8401, pr_i_0, pr_i_1, pr_i_m1]
                    exact pr_irT rfl trivial (by exact fin _)
            · simp only [ab_cmp, pr_16_8401, pr_i_0, pr_i_1, pr_i_m1] at h41
              exact absurd e1 h41
          · rw [if_neg w0]
            by_cases w1 : w = 1
            · rw [if_pos w1]
              refine pr_seqT (pc' := 41) 2 rfl ⟨⟨trivial, trivial⟩, trivial⟩ ?_
              try simp (disch := omega) only [c8401, rLt, rI_mul, nI_add, nI_1, nI_clamp, pr_16_8401, pr_i_0, pr_i_1, pr_i_m1]
              refine pr_icT rfl (fun h41 => ?_) (fun h41 => ?_)
              · simp only [ab_cmp, pr_16_8401, pr_i_0, pr_i_1, pr_i_m1] at h41
                first
                | contradiction
                | exact absurd trivial h41
                | exact absurd h41 (by decide)
                | exact absurd (Classical.not_not.mp h41) (by decide)
                | skip
                  refine pr_seqT (pc' := 113) 1 rfl ⟨trivial, trivial⟩ ?_
                  try simp (disch := omega) only [c8401, rLt, rI_mul, nI_add, nI_1, nI_clamp, pr_16_8401, pr_i_0, pr_i_1, pr_i_m1]
                  refine pr_ifT rfl (fun h113 => ?_) (fun h113 => ?_)
                  · simp only [ab_cmp, pr_16_8401, pr_i_0, pr_i_1, pr_i_m1] at h113
                    first
                    | contradiction
                    | exact absurd trivial h113
                    | exact absurd h113 (by decide)
                    | exact absurd (Classical.not_not.mp h113) (by decide)
                    | skip
                      refine pr_seqT (pc' := 122) 2 rfl ⟨⟨trivial, trivial⟩, trivial⟩ ?_
                      try simp (disch := omega) only [c8401, rLt, rI_mul, nI_add, nI_1, nI_clamp, pr_16_8401, pr_i_0, pr_i_1, pr_i_m1]
                      refine pr_icT rfl (fun h122 => ?_) (fun h122 => ?_)
                      · simp only [ab_cmp, pr_16_8401, pr_i_0, pr_i_1, pr_i_m1] at h122
                        exact absurd w1 h122
                      · simp only [ab_cmp, pr_16_8401, pr_i_0, pr_i_1, pr_i_m1] at h122
                        first
                        | contradiction
                        | exact absurd trivial h122
                        | exact absurd h122 (by decide)
                        | exact absurd (Classical.not_not.mp h122) (by decide)
                        | skip
                          refine pr_seqT (pc' := 142) 2 rfl ⟨⟨trivial, trivial⟩, trivial⟩ ?_
                          try simp (disch := omega) only [c8401, rLt, rI_mul, nI_add, nI_1, nI_clamp, pr_16_8401, pr_i_0, pr_i_1, pr_i_m1]
                          exact pr_irT rfl trivial (by exact fin _)
                  · simp only [ab_cmp, pr_16_8401, pr_i_0, pr_i_1, pr_i_m1] at h113
                    exact absurd (Classical.not_not.mp h113) w0
              · simp only [ab_cmp, pr_16_8401, pr_i_0, pr_i_1, pr_i_m1] at h41
                exact absurd e1 h41
            · rw [if_neg w1]
              show pr_T pX11_rid 36 [some (.ref 172), some (.int (nI p)), some (.int w), some (.int b), some (.int (nI wh)), some (.int (nI 8401)), z6] [] h (I, M.2) (rp M (nI (X.1.1.2.2.2 * x_dl X p wh), X))
              refine pr_seqT (pc' := 41) 2 rfl ⟨⟨trivial, trivial⟩, trivial⟩ ?_
              try simp (disch := omega) only [c8401, zw, rLt, rI_mul, nI_add, nI_1, nI_clamp, pr_16_8401, pr_i_0, pr_i_1, pr_i_m1]
              refine pr_icT rfl (fun h41 => ?_) (fun h41 => ?_)
              · simp only [ab_cmp, pr_16_8401, pr_i_0, pr_i_1, pr_i_m1] at h41
                first
                | contradiction
                | exact absurd trivial h41
                | exact absurd h41 (by decide)
                | exact absurd (Classical.not_not.mp h41) (by decide)
                | skip
                  refine pr_seqT (pc' := 113) 1 rfl ⟨trivial, trivial⟩ ?_
                  try simp (disch := omega) only [c8401, zw, rLt, rI_mul, nI_add, nI_1, nI_clamp, pr_16_8401, pr_i_0, pr_i_1, pr_i_m1]
                  refine pr_ifT rfl (fun h113 => ?_) (fun h113 => ?_)
                  · simp only [ab_cmp, pr_16_8401, pr_i_0, pr_i_1, pr_i_m1] at h113
                    first
                    | contradiction
                    | exact absurd trivial h113
                    | exact absurd h113 (by decide)
                    | exact absurd (Classical.not_not.mp h113) (by decide)
                    | skip
                      refine pr_seqT (pc' := 122) 2 rfl ⟨⟨trivial, trivial⟩, trivial⟩ ?_
                      try simp (disch := omega) only [c8401, zw, rLt, rI_mul, nI_add, nI_1, nI_clamp, pr_16_8401, pr_i_0, pr_i_1, pr_i_m1]
                      refine pr_icT rfl (fun h122 => ?_) (fun h122 => ?_)
                      · simp only [ab_cmp, pr_16_8401, pr_i_0, pr_i_1, pr_i_m1] at h122
                        first
                        | contradiction
                        | exact absurd trivial h122
                        | exact absurd h122 (by decide)
                        | exact absurd (Classical.not_not.mp h122) (by decide)
                        | skip
                          refine pr_seqT (pc' := 138) 5 rfl ⟨⟨⟨⟨⟨trivial, (by first | decide | assumption)⟩, (by assumption)⟩, trivial⟩, (by (try simp (disch := omega) only [c8401, zw, rLt, rI_mul, nI_add, nI_1, nI_clamp, pr_16_8401, pr_i_0, pr_i_1, pr_i_m1]); exact ⟨Or.inl (by assumption), rvin (by assumption) (by omega) (by decide)⟩)⟩, (by first | decide | assumption)⟩ ?_
                          try simp (disch := omega) only [c8401, zw, rLt, rI_mul, nI_add, nI_1, nI_clamp, pr_16_8401, pr_i_0, pr_i_1, pr_i_m1]
                          refine pr_cvT [] rfl rfl rfl rfl rfl (Nat.le_of_ble_eq_true rfl) (by first | assumption | decide | (simp (disch := omega) only [c8401, zw, rLt, rI_mul, nI_add, nI_1, nI_clamp, pr_16_8401, pr_i_0, pr_i_1, pr_i_m1]; first | assumption | exact ⟨Or.inl (by assumption), rvin (by assumption) (by omega) (by decide)⟩ | exact ⟨by assumption, rvin (by assumption) (by omega) (by decide)⟩ | exact ⟨⟨by omega, by omega⟩, rvin (by assumption) (by omega) (by decide)⟩ | exact ⟨Or.inr (by assumption), rvin (by assumption) (by omega) (by decide)⟩ | exact ⟨Or.inr ⟨by assumption, (by first | exact Or.inl rfl | exact Or.inr rfl | exact pr_b01 _)⟩, rvin (by assumption) (by omega) (by decide)⟩ | exact ⟨by assumption, by assumption⟩ | decide | omega)) (Nat.le_of_ble_eq_true rfl) (hfe) ?_
                          refine pr_seqT (pc' := 142) 1 rfl ⟨trivial, trivial⟩ ?_
                          try simp (disch := omega) only [c8401, zw, rLt, rI_mul, nI_add, nI_1, nI_clamp, pr_16_8401, pr_i_0, pr_i_1, pr_i_m1]
                          exact pr_irT rfl trivial (by rw [Nat.mul_comm X.1.1.2.2.2]; exact fin _)
                      · simp only [ab_cmp, pr_16_8401, pr_i_0, pr_i_1, pr_i_m1] at h122
                        exact absurd (Classical.not_not.mp h122) w1
                  · simp only [ab_cmp, pr_16_8401, pr_i_0, pr_i_1, pr_i_m1] at h113
                    exact absurd (Classical.not_not.mp h113) w0
              · simp only [ab_cmp, pr_16_8401, pr_i_0, pr_i_1, pr_i_m1] at h41
                exact absurd e1 h41
        | succ dd ih =>
          intro s hs z6
          have hs8 : s < 8401 := by omega
          have e1 : ¬ nI 8401 ≤ nI s := nI_ge hs8 (by decide)
          have zs := hz s hs8
          have hdl := dL_b (x_c X p) (x_sh X p) (x_nm X p).length 0 s
          have hdl : x_dl X p s ≤ 100000 := hdl
          have hst : ccc X p (s + 1) = if x_dl X p s < 100000 then (match ccc X p s with
            | none => some (x_rv X p s, s)
            | some (b, w) => if b < x_rv X p s then some (x_rv X p s, s) else some (b, w)) else ccc X p s := rfl
          by_cases cd : x_dl X p s < 100000
          · rw [if_pos cd] at hst
            have e2 : ¬ nI 100000 ≤ nI (x_dl X p s) := nI_ge cd (by decide)
            have hwa : pr_C pX11_worthAt [.ref 172, .int (nI p), .int (nI s)] h (I, M.2) (some (.int (a_wh (al (va_up (x_S X) p (nI s)) (x_K X) p) (x_W X) (x_D X) (x_n X)))) h (I, M.2) := q_worthAt h (I, M.2) hl hpg hp'
            have hrv : a_wh (al (va_up (x_S X) p (nI s)) (x_K X) p) (x_W X) (x_D X) (x_n X) - nI (x_dl X p s * X.1.1.2.2.2) = x_rv X p s := by unfold x_rv; rw [Nat.mul_comm]
            have step : (cbw (ccc X p (s + 1))) = if (cbw (ccc X p s)).1 < x_rv X p s then (x_rv X p s, nI s) else cbw (ccc X p s) := by
              rw [hst]
              cases hc : ccc X p s with
              | none =>
                have : Int32.ofNat 4294867296 < x_rv X p s := by
                  obtain ⟨y, hy, y1, y2⟩ := wh_n (al (va_up (x_S X) p (nI s)) (x_K X) p) hv.1
                  obtain ⟨e5, e6, -⟩ := gEnd (c := x_c X p) (sh := x_sh X p) (n := (x_nm X p).length) (s := s) cd
                  have hdb : x_dl X p s ≤ 60 := by
                    obtain ⟨-, g2', g3⟩ := gEnd (c := x_c X p) (sh := x_sh X p) (n := (x_nm X p).length) (s := s) cd
                    have hl20 : (x_nm X p).length ≤ 20 := (hv.1.2.2.2.2.2.2.2 p hp').2.2.2.2.2.2.2.1
                    have := sfA_le3 (gR (x_c X p) (x_sh X p) (x_nm X p).length s) (x_nm X p).length 0 (fun j _ hj => by
                      have h1 := g3 j (Nat.zero_le _) hj
                      have h2 : x_c X p j ≤ 4 := by
                        show (if 25 - (x_nm X p).getD j 0 < 3 then 25 - (x_nm X p).getD j 0 else 3) + 1 ≤ 4
                        split <;> omega
                      omega)
                    have : sfA (gR (x_c X p) (x_sh X p) (x_nm X p).length s) (x_nm X p).length 0 = x_dl X p s := g2'
                    omega
                  unfold x_rv
                  have hy : a_wh (al (va_up (x_S X) p (nI s)) (x_K X) p) (x_W X) (x_D X) (x_n X) = nI y := hy
                  have hm : X.1.1.2.2.2 * x_dl X p s ≤ 9 * 60 := Nat.mul_le_mul hfee.2 hdb
                  rw [hy, i_sub (by omega)]
                  exact far_lt (by omega)
                show cbw (some (x_rv X p s, s)) = if Int32.ofNat 4294867296 < x_rv X p s then (x_rv X p s, nI s) else cbw none
                rw [if_pos this]
                rfl
              | some o =>
                obtain ⟨b', w'⟩ := o
                show cbw (if b' < x_rv X p s then some (x_rv X p s, s) else some (b', w')) = if b' < x_rv X p s then (x_rv X p s, nI s) else (b', nI w')
                by_cases cb : b' < x_rv X p s
                · rw [if_pos cb, if_pos cb]; rfl
                · rw [if_neg cb, if_neg cb]; rfl
            have hh := ih (s + 1) (by omega) (some (.int (x_rv X p s)))
            rw [step] at hh
            generalize cbw (ccc X p s) = o at *
            by_cases cb : o.1 < x_rv X p s
            · rw [if_pos cb] at hh
              have cb' : ¬ x_rv X p s ≤ o.1 := fun q => (i_le_nlt _ _).mp q cb
              refine pr_seqT (pc' := 41) 2 rfl ⟨⟨trivial, trivial⟩, trivial⟩ ?_
              try simp (disch := omega) only [c8401, n100, zs, hrv, rLt, rI_mul, nI_add, nI_1, nI_clamp, pr_16_8401, pr_i_0, pr_i_1, pr_i_m1]
              refine pr_icT rfl (fun h41 => ?_) (fun h41 => ?_)
              · simp only [ab_cmp, pr_16_8401, pr_i_0, pr_i_1, pr_i_m1] at h41
                exact absurd h41 e1
              · simp only [ab_cmp, pr_16_8401, pr_i_0, pr_i_1, pr_i_m1] at h41
                first
                | contradiction
                | exact absurd trivial h41
                | exact absurd h41 (by decide)
                | exact absurd (Classical.not_not.mp h41) (by decide)
                | skip
                  refine pr_seqT (pc' := 53) 5 rfl ⟨⟨⟨⟨⟨trivial, (by first | decide | assumption)⟩, (by assumption)⟩, trivial⟩, (by (try simp (disch := omega) only [c8401, n100, zs, hrv, rLt, rI_mul, nI_add, nI_1, nI_clamp, pr_16_8401, pr_i_0, pr_i_1, pr_i_m1]); exact ⟨Or.inl (by assumption), rvin (by assumption) (by omega) (by decide)⟩)⟩, trivial⟩ ?_
                  try simp (disch := omega) only [c8401, n100, zs, hrv, rLt, rI_mul, nI_add, nI_1, nI_clamp, pr_16_8401, pr_i_0, pr_i_1, pr_i_m1]
                  refine pr_icT rfl (fun h53 => ?_) (fun h53 => ?_)
                  · simp only [ab_cmp, pr_16_8401, pr_i_0, pr_i_1, pr_i_m1] at h53
                    exact absurd h53 e2
                  · simp only [ab_cmp, pr_16_8401, pr_i_0, pr_i_1, pr_i_m1] at h53
                    first
                    | contradiction
                    | exact absurd trivial h53
                    | exact absurd h53 (by decide)
                    | exact absurd (Classical.not_not.mp h53) (by decide)
                    | skip
                      refine pr_seqT (pc' := 60) 3 rfl ⟨⟨⟨trivial, (by first | decide | assumption)⟩, trivial⟩, trivial⟩ ?_
                      try simp (disch := omega) only [c8401, n100, zs, hrv, rLt, rI_mul, nI_add, nI_1, nI_clamp, pr_16_8401, pr_i_0, pr_i_1, pr_i_m1]
                      refine pr_cvT [_, _] rfl rfl rfl rfl rfl (Nat.le_of_ble_eq_true rfl) (by first | assumption | decide | (simp (disch := omega) only [c8401, n100, zs, hrv, rLt, rI_mul, nI_add, nI_1, nI_clamp, pr_16_8401, pr_i_0, pr_i_1, pr_i_m1]; first | assumption | exact ⟨Or.inl (by assumption), rvin (by assumption) (by omega) (by decide)⟩ | exact ⟨by assumption, rvin (by assumption) (by omega) (by decide)⟩ | exact ⟨⟨by omega, by omega⟩, rvin (by assumption) (by omega) (by decide)⟩ | exact ⟨Or.inr (by assumption), rvin (by assumption) (by omega) (by decide)⟩ | exact ⟨Or.inr ⟨by assumption, (by first | exact Or.inl rfl | exact Or.inr rfl | exact pr_b01 _)⟩, rvin (by assumption) (by omega) (by decide)⟩ | exact ⟨by assumption, by assumption⟩ | decide | omega)) (Nat.le_of_ble_eq_true rfl) (hwa) ?_
                      refine pr_seqT (pc' := 71) 5 rfl ⟨⟨⟨⟨⟨trivial, (by first | decide | assumption)⟩, (by assumption)⟩, trivial⟩, (by (try simp (disch := omega) only [c8401, n100, zs, hrv, rLt, rI_mul, nI_add, nI_1, nI_clamp, pr_16_8401, pr_i_0, pr_i_1, pr_i_m1]); exact ⟨Or.inl (by assumption), rvin (by assumption) (by omega) (by decide)⟩)⟩, (by first | decide | assumption)⟩ ?_
                      try simp (disch := omega) only [c8401, n100, zs, hrv, rLt, rI_mul, nI_add, nI_1, nI_clamp, pr_16_8401, pr_i_0, pr_i_1, pr_i_m1]
                      refine pr_cvT [] rfl rfl rfl rfl rfl (Nat.le_of_ble_eq_true rfl) (by first | assumption | decide | (simp (disch := omega) only [c8401, n100, zs, hrv, rLt, rI_mul, nI_add, nI_1, nI_clamp, pr_16_8401, pr_i_0, pr_i_1, pr_i_m1]; first | assumption | exact ⟨Or.inl (by assumption), rvin (by assumption) (by omega) (by decide)⟩ | exact ⟨by assumption, rvin (by assumption) (by omega) (by decide)⟩ | exact ⟨⟨by omega, by omega⟩, rvin (by assumption) (by omega) (by decide)⟩ | exact ⟨Or.inr (by assumption), rvin (by assumption) (by omega) (by decide)⟩ | exact ⟨Or.inr ⟨by assumption, (by first | exact Or.inl rfl | exact Or.inr rfl | exact pr_b01 _)⟩, rvin (by assumption) (by omega) (by decide)⟩ | exact ⟨by assumption, by assumption⟩ | decide | omega)) (Nat.le_of_ble_eq_true rfl) (hfe) ?_
                      refine pr_seqT (pc' := 81) 5 rfl ⟨⟨⟨⟨⟨trivial, trivial⟩, trivial⟩, trivial⟩, trivial⟩, trivial⟩ ?_
                      try simp (disch := omega) only [c8401, n100, zs, hrv, rLt, rI_mul, nI_add, nI_1, nI_clamp, pr_16_8401, pr_i_0, pr_i_1, pr_i_m1]
                      refine pr_icT rfl (fun h81 => ?_) (fun h81 => ?_)
                      · simp only [ab_cmp, pr_16_8401, pr_i_0, pr_i_1, pr_i_m1] at h81
                        exact absurd h81 cb'
                      · simp only [ab_cmp, pr_16_8401, pr_i_0, pr_i_1, pr_i_m1] at h81
                        first
                        | contradiction
                        | exact absurd trivial h81
                        | exact absurd h81 (by decide)
                        | exact absurd (Classical.not_not.mp h81) (by decide)
                        | skip
                          refine pr_seqT (pc' := 96) 5 rfl ⟨⟨⟨⟨⟨trivial, trivial⟩, trivial⟩, trivial⟩, trivial⟩, trivial⟩ ?_
                          try simp (disch := omega) only [c8401, n100, zs, hrv, rLt, rI_mul, nI_add, nI_1, nI_clamp, pr_16_8401, pr_i_0, pr_i_1, pr_i_m1]
                          refine pr_icT rfl (fun h96 => ?_) (fun h96 => ?_)
                          · simp only [ab_cmp, pr_16_8401, pr_i_0, pr_i_1, pr_i_m1] at h96
                            exact absurd h96 cb'
                          · simp only [ab_cmp, pr_16_8401, pr_i_0, pr_i_1, pr_i_m1] at h96
                            first
                            | contradiction
                            | exact absurd trivial h96
                            | exact absurd h96 (by decide)
                            | exact absurd (Classical.not_not.mp h96) (by decide)
                            | skip
                              refine pr_seqT (pc' := 36) 5 rfl ⟨⟨⟨⟨⟨trivial, trivial⟩, trivial⟩, trivial⟩, trivial⟩, trivial⟩ ?_
                              try simp (disch := omega) only [c8401, n100, zs, hrv, rLt, rI_mul, nI_add, nI_1, nI_clamp, pr_16_8401, pr_i_0, pr_i_1, pr_i_m1]
                              exact hh
            · rw [if_neg cb] at hh
              have cb' : x_rv X p s ≤ o.1 := (i_le_nlt _ _).mpr cb
              refine pr_seqT (pc' := 41) 2 rfl ⟨⟨trivial, trivial⟩, trivial⟩ ?_
              try simp (disch := omega) only [c8401, n100, zs, hrv, rLt, rI_mul, nI_add, nI_1, nI_clamp, pr_16_8401, pr_i_0, pr_i_1, pr_i_m1]
              refine pr_icT rfl (fun h41 => ?_) (fun h41 => ?_)
              · simp only [ab_cmp, pr_16_8401, pr_i_0, pr_i_1, pr_i_m1] at h41
                exact absurd h41 e1
              · simp only [ab_cmp, pr_16_8401, pr_i_0, pr_i_1, pr_i_m1] at h41
                first
                | contradiction
                | exact absurd trivial h41
                | exact absurd h41 (by decide)
                | exact absurd (Classical.not_not.mp h41) (by decide)
                | skip
                  refine pr_seqT (pc' := 53) 5 rfl ⟨⟨⟨⟨⟨trivial, (by first | decide | assumption)⟩, (by assumption)⟩, trivial⟩, (by (try simp (disch := omega) only [c8401, n100, zs, hrv, rLt, rI_mul, nI_add, nI_1, nI_clamp, pr_16_8401, pr_i_0, pr_i_1, pr_i_m1]); exact ⟨Or.inl (by assumption), rvin (by assumption) (by omega) (by decide)⟩)⟩, trivial⟩ ?_
                  try simp (disch := omega) only [c8401, n100, zs, hrv, rLt, rI_mul, nI_add, nI_1, nI_clamp, pr_16_8401, pr_i_0, pr_i_1, pr_i_m1]
                  refine pr_icT rfl (fun h53 => ?_) (fun h53 => ?_)
                  · simp only [ab_cmp, pr_16_8401, pr_i_0, pr_i_1, pr_i_m1] at h53
                    exact absurd h53 e2
                  · simp only [ab_cmp, pr_16_8401, pr_i_0, pr_i_1, pr_i_m1] at h53
                    first
                    | contradiction
                    | exact absurd trivial h53
                    | exact absurd h53 (by decide)
                    | exact absurd (Classical.not_not.mp h53) (by decide)
                    | skip
                      refine pr_seqT (pc' := 60) 3 rfl ⟨⟨⟨trivial, (by first | decide | assumption)⟩, trivial⟩, trivial⟩ ?_
                      try simp (disch := omega) only [c8401, n100, zs, hrv, rLt, rI_mul, nI_add, nI_1, nI_clamp, pr_16_8401, pr_i_0, pr_i_1, pr_i_m1]
                      refine pr_cvT [_, _] rfl rfl rfl rfl rfl (Nat.le_of_ble_eq_true rfl) (by first | assumption | decide | (simp (disch := omega) only [c8401, n100, zs, hrv, rLt, rI_mul, nI_add, nI_1, nI_clamp, pr_16_8401, pr_i_0, pr_i_1, pr_i_m1]; first | assumption | exact ⟨Or.inl (by assumption), rvin (by assumption) (by omega) (by decide)⟩ | exact ⟨by assumption, rvin (by assumption) (by omega) (by decide)⟩ | exact ⟨⟨by omega, by omega⟩, rvin (by assumption) (by omega) (by decide)⟩ | exact ⟨Or.inr (by assumption), rvin (by assumption) (by omega) (by decide)⟩ | exact ⟨Or.inr ⟨by assumption, (by first | exact Or.inl rfl | exact Or.inr rfl | exact pr_b01 _)⟩, rvin (by assumption) (by omega) (by decide)⟩ | exact ⟨by assumption, by assumption⟩ | decide | omega)) (Nat.le_of_ble_eq_true rfl) (hwa) ?_
                      refine pr_seqT (pc' := 71) 5 rfl ⟨⟨⟨⟨⟨trivial, (by first | decide | assumption)⟩, (by assumption)⟩, trivial⟩, (by (try simp (disch := omega) only [c8401, n100, zs, hrv, rLt, rI_mul, nI_add, nI_1, nI_clamp, pr_16_8401, pr_i_0, pr_i_1, pr_i_m1]); exact ⟨Or.inl (by assumption), rvin (by assumption) (by omega) (by decide)⟩)⟩, (by first | decide | assumption)⟩ ?_
                      try simp (disch := omega) only [c8401, n100, zs, hrv, rLt, rI_mul, nI_add, nI_1, nI_clamp, pr_16_8401, pr_i_0, pr_i_1, pr_i_m1]
                      refine pr_cvT [] rfl rfl rfl rfl rfl (Nat.le_of_ble_eq_true rfl) (by first | assumption | decide | (simp (disch := omega) only [c8401, n100, zs, hrv, rLt, rI_mul, nI_add, nI_1, nI_clamp, pr_16_8401, pr_i_0, pr_i_1, pr_i_m1]; first | assumption | exact ⟨Or.inl (by assumption), rvin (by assumption) (by omega) (by decide)⟩ | exact ⟨by assumption, rvin (by assumption) (by omega) (by decide)⟩ | exact ⟨⟨by omega, by omega⟩, rvin (by assumption) (by omega) (by decide)⟩ | exact ⟨Or.inr (by assumption), rvin (by assumption) (by omega) (by decide)⟩ | exact ⟨Or.inr ⟨by assumption, (by first | exact Or.inl rfl | exact Or.inr rfl | exact pr_b01 _)⟩, rvin (by assumption) (by omega) (by decide)⟩ | exact ⟨by assumption, by assumption⟩ | decide | omega)) (Nat.le_of_ble_eq_true rfl) (hfe) ?_
                      refine pr_seqT (pc' := 81) 5 rfl ⟨⟨⟨⟨⟨trivial, trivial⟩, trivial⟩, trivial⟩, trivial⟩, trivial⟩ ?_
                      try simp (disch := omega) only [c8401, n100, zs, hrv, rLt, rI_mul, nI_add, nI_1, nI_clamp, pr_16_8401, pr_i_0, pr_i_1, pr_i_m1]
                      refine pr_icT rfl (fun h81 => ?_) (fun h81 => ?_)
                      · simp only [ab_cmp, pr_16_8401, pr_i_0, pr_i_1, pr_i_m1] at h81
                        first
                        | contradiction
                        | exact absurd trivial h81
                        | exact absurd h81 (by decide)
                        | exact absurd (Classical.not_not.mp h81) (by decide)
                        | skip
                          refine pr_seqT (pc' := 96) 4 rfl ⟨⟨⟨⟨trivial, trivial⟩, trivial⟩, trivial⟩, trivial⟩ ?_
                          try simp (disch := omega) only [c8401, n100, zs, hrv, rLt, rI_mul, nI_add, nI_1, nI_clamp, pr_16_8401, pr_i_0, pr_i_1, pr_i_m1]
                          refine pr_icT rfl (fun h96 => ?_) (fun h96 => ?_)
                          · simp only [ab_cmp, pr_16_8401, pr_i_0, pr_i_1, pr_i_m1] at h96
                            first
                            | contradiction
                            | exact absurd trivial h96
                            | exact absurd h96 (by decide)
                            | exact absurd (Classical.not_not.mp h96) (by decide)
                            | skip
                              refine pr_seqT (pc' := 36) 4 rfl ⟨⟨⟨⟨trivial, trivial⟩, trivial⟩, trivial⟩, trivial⟩ ?_
                              try simp (disch := omega) only [c8401, n100, zs, hrv, rLt, rI_mul, nI_add, nI_1, nI_clamp, pr_16_8401, pr_i_0, pr_i_1, pr_i_m1]
                              exact hh
                          · simp only [ab_cmp, pr_16_8401, pr_i_0, pr_i_1, pr_i_m1] at h96
                            exact absurd cb' h96
                      · simp only [ab_cmp, pr_16_8401, pr_i_0, pr_i_1, pr_i_m1] at h81
                        exact absurd cb' h81
          · rw [if_neg cd] at hst
            have e2 : nI 100000 ≤ nI (x_dl X p s) := nI_le (by omega) (by omega)
            have hh := ih (s + 1) (by omega) z6
            rw [hst] at hh
            refine pr_seqT (pc' := 41) 2 rfl ⟨⟨trivial, trivial⟩, trivial⟩ ?_
            try simp (disch := omega) only [c8401, n100, zs, rLt, rI_mul, nI_add, nI_1, nI_clamp, pr_16_8401, pr_i_0, pr_i_1, pr_i_m1]
            refine pr_icT rfl (fun h41 => ?_) (fun h41 => ?_)
            · simp only [ab_cmp, pr_16_8401, pr_i_0, pr_i_1, pr_i_m1] at h41
              exact absurd h41 e1
            · simp only [ab_cmp, pr_16_8401, pr_i_0, pr_i_1, pr_i_m1] at h41
              first
              | contradiction
              | exact absurd trivial h41
              | exact absurd h41 (by decide)
              | exact absurd (Classical.not_not.mp h41) (by decide)
              | skip
                refine pr_seqT (pc' := 53) 5 rfl ⟨⟨⟨⟨⟨trivial, (by first | decide | assumption)⟩, (by assumption)⟩, trivial⟩, (by (try simp (disch := omega) only [c8401, n100, zs, rLt, rI_mul, nI_add, nI_1, nI_clamp, pr_16_8401, pr_i_0, pr_i_1, pr_i_m1]); exact ⟨Or.inl (by assumption), rvin (by assumption) (by omega) (by decide)⟩)⟩, trivial⟩ ?_
                try simp (disch := omega) only [c8401, n100, zs, rLt, rI_mul, nI_add, nI_1, nI_clamp, pr_16_8401, pr_i_0, pr_i_1, pr_i_m1]
                refine pr_icT rfl (fun h53 => ?_) (fun h53 => ?_)
                · simp only [ab_cmp, pr_16_8401, pr_i_0, pr_i_1, pr_i_m1] at h53
                  first
                  | contradiction
                  | exact absurd trivial h53
                  | exact absurd h53 (by decide)
                  | exact absurd (Classical.not_not.mp h53) (by decide)
                  | skip
                    refine pr_seqT (pc' := 36) 2 rfl ⟨⟨trivial, trivial⟩, trivial⟩ ?_
                    try simp (disch := omega) only [c8401, n100, zs, rLt, rI_mul, nI_add, nI_1, nI_clamp, pr_16_8401, pr_i_0, pr_i_1, pr_i_m1]
                    exact hh
                · simp only [ab_cmp, pr_16_8401, pr_i_0, pr_i_1, pr_i_m1] at h53
                  exact absurd e2 h53
      refine pr_seqT (pc' := 2) 2 rfl ⟨⟨trivial, (by first | decide | assumption)⟩, trivial⟩ ?_
      try simp (disch := omega) only [rLt, rI_mul, nI_add, nI_1, nI_clamp, pr_16_8401, pr_i_0, pr_i_1, pr_i_m1]
      refine pr_cvT [_] rfl rfl rfl rfl rfl (Nat.le_of_ble_eq_true rfl) (by first | assumption | decide | (simp (disch := omega) only [rLt, rI_mul, nI_add, nI_1, nI_clamp, pr_16_8401, pr_i_0, pr_i_1, pr_i_m1]; first | assumption | exact ⟨Or.inl (by assumption), rvin (by assumption) (by omega) (by decide)⟩ | exact ⟨by assumption, rvin (by assumption) (by omega) (by decide)⟩ | exact ⟨⟨by omega, by omega⟩, rvin (by assumption) (by omega) (by decide)⟩ | exact ⟨Or.inr (by assumption), rvin (by assumption) (by omega) (by decide)⟩ | exact ⟨Or.inr ⟨by assumption, (by first | exact Or.inl rfl | exact Or.inr rfl | exact pr_b01 _)⟩, rvin (by assumption) (by omega) (by decide)⟩ | exact ⟨by assumption, by assumption⟩ | decide | omega)) (Nat.le_of_ble_eq_true rfl) (h1) ?_
      refine pr_ifT rfl (fun h5 => ?_) (fun h5 => ?_)
      · simp only [ab_cmp, pr_16_8401, pr_i_0, pr_i_1, pr_i_m1] at h5
        exact absurd h5 (by decide)
      · simp only [ab_cmp, pr_16_8401, pr_i_0, pr_i_1, pr_i_m1] at h5
        first
        | contradiction
        | exact absurd trivial h5
        | exact absurd h5 (by decide)
        | exact absurd (Classical.not_not.mp h5) (by decide)
        | skip
          refine pr_seqT (pc' := 14) 4 rfl ⟨⟨⟨⟨trivial, trivial⟩, trivial⟩, trivial⟩, trivial⟩ ?_
          try simp (disch := omega) only [rLt, rI_mul, nI_add, nI_1, nI_clamp, pr_16_8401, pr_i_0, pr_i_1, pr_i_m1]
          refine pr_csT [_, _, _] rfl rfl rfl rfl rfl (Nat.le_of_ble_eq_true rfl) (Nat.le_of_ble_eq_true rfl) (h2) ?_
          refine pr_ifT rfl (fun h17 => ?_) (fun h17 => ?_)
          · simp only [ab_cmp, pr_16_8401, pr_i_0, pr_i_1, pr_i_m1] at h17
            first
            | contradiction
            | exact absurd trivial h17
            | exact absurd h17 (by decide)
            | exact absurd (Classical.not_not.mp h17) (by decide)
            | skip
              refine pr_seqT (pc' := 24) 2 rfl ⟨⟨trivial, (by first | decide | assumption)⟩, trivial⟩ ?_
              try simp (disch := omega) only [rLt, rI_mul, nI_add, nI_1, nI_clamp, pr_16_8401, pr_i_0, pr_i_1, pr_i_m1]
              refine pr_cvX [_] rfl rfl rfl rfl rfl (Nat.le_of_ble_eq_true rfl) (by first | assumption | decide | (simp (disch := omega) only [rLt, rI_mul, nI_add, nI_1, nI_clamp, pr_16_8401, pr_i_0, pr_i_1, pr_i_m1]; first | assumption | exact ⟨Or.inl (by assumption), rvin (by assumption) (by omega) (by decide)⟩ | exact ⟨by assumption, rvin (by assumption) (by omega) (by decide)⟩ | exact ⟨⟨by omega, by omega⟩, rvin (by assumption) (by omega) (by decide)⟩ | exact ⟨Or.inr (by assumption), rvin (by assumption) (by omega) (by decide)⟩ | exact ⟨Or.inr ⟨by assumption, (by first | exact Or.inl rfl | exact Or.inr rfl | exact pr_b01 _)⟩, rvin (by assumption) (by omega) (by decide)⟩ | exact ⟨by assumption, by assumption⟩ | decide | omega)) (Nat.le_of_ble_eq_true rfl) (hlay) (fun v24 M24 q24 => ?_)
              obtain ⟨rfl, w1, w2, w3⟩ := q24
              obtain ⟨I1, Z1⟩ := M24
              dsimp only at w1 w2 w3
              subst w1
              refine pr_seqT (pc' := 36) 6 rfl ⟨⟨⟨⟨⟨⟨trivial, trivial⟩, trivial⟩, trivial⟩, trivial⟩, trivial⟩, trivial⟩ ?_
              exact main I1 w2 w3 8401 0 (by omega) _
          · simp only [ab_cmp, pr_16_8401, pr_i_0, pr_i_1, pr_i_m1] at h17
            exact absurd (Classical.not_not.mp h17) (by decide)
