
/-! ===== the reference's reader: which word ===== -/
def wkR (w : List Nat) (T : Tk) : Nat → Nat → Int32
  | 0, _ => -4
  | d + 1, n => if sy w T n then nI n else wkR w T d (n + 1)
theorem wkR_no {w : List Nat} {T : Tk} (h : ¬ T.1 = 1) : ∀ d n, wkR w T d n = -4
  | 0, _ => rfl
  | d + 1, n => by
    show (if sy w T n then nI n else wkR w T d (n + 1)) = -4
    rw [if_neg (by unfold sy; rw [decide_eq_false h]; simp)]
    exact wkR_no h d (n + 1)
theorem cuts_ok : ∀ n, n < 11 → cutsL.getD (n + 1) 0 = cutsL.getD n 0 + (kwd n).length ∧ cutsL.getD (n + 1) 0 ≤ 48 ∧ (kwd n).length ≤ 7 ∧ ∀ k, k < 7 → k < (kwd n).length → ltsL.getD (cutsL.getD n 0 + k) 0 = (kwd n).getD k 0 ∧ (kwd n).getD k 0 < 128 := by
  decide
theorem q_wordHere {w : List Nat} {p : Nat} (h : ab_H) (M : ab_M) (hl : rL h M.2.2) (hw : tp_r M.1 w) (hcn : cn_r M.1) (he : rs2 M.1 w (.ok p)) : pr_C pX11_wordHere [.ref 172] h M (some (.int (wkR w (tok w p) 11 0))) h M := by
  obtain ⟨k172, rS, rLs, rKn, rPg, rRl, rRk, rTp, rCu, rLe, rLt, rSm, rIk, rLn, rLg, rCe, ⟨kS, nS⟩, ⟨kLs, nLs⟩, ⟨kKn, nKn⟩, ⟨kPg, nPg⟩, ⟨kRl, nRl⟩, ⟨kRk, nRk⟩, ⟨kTp, nTp⟩, ⟨kCu, nCu⟩, ⟨kLe, nLe⟩, ⟨kLt, nLt⟩, ⟨kSm, nSm⟩, ⟨kIk, nIk⟩, ⟨kLn, nLn⟩, ⟨kLg, nLg⟩, kCe, nCe⟩ := id hl
  obtain ⟨e0, e1, e2, e3, e4, e5, e6⟩ := id he
  have hle := tok_le e0
  have hw2 := hw.2.1
  have hw3 : ∀ j, j < w.length → w.getD j 0 < 256 := fun j hj => (hw.2.2 j hj).2
  obtain ⟨cn1, cn2⟩ := hcn
  have c11' : (11 : Int32) = nI 11 := rfl
  generalize hT : tok w p = T at *
  have esub : nI T.2.2.1 - nI T.2.1 = nI (T.2.2.1 - T.2.1) := i_sub hle.2.1
  by_cases ct : T.1 = 1
  · have zt : nI T.1 = 1 := by rw [ct]; rfl
    have loop : ∀ d n, n + d = 11 → ∀ z2 z3, pr_E pX11_wordHere 2 [some (.ref 172), some (.int (nI n)), z2, z3] [] h M (some (.int (wkR w T d n))) h M := by
      intro d
      induction d with
      | zero =>
        intro n hn z2 z3
        obtain rfl : n = 11 := by omega
        have e7 : nI 11 ≤ nI 11 := nI_le (Nat.le_refl _) (by decide)
        refine pr_seq (pc' := 5) 2 rfl ⟨⟨trivial, trivial⟩, trivial⟩ ?_
        try simp (disch := omega) only [rCu, rLe, rI_mul, nI_add, nI_1, nI_clamp, c11, pr_8_11, pr_8_m4, pr_i_0, pr_i_1]
        refine pr_ic rfl (fun h5 => ?_) (fun h5 => ?_)
        · simp only [ab_cmp, pr_8_11, pr_8_m4, pr_i_0, pr_i_1] at h5
          first
          | contradiction
          | exact absurd trivial h5
          | exact absurd h5 (by decide)
          | exact absurd (Classical.not_not.mp h5) (by decide)
          | skip
            refine pr_seq (pc' := 120) 1 rfl ⟨trivial, trivial⟩ ?_
            try simp (disch := omega) only [rCu, rLe, rI_mul, nI_add, nI_1, nI_clamp, c11, pr_8_11, pr_8_m4, pr_i_0, pr_i_1]
            exact pr_irM rfl (by rfl) trivial (by rfl)
        · simp only [ab_cmp, pr_8_11, pr_8_m4, pr_i_0, pr_i_1] at h5
          exact absurd e7 h5
      | succ d ih =>
        intro n hn z2 z3
        have hn11 : n < 11 := by omega
        have e7 : ¬ nI 11 ≤ nI n := nI_ge hn11 (by decide)
        obtain ⟨k1, k2, k3, k4⟩ := cuts_ok n hn11
        have u1 : M.1 180 (n + 1) = nI (cutsL.getD (n + 1) 0) := cn1 (n + 1) (by omega)
        have u0 : M.1 180 n = nI (cutsL.getD n 0) := cn1 n (by omega)
        have ec : nI (cutsL.getD (n + 1) 0) - nI (cutsL.getD n 0) = nI (kwd n).length := by rw [k1, i_sub (by omega), Nat.add_sub_cancel_left]
        show pr_E pX11_wordHere 2 _ [] h M (some (.int (if sy w T n then nI n else wkR w T d (n + 1)))) h M
        generalize hR : wkR w T d (n + 1) = R at *
        have hno : ∀ z3, pr_E pX11_wordHere 106 [some (.ref 172), some (.int (nI n)), some (.int (pr_b false)), z3] [] h M (some (.int R)) h M := by
          intro z3
          have hh := ih (n + 1) (by omega) (some (.int (pr_b false))) z3
          rw [hR] at hh
          refine pr_seq (pc' := 107) 1 rfl ⟨trivial, trivial⟩ ?_
          try simp (disch := omega) only [rCu, rLe, rI_mul, nI_add, nI_1, nI_clamp, c11, pr_8_11, pr_8_m4, pr_i_0, pr_i_1]
          refine pr_if rfl (fun h107 => ?_) (fun h107 => ?_)
          · simp only [ab_cmp, pr_8_11, pr_8_m4, pr_i_0, pr_i_1] at h107
            first
            | contradiction
            | exact absurd trivial h107
            | exact absurd h107 (by decide)
            | exact absurd (Classical.not_not.mp h107) (by decide)
            | skip
              refine pr_seq (pc' := 2) 2 rfl ⟨⟨trivial, trivial⟩, trivial⟩ ?_
              try simp (disch := omega) only [rCu, rLe, rI_mul, nI_add, nI_1, nI_clamp, c11, pr_8_11, pr_8_m4, pr_i_0, pr_i_1]
              exact hh
          · simp only [ab_cmp, pr_8_11, pr_8_m4, pr_i_0, pr_i_1] at h107
            exact absurd rfl h107
        by_cases cl : T.2.2.1 - T.2.1 = (kwd n).length
        · have zl : nI (T.2.2.1 - T.2.1) = nI (kwd n).length := by rw [cl]
          have hsy : sy w T n = nb (fun i => !decide (w.getD (T.2.1 + i) 0 = (kwd n).getD i 0)) (kwd n).length := by unfold sy; rw [decide_eq_true ct, decide_eq_true cl]; rfl
          rw [hsy]
          have inner : ∀ ee k, k + ee = (kwd n).length → nb (fun i => !decide (w.getD (T.2.1 + i) 0 = (kwd n).getD i 0)) k = true → pr_E pX11_wordHere 51 [some (.ref 172), some (.int (nI n)), some (.int (pr_b true)), some (.int (nI k))] [] h M (some (.int (if nb (fun i => !decide (w.getD (T.2.1 + i) 0 = (kwd n).getD i 0)) (kwd n).length = true then nI n else R))) h M := by
            intro ee
            induction ee with
            | zero =>
              intro k hk hnb
              obtain rfl : k = (kwd n).length := by omega
              rw [if_pos hnb]
              have e8 : nI (T.2.2.1 - T.2.1) ≤ nI (kwd n).length := by rw [cl]; exact nI_le (Nat.le_refl _) (by omega)
              refine pr_seq (pc' := 52) 1 rfl ⟨trivial, trivial⟩ ?_
              try simp (disch := omega) only [e3, e4, esub, rCu, rLe, rI_mul, nI_add, nI_1, nI_clamp, c11, pr_8_11, pr_8_m4, pr_i_0, pr_i_1]
              refine pr_if rfl (fun h52 => ?_) (fun h52 => ?_)
              · simp only [ab_cmp, pr_8_11, pr_8_m4, pr_i_0, pr_i_1] at h52
                exact absurd h52 (by decide)
              · simp only [ab_cmp, pr_8_11, pr_8_m4, pr_i_0, pr_i_1] at h52
                first
                | contradiction
                | exact absurd trivial h52
                | exact absurd h52 (by decide)
                | exact absurd (Classical.not_not.mp h52) (by decide)
                | skip
                  refine pr_seq (pc' := 65) 6 rfl ⟨⟨⟨⟨⟨⟨trivial, trivial⟩, (by first | decide | assumption)⟩, (by assumption)⟩, (by first | decide | assumption)⟩, (by assumption)⟩, trivial⟩ ?_
                  try simp (disch := omega) only [e3, e4, esub, rCu, rLe, rI_mul, nI_add, nI_1, nI_clamp, c11, pr_8_11, pr_8_m4, pr_i_0, pr_i_1]
                  refine pr_ic rfl (fun h65 => ?_) (fun h65 => ?_)
                  · simp only [ab_cmp, pr_8_11, pr_8_m4, pr_i_0, pr_i_1] at h65
                    first
                    | contradiction
                    | exact absurd trivial h65
                    | exact absurd h65 (by decide)
                    | exact absurd (Classical.not_not.mp h65) (by decide)
                    | skip
                      refine pr_seq (pc' := 107) 1 rfl ⟨trivial, trivial⟩ ?_
                      try simp (disch := omega) only [e3, e4, esub, rCu, rLe, rI_mul, nI_add, nI_1, nI_clamp, c11, pr_8_11, pr_8_m4, pr_i_0, pr_i_1]
                      refine pr_if rfl (fun h107 => ?_) (fun h107 => ?_)
                      · simp only [ab_cmp, pr_8_11, pr_8_m4, pr_i_0, pr_i_1] at h107
                        exact absurd h107 (by decide)
                      · simp only [ab_cmp, pr_8_11, pr_8_m4, pr_i_0, pr_i_1] at h107
                        first
                        | contradiction
                        | exact absurd trivial h107
                        | exact absurd h107 (by decide)
                        | exact absurd (Classical.not_not.mp h107) (by decide)
                        | skip
                          refine pr_seq (pc' := 111) 1 rfl ⟨trivial, trivial⟩ ?_
                          try simp (disch := omega) only [e3, e4, esub, rCu, rLe, rI_mul, nI_add, nI_1, nI_clamp, c11, pr_8_11, pr_8_m4, pr_i_0, pr_i_1]
                          exact pr_irM rfl (by rfl) trivial (by rfl)
                  · simp only [ab_cmp, pr_8_11, pr_8_m4, pr_i_0, pr_i_1] at h65
                    exact absurd e8 h65
            | succ ee ih2 =>
              intro k hk hnb
              have hk2 : k < (kwd n).length := by omega
              have e8 : ¬ nI (T.2.2.1 - T.2.1) ≤ nI k := by rw [cl]; exact nI_ge hk2 (by omega)
              obtain ⟨q1, q2⟩ := k4 k (by omega) hk2
              have hby := q_byteAt (q := T.2.1 + k) h M hl hw (by omega)
              rw [show bA w (T.2.1 + k) = nI (w.getD (T.2.1 + k) 0) by unfold bA; rw [if_pos (by omega)]] at hby
              have u2 : M.1 181 (cutsL.getD n 0 + k) = nI ((kwd n).getD k 0) := by rw [cn2 _ (by omega), q1]
              have hb := hw3 (T.2.1 + k) (by omega)
              by_cases cc : w.getD (T.2.1 + k) 0 = (kwd n).getD k 0
              · have zc : nI (w.getD (T.2.1 + k) 0) = nI ((kwd n).getD k 0) := by rw [cc]
                have hh := ih2 (k + 1) (by omega) (by rw [nb_s, hnb, decide_eq_true cc]; rfl)
                refine pr_seq (pc' := 52) 1 rfl ⟨trivial, trivial⟩ ?_
                try simp (disch := omega) only [e3, e4, esub, u0, u2, rCu, rLe, rI_mul, nI_add, nI_1, nI_clamp, c11, pr_8_11, pr_8_m4, pr_i_0, pr_i_1]
                refine pr_if rfl (fun h52 => ?_) (fun h52 => ?_)
                · simp only [ab_cmp, pr_8_11, pr_8_m4, pr_i_0, pr_i_1] at h52
                  exact absurd h52 (by decide)
                · simp only [ab_cmp, pr_8_11, pr_8_m4, pr_i_0, pr_i_1] at h52
                  first
                  | contradiction
                  | exact absurd trivial h52
                  | exact absurd h52 (by decide)
                  | exact absurd (Classical.not_not.mp h52) (by decide)
                  | skip
                    refine pr_seq (pc' := 65) 6 rfl ⟨⟨⟨⟨⟨⟨trivial, trivial⟩, (by first | decide | assumption)⟩, (by assumption)⟩, (by first | decide | assumption)⟩, (by assumption)⟩, trivial⟩ ?_
                    try simp (disch := omega) only [e3, e4, esub, u0, u2, rCu, rLe, rI_mul, nI_add, nI_1, nI_clamp, c11, pr_8_11, pr_8_m4, pr_i_0, pr_i_1]
                    refine pr_ic rfl (fun h65 => ?_) (fun h65 => ?_)
                    · simp only [ab_cmp, pr_8_11, pr_8_m4, pr_i_0, pr_i_1] at h65
                      exact absurd h65 e8
                    · simp only [ab_cmp, pr_8_11, pr_8_m4, pr_i_0, pr_i_1] at h65
                      first
                      | contradiction
                      | exact absurd trivial h65
                      | exact absurd h65 (by decide)
                      | exact absurd (Classical.not_not.mp h65) (by decide)
                      | skip
                        refine pr_seq (pc' := 75) 5 rfl ⟨⟨⟨⟨⟨trivial, (by first | decide | assumption)⟩, (by first | decide | assumption)⟩, (by assumption)⟩, trivial⟩, trivial⟩ ?_
                        try simp (disch := omega) only [e3, e4, esub, u0, u2, rCu, rLe, rI_mul, nI_add, nI_1, nI_clamp, c11, pr_8_11, pr_8_m4, pr_i_0, pr_i_1]
                        refine pr_cv [_] rfl rfl rfl rfl rfl (Nat.le_of_ble_eq_true rfl) (by first | assumption | decide | (simp (disch := omega) only [e3, e4, esub, u0, u2, rCu, rLe, rI_mul, nI_add, nI_1, nI_clamp, c11, pr_8_11, pr_8_m4, pr_i_0, pr_i_1]; first | assumption | exact ⟨Or.inl (by assumption), rvin (by assumption) (by omega) (by decide)⟩ | exact ⟨by assumption, rvin (by assumption) (by omega) (by decide)⟩ | exact ⟨⟨by omega, by omega⟩, rvin (by assumption) (by omega) (by decide)⟩ | exact ⟨Or.inr (by assumption), rvin (by assumption) (by omega) (by decide)⟩ | exact ⟨Or.inr ⟨by assumption, (by first | exact Or.inl rfl | exact Or.inr rfl | exact pr_b01 _)⟩, rvin (by assumption) (by omega) (by decide)⟩ | exact ⟨by assumption, by assumption⟩ | decide | omega)) (Nat.le_of_ble_eq_true rfl) (hby) ?_
                        refine pr_seq (pc' := 91) 9 rfl ⟨⟨⟨⟨⟨⟨⟨⟨⟨trivial, (by first | decide | assumption)⟩, (by assumption)⟩, (by first | decide | assumption)⟩, (by assumption)⟩, trivial⟩, (by (try simp (disch := omega) only [e3, e4, esub, u0, u2, rCu, rLe, rI_mul, nI_add, nI_1, nI_clamp, c11, pr_8_11, pr_8_m4, pr_i_0, pr_i_1]); exact ⟨Or.inl (by assumption), rvin (by assumption) (by omega) (by decide)⟩)⟩, trivial⟩, trivial⟩, (by (try simp (disch := omega) only [e3, e4, esub, u0, u2, rCu, rLe, rI_mul, nI_add, nI_1, nI_clamp, c11, pr_8_11, pr_8_m4, pr_i_0, pr_i_1]); exact ⟨Or.inl (by assumption), rvin (by assumption) (by omega) (by decide)⟩)⟩ ?_
                        try simp (disch := omega) only [e3, e4, esub, u0, u2, rCu, rLe, rI_mul, nI_add, nI_1, nI_clamp, c11, pr_8_11, pr_8_m4, pr_i_0, pr_i_1]
                        refine pr_ic rfl (fun h91 => ?_) (fun h91 => ?_)
                        · simp only [ab_cmp, pr_8_11, pr_8_m4, pr_i_0, pr_i_1] at h91
                          exact absurd zc h91
                        · simp only [ab_cmp, pr_8_11, pr_8_m4, pr_i_0, pr_i_1] at h91
                          first
                          | contradiction
                          | exact absurd trivial h91
                          | exact absurd h91 (by decide)
                          | exact absurd (Classical.not_not.mp h91) (by decide)
                          | skip
                            refine pr_seq (pc' := 51) 5 rfl ⟨⟨⟨⟨⟨trivial, trivial⟩, trivial⟩, trivial⟩, trivial⟩, trivial⟩ ?_
                            try simp (disch := omega) only [e3, e4, esub, u0, u2, rCu, rLe, rI_mul, nI_add, nI_1, nI_clamp, c11, pr_8_11, pr_8_m4, pr_i_0, pr_i_1]
                            exact hh
              · have zc : ¬ nI (w.getD (T.2.1 + k) 0) = nI ((kwd n).getD k 0) := nI_ne cc (by omega) (by omega)
                have hfalse : nb (fun i => !decide (w.getD (T.2.1 + i) 0 = (kwd n).getD i 0)) (kwd n).length = false := by
                  refine nb_false (q := k) ?_ _ hk2
                  rw [decide_eq_false cc]; rfl
                rw [hfalse, if_neg (by decide)]
                have hh := hno (some (.int (nI (k + 1))))
                have hm : pr_E pX11_wordHere 51 [some (.ref 172), some (.int (nI n)), some (.int (pr_b false)), some (.int (nI (k + 1)))] [] h M (some (.int R)) h M := by
                  refine pr_seq (pc' := 52) 1 rfl ⟨trivial, trivial⟩ ?_
                  try simp (disch := omega) only [rCu, rLe, rI_mul, nI_add, nI_1, nI_clamp, c11, pr_8_11, pr_8_m4, pr_i_0, pr_i_1]
                  refine pr_if rfl (fun h52 => ?_) (fun h52 => ?_)
                  · simp only [ab_cmp, pr_8_11, pr_8_m4, pr_i_0, pr_i_1] at h52
                    first
                    | contradiction
                    | exact absurd trivial h52
                    | exact absurd h52 (by decide)
                    | exact absurd (Classical.not_not.mp h52) (by decide)
                    | skip
                      exact hh
                  · simp only [ab_cmp, pr_8_11, pr_8_m4, pr_i_0, pr_i_1] at h52
                    exact absurd rfl h52
                refine pr_seq (pc' := 52) 1 rfl ⟨trivial, trivial⟩ ?_
                try simp (disch := omega) only [e3, e4, esub, u0, u2, rCu, rLe, rI_mul, nI_add, nI_1, nI_clamp, c11, pr_8_11, pr_8_m4, pr_i_0, pr_i_1]
                refine pr_if rfl (fun h52 => ?_) (fun h52 => ?_)
                · simp only [ab_cmp, pr_8_11, pr_8_m4, pr_i_0, pr_i_1] at h52
                  exact absurd h52 (by decide)
                · simp only [ab_cmp, pr_8_11, pr_8_m4, pr_i_0, pr_i_1] at h52
                  first
                  | contradiction
                  | exact absurd trivial h52
                  | exact absurd h52 (by decide)
                  | exact absurd (Classical.not_not.mp h52) (by decide)
                  | skip
                    refine pr_seq (pc' := 65) 6 rfl ⟨⟨⟨⟨⟨⟨trivial, trivial⟩, (by first | decide | assumption)⟩, (by assumption)⟩, (by first | decide | assumption)⟩, (by assumption)⟩, trivial⟩ ?_
                    try simp (disch := omega) only [e3, e4, esub, u0, u2, rCu, rLe, rI_mul, nI_add, nI_1, nI_clamp, c11, pr_8_11, pr_8_m4, pr_i_0, pr_i_1]
                    refine pr_ic rfl (fun h65 => ?_) (fun h65 => ?_)
                    · simp only [ab_cmp, pr_8_11, pr_8_m4, pr_i_0, pr_i_1] at h65
                      exact absurd h65 e8
                    · simp only [ab_cmp, pr_8_11, pr_8_m4, pr_i_0, pr_i_1] at h65
                      first
                      | contradiction
                      | exact absurd trivial h65
                      | exact absurd h65 (by decide)
                      | exact absurd (Classical.not_not.mp h65) (by decide)
                      | skip
                        refine pr_seq (pc' := 75) 5 rfl ⟨⟨⟨⟨⟨trivial, (by first | decide | assumption)⟩, (by first | decide | assumption)⟩, (by assumption)⟩, trivial⟩, trivial⟩ ?_
                        try simp (disch := omega) only [e3, e4, esub, u0, u2, rCu, rLe, rI_mul, nI_add, nI_1, nI_clamp, c11, pr_8_11, pr_8_m4, pr_i_0, pr_i_1]
                        refine pr_cv [_] rfl rfl rfl rfl rfl (Nat.le_of_ble_eq_true rfl) (by first | assumption | decide | (simp (disch := omega) only [e3, e4, esub, u0, u2, rCu, rLe, rI_mul, nI_add, nI_1, nI_clamp, c11, pr_8_11, pr_8_m4, pr_i_0, pr_i_1]; first | assumption | exact ⟨Or.inl (by assumption), rvin (by assumption) (by omega) (by decide)⟩ | exact ⟨by assumption, rvin (by assumption) (by omega) (by decide)⟩ | exact ⟨⟨by omega, by omega⟩, rvin (by assumption) (by omega) (by decide)⟩ | exact ⟨Or.inr (by assumption), rvin (by assumption) (by omega) (by decide)⟩ | exact ⟨Or.inr ⟨by assumption, (by first | exact Or.inl rfl | exact Or.inr rfl | exact pr_b01 _)⟩, rvin (by assumption) (by omega) (by decide)⟩ | exact ⟨by assumption, by assumption⟩ | decide | omega)) (Nat.le_of_ble_eq_true rfl) (hby) ?_
                        refine pr_seq (pc' := 91) 9 rfl ⟨⟨⟨⟨⟨⟨⟨⟨⟨trivial, (by first | decide | assumption)⟩, (by assumption)⟩, (by first | decide | assumption)⟩, (by assumption)⟩, trivial⟩, (by (try simp (disch := omega) only [e3, e4, esub, u0, u2, rCu, rLe, rI_mul, nI_add, nI_1, nI_clamp, c11, pr_8_11, pr_8_m4, pr_i_0, pr_i_1]); exact ⟨Or.inl (by assumption), rvin (by assumption) (by omega) (by decide)⟩)⟩, trivial⟩, trivial⟩, (by (try simp (disch := omega) only [e3, e4, esub, u0, u2, rCu, rLe, rI_mul, nI_add, nI_1, nI_clamp, c11, pr_8_11, pr_8_m4, pr_i_0, pr_i_1]); exact ⟨Or.inl (by assumption), rvin (by assumption) (by omega) (by decide)⟩)⟩ ?_
                        try simp (disch := omega) only [e3, e4, esub, u0, u2, rCu, rLe, rI_mul, nI_add, nI_1, nI_clamp, c11, pr_8_11, pr_8_m4, pr_i_0, pr_i_1]
                        refine pr_ic rfl (fun h91 => ?_) (fun h91 => ?_)
                        · simp only [ab_cmp, pr_8_11, pr_8_m4, pr_i_0, pr_i_1] at h91
                          first
                          | contradiction
                          | exact absurd trivial h91
                          | exact absurd h91 (by decide)
                          | exact absurd (Classical.not_not.mp h91) (by decide)
                          | skip
                            refine pr_seq (pc' := 51) 4 rfl ⟨⟨⟨⟨trivial, trivial⟩, trivial⟩, trivial⟩, trivial⟩ ?_
                            try simp (disch := omega) only [e3, e4, esub, u0, u2, rCu, rLe, rI_mul, nI_add, nI_1, nI_clamp, c11, pr_8_11, pr_8_m4, pr_i_0, pr_i_1]
                            exact hm
                        · simp only [ab_cmp, pr_8_11, pr_8_m4, pr_i_0, pr_i_1] at h91
                          exact absurd (Classical.not_not.mp h91) zc
          have h0 := inner (kwd n).length 0 (by omega) rfl
          refine pr_seq (pc' := 5) 2 rfl ⟨⟨trivial, trivial⟩, trivial⟩ ?_
          try simp (disch := omega) only [e3, e4, e5, esub, u0, u1, ec, rCu, rLe, rI_mul, nI_add, nI_1, nI_clamp, c11, pr_8_11, pr_8_m4, pr_i_0, pr_i_1]
          refine pr_ic rfl (fun h5 => ?_) (fun h5 => ?_)
          · simp only [ab_cmp, pr_8_11, pr_8_m4, pr_i_0, pr_i_1] at h5
            exact absurd h5 e7
          · simp only [ab_cmp, pr_8_11, pr_8_m4, pr_i_0, pr_i_1] at h5
            first
            | contradiction
            | exact absurd trivial h5
            | exact absurd h5 (by decide)
            | exact absurd (Classical.not_not.mp h5) (by decide)
            | skip
              refine pr_seq (pc' := 13) 3 rfl ⟨⟨⟨trivial, (by first | decide | assumption)⟩, (by assumption)⟩, trivial⟩ ?_
              try simp (disch := omega) only [e3, e4, e5, esub, u0, u1, ec, rCu, rLe, rI_mul, nI_add, nI_1, nI_clamp, c11, pr_8_11, pr_8_m4, pr_i_0, pr_i_1]
              refine pr_ic rfl (fun h13 => ?_) (fun h13 => ?_)
              · simp only [ab_cmp, pr_8_11, pr_8_m4, pr_i_0, pr_i_1] at h13
                exact absurd zt h13
              · simp only [ab_cmp, pr_8_11, pr_8_m4, pr_i_0, pr_i_1] at h13
                first
                | contradiction
                | exact absurd trivial h13
                | exact absurd h13 (by decide)
                | exact absurd (Classical.not_not.mp h13) (by decide)
                | skip
                  refine pr_seq (pc' := 40) 16 rfl ⟨⟨⟨⟨⟨⟨⟨⟨⟨⟨⟨⟨⟨⟨⟨⟨trivial, (by first | decide | assumption)⟩, (by assumption)⟩, (by first | decide | assumption)⟩, (by assumption)⟩, trivial⟩, (by first | decide | assumption)⟩, (by assumption)⟩, trivial⟩, trivial⟩, trivial⟩, (by (try simp (disch := omega) only [e3, e4, e5, esub, u0, u1, ec, rCu, rLe, rI_mul, nI_add, nI_1, nI_clamp, c11, pr_8_11, pr_8_m4, pr_i_0, pr_i_1]); exact ⟨Or.inl (by assumption), rvin (by assumption) (by omega) (by decide)⟩)⟩, (by first | decide | assumption)⟩, (by assumption)⟩, trivial⟩, (by (try simp (disch := omega) only [e3, e4, e5, esub, u0, u1, ec, rCu, rLe, rI_mul, nI_add, nI_1, nI_clamp, c11, pr_8_11, pr_8_m4, pr_i_0, pr_i_1]); exact ⟨Or.inl (by assumption), rvin (by assumption) (by omega) (by decide)⟩)⟩, trivial⟩ ?_
                  try simp (disch := omega) only [e3, e4, e5, esub, u0, u1, ec, rCu, rLe, rI_mul, nI_add, nI_1, nI_clamp, c11, pr_8_11, pr_8_m4, pr_i_0, pr_i_1]
                  refine pr_ic rfl (fun h40 => ?_) (fun h40 => ?_)
                  · simp only [ab_cmp, pr_8_11, pr_8_m4, pr_i_0, pr_i_1] at h40
                    exact absurd zl h40
                  · simp only [ab_cmp, pr_8_11, pr_8_m4, pr_i_0, pr_i_1] at h40
                    first
                    | contradiction
                    | exact absurd trivial h40
                    | exact absurd h40 (by decide)
                    | exact absurd (Classical.not_not.mp h40) (by decide)
                    | skip
                      refine pr_seq (pc' := 51) 5 rfl ⟨⟨⟨⟨⟨trivial, trivial⟩, trivial⟩, trivial⟩, trivial⟩, trivial⟩ ?_
                      try simp (disch := omega) only [e3, e4, e5, esub, u0, u1, ec, rCu, rLe, rI_mul, nI_add, nI_1, nI_clamp, c11, pr_8_11, pr_8_m4, pr_i_0, pr_i_1]
                      exact h0
        · have zl : ¬ nI (T.2.2.1 - T.2.1) = nI (kwd n).length := nI_ne cl (by omega) (by omega)
          rw [if_neg (by unfold sy; rw [decide_eq_true ct, decide_eq_false cl]; simp)]
          have hm : pr_E pX11_wordHere 51 [some (.ref 172), some (.int (nI n)), some (.int (pr_b false)), some (.int (nI 0))] [] h M (some (.int R)) h M := by
            have hh := hno (some (.int (nI 0)))
            refine pr_seq (pc' := 52) 1 rfl ⟨trivial, trivial⟩ ?_
            try simp (disch := omega) only [rCu, rLe, rI_mul, nI_add, nI_1, nI_clamp, c11, pr_8_11, pr_8_m4, pr_i_0, pr_i_1]
            refine pr_if rfl (fun h52 => ?_) (fun h52 => ?_)
            · simp only [ab_cmp, pr_8_11, pr_8_m4, pr_i_0, pr_i_1] at h52
              first
              | contradiction
              | exact absurd trivial h52
              | exact absurd h52 (by decide)
              | exact absurd (Classical.not_not.mp h52) (by decide)
              | skip
                exact hh
            · simp only [ab_cmp, pr_8_11, pr_8_m4, pr_i_0, pr_i_1] at h52
              exact absurd rfl h52
          refine pr_seq (pc' := 5) 2 rfl ⟨⟨trivial, trivial⟩, trivial⟩ ?_
          try simp (disch := omega) only [e3, e4, e5, esub, u0, u1, ec, rCu, rLe, rI_mul, nI_add, nI_1, nI_clamp, c11, pr_8_11, pr_8_m4, pr_i_0, pr_i_1]
          refine pr_ic rfl (fun h5 => ?_) (fun h5 => ?_)
          · simp only [ab_cmp, pr_8_11, pr_8_m4, pr_i_0, pr_i_1] at h5
            exact absurd h5 e7
          · simp only [ab_cmp, pr_8_11, pr_8_m4, pr_i_0, pr_i_1] at h5
            first
            | contradiction
            | exact absurd trivial h5
            | exact absurd h5 (by decide)
            | exact absurd (Classical.not_not.mp h5) (by decide)
            | skip
              refine pr_seq (pc' := 13) 3 rfl ⟨⟨⟨trivial, (by first | decide | assumption)⟩, (by assumption)⟩, trivial⟩ ?_
              try simp (disch := omega) only [e3, e4, e5, esub, u0, u1, ec, rCu, rLe, rI_mul, nI_add, nI_1, nI_clamp, c11, pr_8_11, pr_8_m4, pr_i_0, pr_i_1]
              refine pr_ic rfl (fun h13 => ?_) (fun h13 => ?_)
              · simp only [ab_cmp, pr_8_11, pr_8_m4, pr_i_0, pr_i_1] at h13
                exact absurd zt h13
              · simp only [ab_cmp, pr_8_11, pr_8_m4, pr_i_0, pr_i_1] at h13
                first
                | contradiction
                | exact absurd trivial h13
                | exact absurd h13 (by decide)
                | exact absurd (Classical.not_not.mp h13) (by decide)
                | skip
                  refine pr_seq (pc' := 40) 16 rfl ⟨⟨⟨⟨⟨⟨⟨⟨⟨⟨⟨⟨⟨⟨⟨⟨trivial, (by first | decide | assumption)⟩, (by assumption)⟩, (by first | decide | assumption)⟩, (by assumption)⟩, trivial⟩, (by first | decide | assumption)⟩, (by assumption)⟩, trivial⟩, trivial⟩, trivial⟩, (by (try simp (disch := omega) only [e3, e4, e5, esub, u0, u1, ec, rCu, rLe, rI_mul, nI_add, nI_1, nI_clamp, c11, pr_8_11, pr_8_m4, pr_i_0, pr_i_1]); exact ⟨Or.inl (by assumption), rvin (by assumption) (by omega) (by decide)⟩)⟩, (by first | decide | assumption)⟩, (by assumption)⟩, trivial⟩, (by (try simp (disch := omega) only [e3, e4, e5, esub, u0, u1, ec, rCu, rLe, rI_mul, nI_add, nI_1, nI_clamp, c11, pr_8_11, pr_8_m4, pr_i_0, pr_i_1]); exact ⟨Or.inl (by assumption), rvin (by assumption) (by omega) (by decide)⟩)⟩, trivial⟩ ?_
                  try simp (disch := omega) only [e3, e4, e5, esub, u0, u1, ec, rCu, rLe, rI_mul, nI_add, nI_1, nI_clamp, c11, pr_8_11, pr_8_m4, pr_i_0, pr_i_1]
                  refine pr_ic rfl (fun h40 => ?_) (fun h40 => ?_)
                  · simp only [ab_cmp, pr_8_11, pr_8_m4, pr_i_0, pr_i_1] at h40
                    first
                    | contradiction
                    | exact absurd trivial h40
                    | exact absurd h40 (by decide)
                    | exact absurd (Classical.not_not.mp h40) (by decide)
                    | skip
                      refine pr_seq (pc' := 51) 4 rfl ⟨⟨⟨⟨trivial, trivial⟩, trivial⟩, trivial⟩, trivial⟩ ?_
                      try simp (disch := omega) only [e3, e4, e5, esub, u0, u1, ec, rCu, rLe, rI_mul, nI_add, nI_1, nI_clamp, c11, pr_8_11, pr_8_m4, pr_i_0, pr_i_1]
                      exact hm
                  · simp only [ab_cmp, pr_8_11, pr_8_m4, pr_i_0, pr_i_1] at h40
                    exact absurd (Classical.not_not.mp h40) zl
    have h0 := loop 11 0 (by omega) none none
    refine pr_seq (pc' := 2) 2 rfl ⟨⟨trivial, trivial⟩, trivial⟩ ?_
    exact h0
  · have zt : ¬ nI T.1 = 1 := nI_ne (b := 1) ct (by omega) (by decide)
    rw [wkR_no ct]
    have e7 : ¬ nI 11 ≤ nI 0 := by decide
    refine pr_seq (pc' := 5) 4 rfl ⟨⟨⟨⟨trivial, trivial⟩, trivial⟩, trivial⟩, trivial⟩ ?_
    try simp (disch := omega) only [e5, rCu, rLe, rI_mul, nI_add, nI_1, nI_clamp, c11, pr_8_11, pr_8_m4, pr_i_0, pr_i_1]
    refine pr_ic rfl (fun h5 => ?_) (fun h5 => ?_)
    · simp only [ab_cmp, pr_8_11, pr_8_m4, pr_i_0, pr_i_1] at h5
      exact absurd h5 e7
    · simp only [ab_cmp, pr_8_11, pr_8_m4, pr_i_0, pr_i_1] at h5
      first
      | contradiction
      | exact absurd trivial h5
      | exact absurd h5 (by decide)
      | exact absurd (Classical.not_not.mp h5) (by decide)
      | skip
        refine pr_seq (pc' := 13) 3 rfl ⟨⟨⟨trivial, (by first | decide | assumption)⟩, (by assumption)⟩, trivial⟩ ?_
        try simp (disch := omega) only [e5, rCu, rLe, rI_mul, nI_add, nI_1, nI_clamp, c11, pr_8_11, pr_8_m4, pr_i_0, pr_i_1]
        refine pr_ic rfl (fun h13 => ?_) (fun h13 => ?_)
        · simp only [ab_cmp, pr_8_11, pr_8_m4, pr_i_0, pr_i_1] at h13
          first
          | contradiction
          | exact absurd trivial h13
          | exact absurd h13 (by decide)
          | exact absurd (Classical.not_not.mp h13) (by decide)
          | skip
            refine pr_seq (pc' := 120) 1 rfl ⟨trivial, trivial⟩ ?_
            try simp (disch := omega) only [e5, rCu, rLe, rI_mul, nI_add, nI_1, nI_clamp, c11, pr_8_11, pr_8_m4, pr_i_0, pr_i_1]
            exact pr_irM rfl (by rfl) trivial (by rfl)
        · simp only [ab_cmp, pr_8_11, pr_8_m4, pr_i_0, pr_i_1] at h13
          exact absurd (Classical.not_not.mp h13) zt
