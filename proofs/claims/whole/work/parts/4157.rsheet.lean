
/-! ===== the reference: sheets, the tape, counts ===== -/
theorem r_sheet {X : St} (x y n : Int32) (h : ab_H) (M : ab_M) (hl : rL h M.2.2) (hv : rv M.1 X) : pr_X pX11_sheet [.ref 172, .int x, .int y, .int n] h M (rp M (f_sheet X x y n)) := by
  obtain ⟨k172, rS, rLs, rKn, rPg, rRl, rRk, rTp, rCu, rLe, rLt, rSm, rIk, rLn, rLg, rCe, ⟨kS, nS⟩, ⟨kLs, nLs⟩, ⟨kKn, nKn⟩, ⟨kPg, nPg⟩, ⟨kRl, nRl⟩, ⟨kRk, nRk⟩, ⟨kTp, nTp⟩, ⟨kCu, nCu⟩, ⟨kLe, nLe⟩, ⟨kLt, nLt⟩, ⟨kSm, nSm⟩, ⟨kIk, nIk⟩, ⟨kLn, nLn⟩, ⟨kLg, nLg⟩, kCe, nCe⟩ := id hl
  have h1 := q_in (a := x.toInt64) (b := Int64.ofNat 0) (c := Int64.ofNat 3) x 0 3 h M rfl rfl rfl
  have h2 := q_in (a := y.toInt64) (b := Int64.ofNat 0) (c := Int64.ofNat 2) y 0 2 h M rfl rfl rfl
  unfold f_sheet
  rcases pr_rg x 3 3 rfl (by decide) with q | ⟨j, hj, rfl, q⟩
  · rw [q] at h1 ⊢
    refine pr_ofC ?_ (rp_s hv)
    refine pr_seq (pc' := 6) 4 rfl ⟨⟨⟨⟨trivial, trivial⟩, trivial⟩, trivial⟩, trivial⟩ ?_
    refine pr_cs [_, _, _] rfl rfl rfl rfl rfl (Nat.le_of_ble_eq_true rfl) (Nat.le_of_ble_eq_true rfl) (h1) ?_
    refine pr_if rfl (fun h9 => ?_) (fun h9 => ?_)
    · simp only [ab_cmp, pr_8_40, pr_8_m14, pr_i_0, pr_i_1, pr_i_m1] at h9
      first
      | contradiction
      | exact absurd trivial h9
      | exact absurd h9 (by decide)
      | exact absurd (Classical.not_not.mp h9) (by decide)
      | skip
        refine pr_seq (pc' := 31) 1 rfl ⟨trivial, trivial⟩ ?_
        exact pr_irM rfl (by first | rfl | (simp [pr_b, pr_8_40, pr_8_m14, pr_i_0, pr_i_1, pr_i_m1, *]; done) | (simp_all [pr_b, pr_8_40, pr_8_m14, pr_i_0, pr_i_1, pr_i_m1]; done)) trivial (by rfl)
    · simp only [ab_cmp, pr_8_40, pr_8_m14, pr_i_0, pr_i_1, pr_i_m1] at h9
      exact absurd rfl h9
  · rw [q] at h1 ⊢
    rcases pr_rg y 2 2 rfl (by decide) with q2 | ⟨k, hk, rfl, q2⟩
    · rw [q2] at h2 ⊢
      refine pr_ofC ?_ (rp_s hv)
      refine pr_seq (pc' := 6) 4 rfl ⟨⟨⟨⟨trivial, trivial⟩, trivial⟩, trivial⟩, trivial⟩ ?_
      refine pr_cs [_, _, _] rfl rfl rfl rfl rfl (Nat.le_of_ble_eq_true rfl) (Nat.le_of_ble_eq_true rfl) (h1) ?_
      refine pr_if rfl (fun h9 => ?_) (fun h9 => ?_)
      · simp only [ab_cmp, pr_8_40, pr_8_m14, pr_i_0, pr_i_1, pr_i_m1] at h9
        exact absurd h9 (by decide)
      · simp only [ab_cmp, pr_8_40, pr_8_m14, pr_i_0, pr_i_1, pr_i_m1] at h9
        first
        | contradiction
        | exact absurd trivial h9
        | exact absurd h9 (by decide)
        | exact absurd (Classical.not_not.mp h9) (by decide)
        | skip
          refine pr_seq (pc' := 18) 4 rfl ⟨⟨⟨⟨trivial, trivial⟩, trivial⟩, trivial⟩, trivial⟩ ?_
          refine pr_cs [_, _, _] rfl rfl rfl rfl rfl (Nat.le_of_ble_eq_true rfl) (Nat.le_of_ble_eq_true rfl) (h2) ?_
          refine pr_if rfl (fun h21 => ?_) (fun h21 => ?_)
          · simp only [ab_cmp, pr_8_40, pr_8_m14, pr_i_0, pr_i_1, pr_i_m1] at h21
            first
            | contradiction
            | exact absurd trivial h21
            | exact absurd h21 (by decide)
            | exact absurd (Classical.not_not.mp h21) (by decide)
            | skip
              refine pr_seq (pc' := 31) 1 rfl ⟨trivial, trivial⟩ ?_
              exact pr_irM rfl (by first | rfl | (simp [pr_b, pr_8_40, pr_8_m14, pr_i_0, pr_i_1, pr_i_m1, *]; done) | (simp_all [pr_b, pr_8_40, pr_8_m14, pr_i_0, pr_i_1, pr_i_m1]; done)) trivial (by rfl)
          · simp only [ab_cmp, pr_8_40, pr_8_m14, pr_i_0, pr_i_1, pr_i_m1] at h21
            exact absurd rfl h21
    · rw [q2] at h2 ⊢
      by_cases c4 : (40 : Int32) < n
      · rw [decide_eq_true c4]
        have c4' : ¬ n ≤ 40 := fun q => by rw [Int32.le_iff_toInt_le] at q; rw [Int32.lt_iff_toInt_lt] at c4; omega
        refine pr_ofC ?_ (rp_s hv)
        refine pr_seq (pc' := 6) 4 rfl ⟨⟨⟨⟨trivial, trivial⟩, trivial⟩, trivial⟩, trivial⟩ ?_
        try simp only [pr_8_40, pr_8_40, pr_8_m14, pr_i_0, pr_i_1, pr_i_m1]
        refine pr_cs [_, _, _] rfl rfl rfl rfl rfl (Nat.le_of_ble_eq_true rfl) (Nat.le_of_ble_eq_true rfl) (h1) ?_
        refine pr_if rfl (fun h9 => ?_) (fun h9 => ?_)
        · simp only [ab_cmp, pr_8_40, pr_8_m14, pr_i_0, pr_i_1, pr_i_m1] at h9
          exact absurd h9 (by decide)
        · simp only [ab_cmp, pr_8_40, pr_8_m14, pr_i_0, pr_i_1, pr_i_m1] at h9
          first
          | contradiction
          | exact absurd trivial h9
          | exact absurd h9 (by decide)
          | exact absurd (Classical.not_not.mp h9) (by decide)
          | skip
            refine pr_seq (pc' := 18) 4 rfl ⟨⟨⟨⟨trivial, trivial⟩, trivial⟩, trivial⟩, trivial⟩ ?_
            try simp only [pr_8_40, pr_8_40, pr_8_m14, pr_i_0, pr_i_1, pr_i_m1]
            refine pr_cs [_, _, _] rfl rfl rfl rfl rfl (Nat.le_of_ble_eq_true rfl) (Nat.le_of_ble_eq_true rfl) (h2) ?_
            refine pr_if rfl (fun h21 => ?_) (fun h21 => ?_)
            · simp only [ab_cmp, pr_8_40, pr_8_m14, pr_i_0, pr_i_1, pr_i_m1] at h21
              exact absurd h21 (by decide)
            · simp only [ab_cmp, pr_8_40, pr_8_m14, pr_i_0, pr_i_1, pr_i_m1] at h21
              first
              | contradiction
              | exact absurd trivial h21
              | exact absurd h21 (by decide)
              | exact absurd (Classical.not_not.mp h21) (by decide)
              | skip
                refine pr_seq (pc' := 27) 2 rfl ⟨⟨trivial, trivial⟩, trivial⟩ ?_
                try simp only [pr_8_40, pr_8_40, pr_8_m14, pr_i_0, pr_i_1, pr_i_m1]
                refine pr_ic rfl (fun h27 => ?_) (fun h27 => ?_)
                · simp only [ab_cmp, pr_8_40, pr_8_m14, pr_i_0, pr_i_1, pr_i_m1] at h27
                  exact absurd h27 c4'
                · simp only [ab_cmp, pr_8_40, pr_8_m14, pr_i_0, pr_i_1, pr_i_m1] at h27
                  first
                  | contradiction
                  | exact absurd trivial h27
                  | exact absurd h27 (by decide)
                  | exact absurd (Classical.not_not.mp h27) (by decide)
                  | skip
                    refine pr_seq (pc' := 31) 1 rfl ⟨trivial, trivial⟩ ?_
                    try simp only [pr_8_40, pr_8_40, pr_8_m14, pr_i_0, pr_i_1, pr_i_m1]
                    exact pr_irM rfl (by first | rfl | (simp only [pr_8_40, pr_8_40, pr_8_m14, pr_i_0, pr_i_1, pr_i_m1]; done) | (simp [pr_b, pr_8_40, pr_8_m14, pr_i_0, pr_i_1, pr_i_m1, *]; done) | (simp_all [pr_b, pr_8_40, pr_8_m14, pr_i_0, pr_i_1, pr_i_m1]; done)) trivial (by rfl)
      · rw [decide_eq_false c4, if_pos (show (true && true && !false) = true from rfl)]
        have c4' : n ≤ 40 := by rw [Int32.le_iff_toInt_le]; rw [Int32.lt_iff_toInt_lt] at c4; omega
        by_cases c0 : n < 0
        · rw [if_pos c0]
          have c0' : ¬ 0 ≤ n := fun q => (i32_ge n).mp q c0
          refine pr_ofC ?_ (rp_s hv)
          refine pr_seq (pc' := 6) 4 rfl ⟨⟨⟨⟨trivial, trivial⟩, trivial⟩, trivial⟩, trivial⟩ ?_
          try simp only [pr_8_40, pr_8_40, pr_8_m14, pr_i_0, pr_i_1, pr_i_m1]
          refine pr_cs [_, _, _] rfl rfl rfl rfl rfl (Nat.le_of_ble_eq_true rfl) (Nat.le_of_ble_eq_true rfl) (h1) ?_
          refine pr_if rfl (fun h9 => ?_) (fun h9 => ?_)
          · simp only [ab_cmp, pr_8_40, pr_8_m14, pr_i_0, pr_i_1, pr_i_m1] at h9
            exact absurd h9 (by decide)
          · simp only [ab_cmp, pr_8_40, pr_8_m14, pr_i_0, pr_i_1, pr_i_m1] at h9
            first
            | contradiction
            | exact absurd trivial h9
            | exact absurd h9 (by decide)
            | exact absurd (Classical.not_not.mp h9) (by decide)
            | skip
              refine pr_seq (pc' := 18) 4 rfl ⟨⟨⟨⟨trivial, trivial⟩, trivial⟩, trivial⟩, trivial⟩ ?_
              try simp only [pr_8_40, pr_8_40, pr_8_m14, pr_i_0, pr_i_1, pr_i_m1]
              refine pr_cs [_, _, _] rfl rfl rfl rfl rfl (Nat.le_of_ble_eq_true rfl) (Nat.le_of_ble_eq_true rfl) (h2) ?_
              refine pr_if rfl (fun h21 => ?_) (fun h21 => ?_)
              · simp only [ab_cmp, pr_8_40, pr_8_m14, pr_i_0, pr_i_1, pr_i_m1] at h21
                exact absurd h21 (by decide)
              · simp only [ab_cmp, pr_8_40, pr_8_m14, pr_i_0, pr_i_1, pr_i_m1] at h21
                first
                | contradiction
                | exact absurd trivial h21
                | exact absurd h21 (by decide)
                | exact absurd (Classical.not_not.mp h21) (by decide)
                | skip
                  refine pr_seq (pc' := 27) 2 rfl ⟨⟨trivial, trivial⟩, trivial⟩ ?_
                  try simp only [pr_8_40, pr_8_40, pr_8_m14, pr_i_0, pr_i_1, pr_i_m1]
                  refine pr_ic rfl (fun h27 => ?_) (fun h27 => ?_)
                  · simp only [ab_cmp, pr_8_40, pr_8_m14, pr_i_0, pr_i_1, pr_i_m1] at h27
                    first
                    | contradiction
                    | exact absurd trivial h27
                    | exact absurd h27 (by decide)
                    | exact absurd (Classical.not_not.mp h27) (by decide)
                    | skip
                      refine pr_seq (pc' := 33) 1 rfl ⟨trivial, trivial⟩ ?_
                      try simp only [pr_8_40, pr_8_40, pr_8_m14, pr_i_0, pr_i_1, pr_i_m1]
                      refine pr_if rfl (fun h33 => ?_) (fun h33 => ?_)
                      · simp only [ab_cmp, pr_8_40, pr_8_m14, pr_i_0, pr_i_1, pr_i_m1] at h33
                        exact absurd h33 c0'
                      · simp only [ab_cmp, pr_8_40, pr_8_m14, pr_i_0, pr_i_1, pr_i_m1] at h33
                        first
                        | contradiction
                        | exact absurd trivial h33
                        | exact absurd h33 (by decide)
                        | exact absurd (Classical.not_not.mp h33) (by decide)
                        | skip
                          refine pr_seq (pc' := 38) 1 rfl ⟨trivial, trivial⟩ ?_
                          try simp only [pr_8_40, pr_8_40, pr_8_m14, pr_i_0, pr_i_1, pr_i_m1]
                          exact pr_irM rfl (by first | rfl | (simp only [pr_8_40, pr_8_40, pr_8_m14, pr_i_0, pr_i_1, pr_i_m1]; done) | (simp [pr_b, pr_8_40, pr_8_m14, pr_i_0, pr_i_1, pr_i_m1, *]; done) | (simp_all [pr_b, pr_8_40, pr_8_m14, pr_i_0, pr_i_1, pr_i_m1]; done)) trivial (by rfl)
                  · simp only [ab_cmp, pr_8_40, pr_8_m14, pr_i_0, pr_i_1, pr_i_m1] at h27
                    exact absurd c4' h27
        · rw [if_neg c0]
          have c0' : 0 ≤ n := (i32_ge n).mpr c0
          obtain ⟨m, hm, rfl⟩ := nI_of c0
          have hm4 : m ≤ 40 := (nI_leI (b := 40) hm (by decide)).mp c4'
          rw [nI_clamp hm, nI_clamp (by omega), nI_clamp (by omega)]
          have loop : ∀ dd i, i + dd = 40 → ∀ I : Nat → Nat → Int32, (∀ a, a ≠ 187 → I a = ab_u (ab_u M.1 185 j (nI k)) 186 j (nI m) a) → (∀ z, (z < 40 * j ∨ 40 * j + 40 ≤ z) → I 187 z = M.1 187 z) → (∀ z, z < i → I 187 (40 * j + z) = 0) → pr_T pX11_sheet 56 [some (.ref 172), some (.int (nI j)), some (.int (nI k)), some (.int (nI m)), some (.int (nI i))] [] h (I, M.2) (rp M (1, (X.1, X.2.1, va_up X.2.2.1 j (some (k, m, fun _ => 0)), X.2.2.2))) := by
            intro dd
            induction dd with
            | zero =>
              intro i hi I f1 f2 f3
              obtain rfl : i = 40 := by omega
              have e1 : nI 40 ≤ nI 40 := nI_le (Nat.le_refl _) (by decide)
              refine pr_seqT (pc' := 60) 2 rfl ⟨⟨trivial, trivial⟩, trivial⟩ ?_
              try simp (disch := omega) only [c40, rLn, rLg, rCe, rI_mul, nI_add, nI_1, nI_clamp, pr_8_40, pr_8_m14, pr_i_0, pr_i_1, pr_i_m1]
              refine pr_icT rfl (fun h60 => ?_) (fun h60 => ?_)
              · simp only [ab_cmp, pr_8_40, pr_8_m14, pr_i_0, pr_i_1, pr_i_m1] at h60
                first
                | contradiction
                | exact absurd trivial h60
                | exact absurd h60 (by decide)
                | exact absurd (Classical.not_not.mp h60) (by decide)
                | skip
                  refine pr_seqT (pc' := 83) 1 rfl ⟨trivial, trivial⟩ ?_
                  try simp (disch := omega) only [c40, rLn, rLg, rCe, rI_mul, nI_add, nI_1, nI_clamp, pr_8_40, pr_8_m14, pr_i_0, pr_i_1, pr_i_m1]
                  exact pr_irT rfl trivial (by exact rp_I (rv_sh hv (by omega) (fun a a1 a2 => by rw [f1 a (by omega), ab_u_ne (by omega), ab_u_ne (by omega)]) (fun z hz => by rw [f1 185 (by decide), ab_u_ne (by decide), ab_u_j hz]) (fun z hz => by rw [f1 186 (by decide), ab_u_j hz, ab_u_ne (by decide)]) f2 ⟨by rw [f1 185 (by decide), ab_u_ne (by decide), ab_u_at], hk, by rw [f1 186 (by decide), ab_u_at], hm4, fun z hz => f3 z hz⟩) (fun a ha => by rw [f1 a (by omega), ab_u_ne (by omega), ab_u_ne (by omega)]))
              · simp only [ab_cmp, pr_8_40, pr_8_m14, pr_i_0, pr_i_1, pr_i_m1] at h60
                exact absurd e1 h60
            | succ dd ih =>
              intro i hi I f1 f2 f3
              have e1 : ¬ nI 40 ≤ nI i := nI_ge (by omega) (by decide)
              have hh := ih (i + 1) (by omega) (ab_u I 187 (40 * j + i) 0) (fun a ha => by rw [ab_u_ne ha]; exact f1 a ha) (fun z hz => by rw [ab_u_j (by omega)]; exact f2 z hz) (fun z hz => by
                by_cases e : z = i
                · rw [e, ab_u_at]
                · rw [ab_u_j (by omega)]; exact f3 z (by omega))
              refine pr_seqT (pc' := 60) 2 rfl ⟨⟨trivial, trivial⟩, trivial⟩ ?_
              try simp (disch := omega) only [c40, rLn, rLg, rCe, rI_mul, nI_add, nI_1, nI_clamp, pr_8_40, pr_8_m14, pr_i_0, pr_i_1, pr_i_m1]
              refine pr_icT rfl (fun h60 => ?_) (fun h60 => ?_)
              · simp only [ab_cmp, pr_8_40, pr_8_m14, pr_i_0, pr_i_1, pr_i_m1] at h60
                exact absurd h60 e1
              · simp only [ab_cmp, pr_8_40, pr_8_m14, pr_i_0, pr_i_1, pr_i_m1] at h60
                first
                | contradiction
                | exact absurd trivial h60
                | exact absurd h60 (by decide)
                | exact absurd (Classical.not_not.mp h60) (by decide)
                | skip
                  refine pr_seqT (pc' := 56) 11 rfl ⟨⟨⟨⟨⟨⟨⟨⟨⟨⟨⟨trivial, (by first | decide | assumption)⟩, (by assumption)⟩, trivial⟩, trivial⟩, trivial⟩, trivial⟩, trivial⟩, trivial⟩, (by (try simp (disch := omega) only [c40, rLn, rLg, rCe, rI_mul, nI_add, nI_1, nI_clamp, pr_8_40, pr_8_m14, pr_i_0, pr_i_1, pr_i_m1]); exact ⟨by assumption, rvin (by assumption) (by omega) (by decide)⟩)⟩, trivial⟩, trivial⟩ ?_
                  try simp (disch := omega) only [c40, rLn, rLg, rCe, rI_mul, nI_add, nI_1, nI_clamp, pr_8_40, pr_8_m14, pr_i_0, pr_i_1, pr_i_m1]
                  exact hh
          have h0 := loop 40 0 (by omega) (ab_u (ab_u M.1 185 j (nI k)) 186 j (nI m)) (fun _ _ => rfl) (fun z hz => by rw [ab_u_ne (by decide), ab_u_ne (by decide)]) (fun z hz => absurd hz (by omega))
          have c4n : nI m ≤ nI 40 := c4'
          refine pr_seqT (pc' := 6) 4 rfl ⟨⟨⟨⟨trivial, trivial⟩, trivial⟩, trivial⟩, trivial⟩ ?_
          try simp (disch := omega) only [c40, rLn, rLg, rCe, rI_mul, nI_add, nI_1, nI_clamp, pr_8_40, pr_8_m14, pr_i_0, pr_i_1, pr_i_m1]
          refine pr_csT [_, _, _] rfl rfl rfl rfl rfl (Nat.le_of_ble_eq_true rfl) (Nat.le_of_ble_eq_true rfl) (h1) ?_
          refine pr_ifT rfl (fun h9 => ?_) (fun h9 => ?_)
          · simp only [ab_cmp, pr_8_40, pr_8_m14, pr_i_0, pr_i_1, pr_i_m1] at h9
            exact absurd h9 (by decide)
          · simp only [ab_cmp, pr_8_40, pr_8_m14, pr_i_0, pr_i_1, pr_i_m1] at h9
            first
            | contradiction
            | exact absurd trivial h9
            | exact absurd h9 (by decide)
            | exact absurd (Classical.not_not.mp h9) (by decide)
            | skip
              refine pr_seqT (pc' := 18) 4 rfl ⟨⟨⟨⟨trivial, trivial⟩, trivial⟩, trivial⟩, trivial⟩ ?_
              try simp (disch := omega) only [c40, rLn, rLg, rCe, rI_mul, nI_add, nI_1, nI_clamp, pr_8_40, pr_8_m14, pr_i_0, pr_i_1, pr_i_m1]
              refine pr_csT [_, _, _] rfl rfl rfl rfl rfl (Nat.le_of_ble_eq_true rfl) (Nat.le_of_ble_eq_true rfl) (h2) ?_
              refine pr_ifT rfl (fun h21 => ?_) (fun h21 => ?_)
              · simp only [ab_cmp, pr_8_40, pr_8_m14, pr_i_0, pr_i_1, pr_i_m1] at h21
                exact absurd h21 (by decide)
              · simp only [ab_cmp, pr_8_40, pr_8_m14, pr_i_0, pr_i_1, pr_i_m1] at h21
                first
                | contradiction
                | exact absurd trivial h21
                | exact absurd h21 (by decide)
                | exact absurd (Classical.not_not.mp h21) (by decide)
                | skip
                  refine pr_seqT (pc' := 27) 2 rfl ⟨⟨trivial, trivial⟩, trivial⟩ ?_
                  try simp (disch := omega) only [c40, rLn, rLg, rCe, rI_mul, nI_add, nI_1, nI_clamp, pr_8_40, pr_8_m14, pr_i_0, pr_i_1, pr_i_m1]
                  refine pr_icT rfl (fun h27 => ?_) (fun h27 => ?_)
                  · simp only [ab_cmp, pr_8_40, pr_8_m14, pr_i_0, pr_i_1, pr_i_m1] at h27
                    first
                    | contradiction
                    | exact absurd trivial h27
                    | exact absurd h27 (by decide)
                    | exact absurd (Classical.not_not.mp h27) (by decide)
                    | skip
                      refine pr_seqT (pc' := 33) 1 rfl ⟨trivial, trivial⟩ ?_
                      try simp (disch := omega) only [c40, rLn, rLg, rCe, rI_mul, nI_add, nI_1, nI_clamp, pr_8_40, pr_8_m14, pr_i_0, pr_i_1, pr_i_m1]
                      refine pr_ifT rfl (fun h33 => ?_) (fun h33 => ?_)
                      · simp only [ab_cmp, pr_8_40, pr_8_m14, pr_i_0, pr_i_1, pr_i_m1] at h33
                        first
                        | contradiction
                        | exact absurd trivial h33
                        | exact absurd h33 (by decide)
                        | exact absurd (Classical.not_not.mp h33) (by decide)
                        | skip
                          refine pr_seqT (pc' := 56) 12 rfl ⟨⟨⟨⟨⟨⟨⟨⟨⟨⟨⟨⟨trivial, (by first | decide | assumption)⟩, (by assumption)⟩, trivial⟩, trivial⟩, (by (try simp (disch := omega) only [c40, rLn, rLg, rCe, rI_mul, nI_add, nI_1, nI_clamp, pr_8_40, pr_8_m14, pr_i_0, pr_i_1, pr_i_m1]); exact ⟨by assumption, rvin (by assumption) (by omega) (by decide)⟩)⟩, (by first | decide | assumption)⟩, (by assumption)⟩, trivial⟩, trivial⟩, (by (try simp (disch := omega) only [c40, rLn, rLg, rCe, rI_mul, nI_add, nI_1, nI_clamp, pr_8_40, pr_8_m14, pr_i_0, pr_i_1, pr_i_m1]); exact ⟨by assumption, rvin (by assumption) (by omega) (by decide)⟩)⟩, trivial⟩, trivial⟩ ?_
                          try simp (disch := omega) only [c40, rLn, rLg, rCe, rI_mul, nI_add, nI_1, nI_clamp, pr_8_40, pr_8_m14, pr_i_0, pr_i_1, pr_i_m1]
                          exact h0
                      · simp only [ab_cmp, pr_8_40, pr_8_m14, pr_i_0, pr_i_1, pr_i_m1] at h33
                        exact absurd c0' h33
                  · simp only [ab_cmp, pr_8_40, pr_8_m14, pr_i_0, pr_i_1, pr_i_m1] at h27
                    exact absurd c4n h27
theorem nar8 (v : Int32) : v <<< ((24 : Int32) &&& 31) >>> ((24 : Int32) &&& 31) = v.toInt8.toInt32 := by
  rw [show (24 : Int32) &&& 31 = 24 from rfl]
  apply Int32.toBitVec_inj.mp
  show (v.toBitVec <<< 24).sshiftRight 24 = (v.toBitVec.signExtend 8).signExtend 32
  have hm : (BitVec.signExtend 8 v.toBitVec).msb = v.toBitVec.getLsbD 7 := by
    rw [BitVec.msb_eq_getLsbD_last, BitVec.getLsbD_signExtend]
    simp
  have hL : (v.toBitVec <<< 24).msb = v.toBitVec.getLsbD 7 := by
    rw [BitVec.msb_eq_getLsbD_last, BitVec.getLsbD_shiftLeft]
    simp
  apply BitVec.eq_of_getLsbD_eq
  intro i hi
  rw [BitVec.getLsbD_sshiftRight, BitVec.getLsbD_signExtend, hm, hL]
  by_cases h : i < 8
  · rw [if_pos (by omega), if_pos (by omega), BitVec.getLsbD_signExtend, if_pos (by omega), BitVec.getLsbD_shiftLeft, decide_eq_false (show ¬ 32 ≤ i by omega), decide_eq_true (show i < 32 by omega), decide_eq_true (show i < 8 by omega), decide_eq_true (show 24 + i < 32 by omega), decide_eq_false (show ¬ 24 + i < 24 by omega), show 24 + i - 24 = i by omega]
    rfl
  · rw [if_neg (by omega), if_neg (by omega), decide_eq_false (show ¬ 32 ≤ i by omega), decide_eq_true (show i < 32 by omega)]
    rfl
theorem nar16 (v : Int32) : v <<< ((16 : Int32) &&& 31) >>> ((16 : Int32) &&& 31) = v.toInt16.toInt32 := by
  rw [show (16 : Int32) &&& 31 = 16 from rfl]
  apply Int32.toBitVec_inj.mp
  show (v.toBitVec <<< 16).sshiftRight 16 = (v.toBitVec.signExtend 16).signExtend 32
  have hm : (BitVec.signExtend 16 v.toBitVec).msb = v.toBitVec.getLsbD 15 := by
    rw [BitVec.msb_eq_getLsbD_last, BitVec.getLsbD_signExtend]
    simp
  have hL : (v.toBitVec <<< 16).msb = v.toBitVec.getLsbD 15 := by
    rw [BitVec.msb_eq_getLsbD_last, BitVec.getLsbD_shiftLeft]
    simp
  apply BitVec.eq_of_getLsbD_eq
  intro i hi
  rw [BitVec.getLsbD_sshiftRight, BitVec.getLsbD_signExtend, hm, hL]
  by_cases h : i < 16
  · rw [if_pos (by omega), if_pos (by omega), BitVec.getLsbD_signExtend, if_pos (by omega), BitVec.getLsbD_shiftLeft, decide_eq_false (show ¬ 32 ≤ i by omega), decide_eq_true (show i < 32 by omega), decide_eq_true (show i < 16 by omega), decide_eq_true (show 16 + i < 32 by omega), decide_eq_false (show ¬ 16 + i < 16 by omega), show 16 + i - 16 = i by omega]
    rfl
  · rw [if_neg (by omega), if_neg (by omega), decide_eq_false (show ¬ 32 ≤ i by omega), decide_eq_true (show i < 32 by omega)]
    rfl
theorem rv_lay {I : Nat → Nat → Int32} {X : St} {k ln n i : Nat} {f : Nat → Int32} {z : Int32} (hv : rv I X) (hk : k < 4) (hi : i < n) (hs : sh_r I k (some (ln, n, f))) : rv (ab_u I 187 (40 * k + i) z) (X.1, X.2.1, va_up X.2.2.1 k (some (ln, n, va_up f i z)), X.2.2.2) := by
  obtain ⟨z1, z2, z3, z4, z5⟩ := hs
  refine rv_sh hv hk (fun a a1 a2 => ab_u_ne (by omega)) (fun j hj => by rw [ab_u_ne (by decide)]) (fun j hj => by rw [ab_u_ne (by decide)]) (fun j hj => ab_u_j (by omega)) ⟨by rw [ab_u_ne (by decide)]; exact z1, z2, by rw [ab_u_ne (by decide)]; exact z3, z4, fun j hj => ?_⟩
  by_cases e : j = i
  · rw [e, ab_u_at, va_up_at]
  · rw [ab_u_j (by omega), va_up_n e]; exact z5 j hj
theorem r_lay {X : St} (x i v : Int32) (h : ab_H) (M : ab_M) (hl : rL h M.2.2) (hv : rv M.1 X) : pr_X pX11_lay [.ref 172, .int x, .int i, .int v] h M (rp M (f_lay X x i v)) := by
  obtain ⟨k172, rS, rLs, rKn, rPg, rRl, rRk, rTp, rCu, rLe, rLt, rSm, rIk, rLn, rLg, rCe, ⟨kS, nS⟩, ⟨kLs, nLs⟩, ⟨kKn, nKn⟩, ⟨kPg, nPg⟩, ⟨kRl, nRl⟩, ⟨kRk, nRk⟩, ⟨kTp, nTp⟩, ⟨kCu, nCu⟩, ⟨kLe, nLe⟩, ⟨kLt, nLt⟩, ⟨kSm, nSm⟩, ⟨kIk, nIk⟩, ⟨kLn, nLn⟩, ⟨kLg, nLg⟩, kCe, nCe⟩ := id hl
  have h1 := q_in (a := x.toInt64) (b := Int64.ofNat 0) (c := Int64.ofNat 3) x 0 3 h M rfl rfl rfl
  unfold f_lay
  rcases pr_rg x 3 3 rfl (by decide) with q | ⟨j, hj, rfl, q⟩
  · rw [q] at h1 ⊢
    refine pr_ofC ?_ (rp_s hv)
    refine pr_seq (pc' := 6) 4 rfl ⟨⟨⟨⟨trivial, trivial⟩, trivial⟩, trivial⟩, trivial⟩ ?_
    refine pr_cs [_, _, _] rfl rfl rfl rfl rfl (Nat.le_of_ble_eq_true rfl) (Nat.le_of_ble_eq_true rfl) (h1) ?_
    refine pr_if rfl (fun h9 => ?_) (fun h9 => ?_)
    · simp only [ab_cmp, pr_8_16, pr_8_24, pr_8_40, pr_8_m11, pr_8_m12, pr_8_m4, pr_i_1, pr_i_m1] at h9
      exact absurd rfl h9
    · simp only [ab_cmp, pr_8_16, pr_8_24, pr_8_40, pr_8_m11, pr_8_m12, pr_8_m4, pr_i_1, pr_i_m1] at h9
      first
      | contradiction
      | exact absurd trivial h9
      | exact absurd h9 (by decide)
      | exact absurd (Classical.not_not.mp h9) (by decide)
      | skip
        refine pr_seq (pc' := 13) 1 rfl ⟨trivial, trivial⟩ ?_
        exact pr_irM rfl (by first | rfl | (simp [pr_b, pr_8_16, pr_8_24, pr_8_40, pr_8_m11, pr_8_m12, pr_8_m4, pr_i_1, pr_i_m1, *]; done) | (simp_all [pr_b, pr_8_16, pr_8_24, pr_8_40, pr_8_m11, pr_8_m12, pr_8_m4, pr_i_1, pr_i_m1]; done)) trivial (by rfl)
  · rw [q] at h1 ⊢
    rw [if_pos rfl, nI_clamp (by omega)]
    have z := hv.2.2.2.2.1 j (by omega)
    cases c : X.2.2.1 j with
    | none =>
      rw [c] at z
      have z : M.1 185 j = -4 := z
      refine pr_ofC ?_ (rp_s hv)
      refine pr_seq (pc' := 6) 4 rfl ⟨⟨⟨⟨trivial, trivial⟩, trivial⟩, trivial⟩, trivial⟩ ?_
      try simp (disch := omega) only [z, rLn, rLg, rCe, rI_mul, nI_add, nI_1, nI_clamp, c24, pr_8_16, pr_8_24, pr_8_40, pr_8_m11, pr_8_m12, pr_8_m4, pr_i_1, pr_i_m1]
      refine pr_cs [_, _, _] rfl rfl rfl rfl rfl (Nat.le_of_ble_eq_true rfl) (Nat.le_of_ble_eq_true rfl) (h1) ?_
      refine pr_if rfl (fun h9 => ?_) (fun h9 => ?_)
      · simp only [ab_cmp, pr_8_16, pr_8_24, pr_8_40, pr_8_m11, pr_8_m12, pr_8_m4, pr_i_1, pr_i_m1] at h9
        first
        | contradiction
        | exact absurd trivial h9
        | exact absurd h9 (by decide)
        | exact absurd (Classical.not_not.mp h9) (by decide)
        | skip
          refine pr_seq (pc' := 22) 5 rfl ⟨⟨⟨⟨⟨trivial, (by first | decide | assumption)⟩, (by assumption)⟩, trivial⟩, (by (try simp (disch := omega) only [z, rLn, rLg, rCe, rI_mul, nI_add, nI_1, nI_clamp, c24, pr_8_16, pr_8_24, pr_8_40, pr_8_m11, pr_8_m12, pr_8_m4, pr_i_1, pr_i_m1]); exact ⟨Or.inl (by assumption), rvin (by assumption) (by omega) (by decide)⟩)⟩, trivial⟩ ?_
          try simp (disch := omega) only [z, rLn, rLg, rCe, rI_mul, nI_add, nI_1, nI_clamp, c24, pr_8_16, pr_8_24, pr_8_40, pr_8_m11, pr_8_m12, pr_8_m4, pr_i_1, pr_i_m1]
          refine pr_ic rfl (fun h22 => ?_) (fun h22 => ?_)
          · simp only [ab_cmp, pr_8_16, pr_8_24, pr_8_40, pr_8_m11, pr_8_m12, pr_8_m4, pr_i_1, pr_i_m1] at h22
            exact absurd trivial h22
          · simp only [ab_cmp, pr_8_16, pr_8_24, pr_8_40, pr_8_m11, pr_8_m12, pr_8_m4, pr_i_1, pr_i_m1] at h22
            first
            | contradiction
            | exact absurd trivial h22
            | exact absurd h22 (by decide)
            | exact absurd (Classical.not_not.mp h22) (by decide)
            | skip
              refine pr_seq (pc' := 27) 1 rfl ⟨trivial, trivial⟩ ?_
              try simp (disch := omega) only [z, rLn, rLg, rCe, rI_mul, nI_add, nI_1, nI_clamp, c24, pr_8_16, pr_8_24, pr_8_40, pr_8_m11, pr_8_m12, pr_8_m4, pr_i_1, pr_i_m1]
              exact pr_irM rfl (by first | rfl | (simp (disch := omega) only [z, rLn, rLg, rCe, rI_mul, nI_add, nI_1, nI_clamp, c24, pr_8_16, pr_8_24, pr_8_40, pr_8_m11, pr_8_m12, pr_8_m4, pr_i_1, pr_i_m1]; done) | (simp [pr_b, pr_8_16, pr_8_24, pr_8_40, pr_8_m11, pr_8_m12, pr_8_m4, pr_i_1, pr_i_m1, *]; done) | (simp_all [pr_b, pr_8_16, pr_8_24, pr_8_40, pr_8_m11, pr_8_m12, pr_8_m4, pr_i_1, pr_i_m1]; done)) trivial (by rfl)
      · simp only [ab_cmp, pr_8_16, pr_8_24, pr_8_40, pr_8_m11, pr_8_m12, pr_8_m4, pr_i_1, pr_i_m1] at h9
        exact absurd (Classical.not_not.mp h9) (by decide)
    | some o =>
      obtain ⟨ln, n, f⟩ := o
      rw [c] at z
      obtain ⟨z1, z2, z3, z4, z5⟩ := id z
      have e4 : ¬ nI ln = -4 := by
        have : ∀ m : Fin 3, ¬ nI m.val = -4 := by decide
        exact this ⟨ln, by omega⟩
      have h2 := q_in (a := i.toInt64) (b := Int64.ofNat 0) (c := (nI n - 1).toInt64) i 0 (nI n - 1) h M rfl rfl rfl
      rw [ix_in i _ (by omega)] at h2
      show pr_X pX11_lay _ h M (rp M (if ixb i n then (1, (X.1, X.2.1, va_up X.2.2.1 j (some (ln, n, va_up f i.toNatClampNeg (sh_nar ln v))), X.2.2.2)) else (-12, X)))
      rcases pr_ix i (show n ≤ 1000000 by omega) with q2 | ⟨k, hk, rfl, q2⟩
      · rw [show ixb i n = false from q2] at h2 ⊢
        refine pr_ofC ?_ (rp_s hv)
        refine pr_seq (pc' := 6) 4 rfl ⟨⟨⟨⟨trivial, trivial⟩, trivial⟩, trivial⟩, trivial⟩ ?_
        try simp (disch := omega) only [z1, z3, rLn, rLg, rCe, rI_mul, nI_add, nI_1, nI_clamp, c24, pr_8_16, pr_8_24, pr_8_40, pr_8_m11, pr_8_m12, pr_8_m4, pr_i_1, pr_i_m1]
        refine pr_cs [_, _, _] rfl rfl rfl rfl rfl (Nat.le_of_ble_eq_true rfl) (Nat.le_of_ble_eq_true rfl) (h1) ?_
        refine pr_if rfl (fun h9 => ?_) (fun h9 => ?_)
        · simp only [ab_cmp, pr_8_16, pr_8_24, pr_8_40, pr_8_m11, pr_8_m12, pr_8_m4, pr_i_1, pr_i_m1] at h9
          first
          | contradiction
          | exact absurd trivial h9
          | exact absurd h9 (by decide)
          | exact absurd (Classical.not_not.mp h9) (by decide)
          | skip
            refine pr_seq (pc' := 22) 5 rfl ⟨⟨⟨⟨⟨trivial, (by first | decide | assumption)⟩, (by assumption)⟩, trivial⟩, (by (try simp (disch := omega) only [z1, z3, rLn, rLg, rCe, rI_mul, nI_add, nI_1, nI_clamp, c24, pr_8_16, pr_8_24, pr_8_40, pr_8_m11, pr_8_m12, pr_8_m4, pr_i_1, pr_i_m1]); exact ⟨Or.inl (by assumption), rvin (by assumption) (by omega) (by decide)⟩)⟩, trivial⟩ ?_
            try simp (disch := omega) only [z1, z3, rLn, rLg, rCe, rI_mul, nI_add, nI_1, nI_clamp, c24, pr_8_16, pr_8_24, pr_8_40, pr_8_m11, pr_8_m12, pr_8_m4, pr_i_1, pr_i_m1]
            refine pr_ic rfl (fun h22 => ?_) (fun h22 => ?_)
            · simp only [ab_cmp, pr_8_16, pr_8_24, pr_8_40, pr_8_m11, pr_8_m12, pr_8_m4, pr_i_1, pr_i_m1] at h22
              first
              | contradiction
              | exact absurd trivial h22
              | exact absurd h22 (by decide)
              | exact absurd (Classical.not_not.mp h22) (by decide)
              | skip
                refine pr_seq (pc' := 40) 10 rfl ⟨⟨⟨⟨⟨⟨⟨⟨⟨⟨trivial, trivial⟩, trivial⟩, trivial⟩, (by first | decide | assumption)⟩, (by assumption)⟩, trivial⟩, (by (try simp (disch := omega) only [z1, z3, rLn, rLg, rCe, rI_mul, nI_add, nI_1, nI_clamp, c24, pr_8_16, pr_8_24, pr_8_40, pr_8_m11, pr_8_m12, pr_8_m4, pr_i_1, pr_i_m1]); exact ⟨Or.inl (by assumption), rvin (by assumption) (by omega) (by decide)⟩)⟩, trivial⟩, trivial⟩, trivial⟩ ?_
                try simp (disch := omega) only [z1, z3, rLn, rLg, rCe, rI_mul, nI_add, nI_1, nI_clamp, c24, pr_8_16, pr_8_24, pr_8_40, pr_8_m11, pr_8_m12, pr_8_m4, pr_i_1, pr_i_m1]
                refine pr_cs [_, _, _] rfl rfl rfl rfl rfl (Nat.le_of_ble_eq_true rfl) (Nat.le_of_ble_eq_true rfl) (h2) ?_
                refine pr_if rfl (fun h43 => ?_) (fun h43 => ?_)
                · simp only [ab_cmp, pr_8_16, pr_8_24, pr_8_40, pr_8_m11, pr_8_m12, pr_8_m4, pr_i_1, pr_i_m1] at h43
                  exact absurd rfl h43
                · simp only [ab_cmp, pr_8_16, pr_8_24, pr_8_40, pr_8_m11, pr_8_m12, pr_8_m4, pr_i_1, pr_i_m1] at h43
                  first
                  | contradiction
                  | exact absurd trivial h43
                  | exact absurd h43 (by decide)
                  | exact absurd (Classical.not_not.mp h43) (by decide)
                  | skip
                    refine pr_seq (pc' := 48) 1 rfl ⟨trivial, trivial⟩ ?_
                    try simp (disch := omega) only [z1, z3, rLn, rLg, rCe, rI_mul, nI_add, nI_1, nI_clamp, c24, pr_8_16, pr_8_24, pr_8_40, pr_8_m11, pr_8_m12, pr_8_m4, pr_i_1, pr_i_m1]
                    exact pr_irM rfl (by first | rfl | (simp (disch := omega) only [z1, z3, rLn, rLg, rCe, rI_mul, nI_add, nI_1, nI_clamp, c24, pr_8_16, pr_8_24, pr_8_40, pr_8_m11, pr_8_m12, pr_8_m4, pr_i_1, pr_i_m1]; done) | (simp [pr_b, pr_8_16, pr_8_24, pr_8_40, pr_8_m11, pr_8_m12, pr_8_m4, pr_i_1, pr_i_m1, *]; done) | (simp_all [pr_b, pr_8_16, pr_8_24, pr_8_40, pr_8_m11, pr_8_m12, pr_8_m4, pr_i_1, pr_i_m1]; done)) trivial (by rfl)
            · simp only [ab_cmp, pr_8_16, pr_8_24, pr_8_40, pr_8_m11, pr_8_m12, pr_8_m4, pr_i_1, pr_i_m1] at h22
              exact absurd (Classical.not_not.mp h22) e4
        · simp only [ab_cmp, pr_8_16, pr_8_24, pr_8_40, pr_8_m11, pr_8_m12, pr_8_m4, pr_i_1, pr_i_m1] at h9
          exact absurd (Classical.not_not.mp h9) (by decide)
      · rw [show ixb (nI k) n = true from q2] at h2 ⊢
        rw [if_pos rfl, nI_clamp (by omega)]
        have far : ∀ w : Int32, ∀ a, (a < 172 ∨ 187 < a) → ab_u M.1 187 (40 * j + k) w a = M.1 a := fun w a ha => ab_u_ne (by omega)
        rcases (show ln = 0 ∨ ln = 1 ∨ ln = 2 by omega) with rfl | rfl | rfl
        · have z0 : M.1 185 j = 0 := z1
          have e4' : ¬ (0 : Int32) = -4 := by decide
          refine pr_seqT (pc' := 6) 4 rfl ⟨⟨⟨⟨trivial, trivial⟩, trivial⟩, trivial⟩, trivial⟩ ?_
          try simp (disch := omega) only [c40, z0, z3, rLn, rLg, rCe, rI_mul, nI_add, nI_1, nI_clamp, c24, pr_8_16, pr_8_24, pr_8_40, pr_8_m11, pr_8_m12, pr_8_m4, pr_i_1, pr_i_m1]
          refine pr_csT [_, _, _] rfl rfl rfl rfl rfl (Nat.le_of_ble_eq_true rfl) (Nat.le_of_ble_eq_true rfl) (h1) ?_
          refine pr_ifT rfl (fun h9 => ?_) (fun h9 => ?_)
          · simp only [ab_cmp, pr_8_16, pr_8_24, pr_8_40, pr_8_m11, pr_8_m12, pr_8_m4, pr_i_1, pr_i_m1] at h9
            first
            | contradiction
            | exact absurd trivial h9
            | exact absurd h9 (by decide)
            | exact absurd (Classical.not_not.mp h9) (by decide)
            | skip
              refine pr_seqT (pc' := 22) 5 rfl ⟨⟨⟨⟨⟨trivial, (by first | decide | assumption)⟩, (by assumption)⟩, trivial⟩, (by (try simp (disch := omega) only [c40, z0, z3, rLn, rLg, rCe, rI_mul, nI_add, nI_1, nI_clamp, c24, pr_8_16, pr_8_24, pr_8_40, pr_8_m11, pr_8_m12, pr_8_m4, pr_i_1, pr_i_m1]); exact ⟨Or.inl (by assumption), rvin (by assumption) (by omega) (by decide)⟩)⟩, trivial⟩ ?_
              try simp (disch := omega) only [c40, z0, z3, rLn, rLg, rCe, rI_mul, nI_add, nI_1, nI_clamp, c24, pr_8_16, pr_8_24, pr_8_40, pr_8_m11, pr_8_m12, pr_8_m4, pr_i_1, pr_i_m1]
              refine pr_icT rfl (fun h22 => ?_) (fun h22 => ?_)
              · simp only [ab_cmp, pr_8_16, pr_8_24, pr_8_40, pr_8_m11, pr_8_m12, pr_8_m4, pr_i_1, pr_i_m1] at h22
                first
                | contradiction
                | exact absurd trivial h22
                | exact absurd h22 (by decide)
                | exact absurd (Classical.not_not.mp h22) (by decide)
                | skip
                  refine pr_seqT (pc' := 40) 10 rfl ⟨⟨⟨⟨⟨⟨⟨⟨⟨⟨trivial, trivial⟩, trivial⟩, trivial⟩, (by first | decide | assumption)⟩, (by assumption)⟩, trivial⟩, (by (try simp (disch := omega) only [c40, z0, z3, rLn, rLg, rCe, rI_mul, nI_add, nI_1, nI_clamp, c24, pr_8_16, pr_8_24, pr_8_40, pr_8_m11, pr_8_m12, pr_8_m4, pr_i_1, pr_i_m1]); exact ⟨Or.inl (by assumption), rvin (by assumption) (by omega) (by decide)⟩)⟩, trivial⟩, trivial⟩, trivial⟩ ?_
                  try simp (disch := omega) only [c40, z0, z3, rLn, rLg, rCe, rI_mul, nI_add, nI_1, nI_clamp, c24, pr_8_16, pr_8_24, pr_8_40, pr_8_m11, pr_8_m12, pr_8_m4, pr_i_1, pr_i_m1]
                  refine pr_csT [_, _, _] rfl rfl rfl rfl rfl (Nat.le_of_ble_eq_true rfl) (Nat.le_of_ble_eq_true rfl) (h2) ?_
                  refine pr_ifT rfl (fun h43 => ?_) (fun h43 => ?_)
                  · simp only [ab_cmp, pr_8_16, pr_8_24, pr_8_40, pr_8_m11, pr_8_m12, pr_8_m4, pr_i_1, pr_i_m1] at h43
                    first
                    | contradiction
                    | exact absurd trivial h43
                    | exact absurd h43 (by decide)
                    | exact absurd (Classical.not_not.mp h43) (by decide)
                    | skip
                      refine pr_seqT (pc' := 65) 11 rfl ⟨⟨⟨⟨⟨⟨⟨⟨⟨⟨⟨trivial, (by first | decide | assumption)⟩, (by assumption)⟩, trivial⟩, trivial⟩, trivial⟩, trivial⟩, trivial⟩, (by first | decide | assumption)⟩, (by assumption)⟩, trivial⟩, (by (try simp (disch := omega) only [c40, z0, z3, rLn, rLg, rCe, rI_mul, nI_add, nI_1, nI_clamp, c24, pr_8_16, pr_8_24, pr_8_40, pr_8_m11, pr_8_m12, pr_8_m4, pr_i_1, pr_i_m1]); exact ⟨Or.inl (by assumption), rvin (by assumption) (by omega) (by decide)⟩)⟩ ?_
                      try simp (disch := omega) only [c40, z0, z3, rLn, rLg, rCe, rI_mul, nI_add, nI_1, nI_clamp, c24, pr_8_16, pr_8_24, pr_8_40, pr_8_m11, pr_8_m12, pr_8_m4, pr_i_1, pr_i_m1]
                      refine pr_ifT rfl (fun h65 => ?_) (fun h65 => ?_)
                      · simp only [ab_cmp, pr_8_16, pr_8_24, pr_8_40, pr_8_m11, pr_8_m12, pr_8_m4, pr_i_1, pr_i_m1] at h65
                        exact absurd trivial h65
                      · simp only [ab_cmp, pr_8_16, pr_8_24, pr_8_40, pr_8_m11, pr_8_m12, pr_8_m4, pr_i_1, pr_i_m1] at h65
                        first
                        | contradiction
                        | exact absurd trivial h65
                        | exact absurd h65 (by decide)
                        | exact absurd (Classical.not_not.mp h65) (by decide)
                        | skip
                          refine pr_seqT (pc' := 101) 8 rfl ⟨⟨⟨⟨⟨⟨⟨⟨trivial, trivial⟩, trivial⟩, trivial⟩, trivial⟩, trivial⟩, trivial⟩, (by (try simp (disch := omega) only [c40, z0, z3, rLn, rLg, rCe, rI_mul, nI_add, nI_1, nI_clamp, c24, pr_8_16, pr_8_24, pr_8_40, pr_8_m11, pr_8_m12, pr_8_m4, pr_i_1, pr_i_m1]); exact ⟨by assumption, rvin (by assumption) (by omega) (by decide)⟩)⟩, trivial⟩ ?_
                          try simp (disch := omega) only [c40, z0, z3, rLn, rLg, rCe, rI_mul, nI_add, nI_1, nI_clamp, c24, pr_8_16, pr_8_24, pr_8_40, pr_8_m11, pr_8_m12, pr_8_m4, pr_i_1, pr_i_m1]
                          exact pr_irT rfl trivial (by rw [show sh_nar 0 v = v.toInt8.toInt32 from rfl, ← nar8]; exact rp_I (rv_lay hv (by omega) hk z) (far _))
                  · simp only [ab_cmp, pr_8_16, pr_8_24, pr_8_40, pr_8_m11, pr_8_m12, pr_8_m4, pr_i_1, pr_i_m1] at h43
                    exact absurd (Classical.not_not.mp h43) (by decide)
              · simp only [ab_cmp, pr_8_16, pr_8_24, pr_8_40, pr_8_m11, pr_8_m12, pr_8_m4, pr_i_1, pr_i_m1] at h22
                exact absurd (Classical.not_not.mp h22) e4'
          · simp only [ab_cmp, pr_8_16, pr_8_24, pr_8_40, pr_8_m11, pr_8_m12, pr_8_m4, pr_i_1, pr_i_m1] at h9
            exact absurd (Classical.not_not.mp h9) (by decide)
        · have z0 : M.1 185 j = 1 := z1
          have e4' : ¬ (1 : Int32) = -4 := by decide
          have e5 : ¬ (1 : Int32) = 0 := by decide
          refine pr_seqT (pc' := 6) 4 rfl ⟨⟨⟨⟨trivial, trivial⟩, trivial⟩, trivial⟩, trivial⟩ ?_
          try simp (disch := omega) only [c40, z0, z3, rLn, rLg, rCe, rI_mul, nI_add, nI_1, nI_clamp, c24, pr_8_16, pr_8_24, pr_8_40, pr_8_m11, pr_8_m12, pr_8_m4, pr_i_1, pr_i_m1]
          refine pr_csT [_, _, _] rfl rfl rfl rfl rfl (Nat.le_of_ble_eq_true rfl) (Nat.le_of_ble_eq_true rfl) (h1) ?_
          refine pr_ifT rfl (fun h9 => ?_) (fun h9 => ?_)
          · simp only [ab_cmp, pr_8_16, pr_8_24, pr_8_40, pr_8_m11, pr_8_m12, pr_8_m4, pr_i_1, pr_i_m1] at h9
            first
            | contradiction
            | exact absurd trivial h9
            | exact absurd h9 (by decide)
            | exact absurd (Classical.not_not.mp h9) (by decide)
            | skip
              refine pr_seqT (pc' := 22) 5 rfl ⟨⟨⟨⟨⟨trivial, (by first | decide | assumption)⟩, (by assumption)⟩, trivial⟩, (by (try simp (disch := omega) only [c40, z0, z3, rLn, rLg, rCe, rI_mul, nI_add, nI_1, nI_clamp, c24, pr_8_16, pr_8_24, pr_8_40, pr_8_m11, pr_8_m12, pr_8_m4, pr_i_1, pr_i_m1]); exact ⟨Or.inl (by assumption), rvin (by assumption) (by omega) (by decide)⟩)⟩, trivial⟩ ?_
              try simp (disch := omega) only [c40, z0, z3, rLn, rLg, rCe, rI_mul, nI_add, nI_1, nI_clamp, c24, pr_8_16, pr_8_24, pr_8_40, pr_8_m11, pr_8_m12, pr_8_m4, pr_i_1, pr_i_m1]
              refine pr_icT rfl (fun h22 => ?_) (fun h22 => ?_)
              · simp only [ab_cmp, pr_8_16, pr_8_24, pr_8_40, pr_8_m11, pr_8_m12, pr_8_m4, pr_i_1, pr_i_m1] at h22
                first
                | contradiction
                | exact absurd trivial h22
                | exact absurd h22 (by decide)
                | exact absurd (Classical.not_not.mp h22) (by decide)
                | skip
                  refine pr_seqT (pc' := 40) 10 rfl ⟨⟨⟨⟨⟨⟨⟨⟨⟨⟨trivial, trivial⟩, trivial⟩, trivial⟩, (by first | decide | assumption)⟩, (by assumption)⟩, trivial⟩, (by (try simp (disch := omega) only [c40, z0, z3, rLn, rLg, rCe, rI_mul, nI_add, nI_1, nI_clamp, c24, pr_8_16, pr_8_24, pr_8_40, pr_8_m11, pr_8_m12, pr_8_m4, pr_i_1, pr_i_m1]); exact ⟨Or.inl (by assumption), rvin (by assumption) (by omega) (by decide)⟩)⟩, trivial⟩, trivial⟩, trivial⟩ ?_
                  try simp (disch := omega) only [c40, z0, z3, rLn, rLg, rCe, rI_mul, nI_add, nI_1, nI_clamp, c24, pr_8_16, pr_8_24, pr_8_40, pr_8_m11, pr_8_m12, pr_8_m4, pr_i_1, pr_i_m1]
                  refine pr_csT [_, _, _] rfl rfl rfl rfl rfl (Nat.le_of_ble_eq_true rfl) (Nat.le_of_ble_eq_true rfl) (h2) ?_
                  refine pr_ifT rfl (fun h43 => ?_) (fun h43 => ?_)
                  · simp only [ab_cmp, pr_8_16, pr_8_24, pr_8_40, pr_8_m11, pr_8_m12, pr_8_m4, pr_i_1, pr_i_m1] at h43
                    first
                    | contradiction
                    | exact absurd trivial h43
                    | exact absurd h43 (by decide)
                    | exact absurd (Classical.not_not.mp h43) (by decide)
                    | skip
                      refine pr_seqT (pc' := 65) 11 rfl ⟨⟨⟨⟨⟨⟨⟨⟨⟨⟨⟨trivial, (by first | decide | assumption)⟩, (by assumption)⟩, trivial⟩, trivial⟩, trivial⟩, trivial⟩, trivial⟩, (by first | decide | assumption)⟩, (by assumption)⟩, trivial⟩, (by (try simp (disch := omega) only [c40, z0, z3, rLn, rLg, rCe, rI_mul, nI_add, nI_1, nI_clamp, c24, pr_8_16, pr_8_24, pr_8_40, pr_8_m11, pr_8_m12, pr_8_m4, pr_i_1, pr_i_m1]); exact ⟨Or.inl (by assumption), rvin (by assumption) (by omega) (by decide)⟩)⟩ ?_
                      try simp (disch := omega) only [c40, z0, z3, rLn, rLg, rCe, rI_mul, nI_add, nI_1, nI_clamp, c24, pr_8_16, pr_8_24, pr_8_40, pr_8_m11, pr_8_m12, pr_8_m4, pr_i_1, pr_i_m1]
                      refine pr_ifT rfl (fun h65 => ?_) (fun h65 => ?_)
                      · simp only [ab_cmp, pr_8_16, pr_8_24, pr_8_40, pr_8_m11, pr_8_m12, pr_8_m4, pr_i_1, pr_i_m1] at h65
                        first
                        | contradiction
                        | exact absurd trivial h65
                        | exact absurd h65 (by decide)
                        | exact absurd (Classical.not_not.mp h65) (by decide)
                        | skip
                          refine pr_seqT (pc' := 85) 5 rfl ⟨⟨⟨⟨⟨trivial, (by first | decide | assumption)⟩, (by assumption)⟩, trivial⟩, (by (try simp (disch := omega) only [c40, z0, z3, rLn, rLg, rCe, rI_mul, nI_add, nI_1, nI_clamp, c24, pr_8_16, pr_8_24, pr_8_40, pr_8_m11, pr_8_m12, pr_8_m4, pr_i_1, pr_i_m1]); exact ⟨Or.inl (by assumption), rvin (by assumption) (by omega) (by decide)⟩)⟩, trivial⟩ ?_
                          try simp (disch := omega) only [c40, z0, z3, rLn, rLg, rCe, rI_mul, nI_add, nI_1, nI_clamp, c24, pr_8_16, pr_8_24, pr_8_40, pr_8_m11, pr_8_m12, pr_8_m4, pr_i_1, pr_i_m1]
                          refine pr_icT rfl (fun h85 => ?_) (fun h85 => ?_)
                          · simp only [ab_cmp, pr_8_16, pr_8_24, pr_8_40, pr_8_m11, pr_8_m12, pr_8_m4, pr_i_1, pr_i_m1] at h85
                            exact absurd trivial h85
                          · simp only [ab_cmp, pr_8_16, pr_8_24, pr_8_40, pr_8_m11, pr_8_m12, pr_8_m4, pr_i_1, pr_i_m1] at h85
                            first
                            | contradiction
                            | exact absurd trivial h85
                            | exact absurd h85 (by decide)
                            | exact absurd (Classical.not_not.mp h85) (by decide)
                            | skip
                              refine pr_seqT (pc' := 101) 8 rfl ⟨⟨⟨⟨⟨⟨⟨⟨trivial, trivial⟩, trivial⟩, trivial⟩, trivial⟩, trivial⟩, trivial⟩, (by (try simp (disch := omega) only [c40, z0, z3, rLn, rLg, rCe, rI_mul, nI_add, nI_1, nI_clamp, c24, pr_8_16, pr_8_24, pr_8_40, pr_8_m11, pr_8_m12, pr_8_m4, pr_i_1, pr_i_m1]); exact ⟨by assumption, rvin (by assumption) (by omega) (by decide)⟩)⟩, trivial⟩ ?_
                              try simp (disch := omega) only [c40, z0, z3, rLn, rLg, rCe, rI_mul, nI_add, nI_1, nI_clamp, c24, pr_8_16, pr_8_24, pr_8_40, pr_8_m11, pr_8_m12, pr_8_m4, pr_i_1, pr_i_m1]
                              exact pr_irT rfl trivial (by rw [show sh_nar 1 v = v.toInt16.toInt32 from rfl, ← nar16]; exact rp_I (rv_lay hv (by omega) hk z) (far _))
                      · simp only [ab_cmp, pr_8_16, pr_8_24, pr_8_40, pr_8_m11, pr_8_m12, pr_8_m4, pr_i_1, pr_i_m1] at h65
                        exact absurd (Classical.not_not.mp h65) e5
                  · simp only [ab_cmp, pr_8_16, pr_8_24, pr_8_40, pr_8_m11, pr_8_m12, pr_8_m4, pr_i_1, pr_i_m1] at h43
                    exact absurd (Classical.not_not.mp h43) (by decide)
              · simp only [ab_cmp, pr_8_16, pr_8_24, pr_8_40, pr_8_m11, pr_8_m12, pr_8_m4, pr_i_1, pr_i_m1] at h22
                exact absurd (Classical.not_not.mp h22) e4'
          · simp only [ab_cmp, pr_8_16, pr_8_24, pr_8_40, pr_8_m11, pr_8_m12, pr_8_m4, pr_i_1, pr_i_m1] at h9
            exact absurd (Classical.not_not.mp h9) (by decide)
        · have z0 : M.1 185 j = 2 := z1
          have e4' : ¬ (2 : Int32) = -4 := by decide
          have e5 : ¬ (2 : Int32) = 0 := by decide
          have e6 : ¬ (2 : Int32) = 1 := by decide
          refine pr_seqT (pc' := 6) 4 rfl ⟨⟨⟨⟨trivial, trivial⟩, trivial⟩, trivial⟩, trivial⟩ ?_
          try simp (disch := omega) only [c40, z0, z3, rLn, rLg, rCe, rI_mul, nI_add, nI_1, nI_clamp, c24, pr_8_16, pr_8_24, pr_8_40, pr_8_m11, pr_8_m12, pr_8_m4, pr_i_1, pr_i_m1]
          refine pr_csT [_, _, _] rfl rfl rfl rfl rfl (Nat.le_of_ble_eq_true rfl) (Nat.le_of_ble_eq_true rfl) (h1) ?_
          refine pr_ifT rfl (fun h9 => ?_) (fun h9 => ?_)
          · simp only [ab_cmp, pr_8_16, pr_8_24, pr_8_40, pr_8_m11, pr_8_m12, pr_8_m4, pr_i_1, pr_i_m1] at h9
            first
            | contradiction
            | exact absurd trivial h9
            | exact absurd h9 (by decide)
            | exact absurd (Classical.not_not.mp h9) (by decide)
            | skip
              refine pr_seqT (pc' := 22) 5 rfl ⟨⟨⟨⟨⟨trivial, (by first | decide | assumption)⟩, (by assumption)⟩, trivial⟩, (by (try simp (disch := omega) only [c40, z0, z3, rLn, rLg, rCe, rI_mul, nI_add, nI_1, nI_clamp, c24, pr_8_16, pr_8_24, pr_8_40, pr_8_m11, pr_8_m12, pr_8_m4, pr_i_1, pr_i_m1]); exact ⟨Or.inl (by assumption), rvin (by assumption) (by omega) (by decide)⟩)⟩, trivial⟩ ?_
              try simp (disch := omega) only [c40, z0, z3, rLn, rLg, rCe, rI_mul, nI_add, nI_1, nI_clamp, c24, pr_8_16, pr_8_24, pr_8_40, pr_8_m11, pr_8_m12, pr_8_m4, pr_i_1, pr_i_m1]
              refine pr_icT rfl (fun h22 => ?_) (fun h22 => ?_)
              · simp only [ab_cmp, pr_8_16, pr_8_24, pr_8_40, pr_8_m11, pr_8_m12, pr_8_m4, pr_i_1, pr_i_m1] at h22
                first
                | contradiction
                | exact absurd trivial h22
                | exact absurd h22 (by decide)
                | exact absurd (Classical.not_not.mp h22) (by decide)
                | skip
                  refine pr_seqT (pc' := 40) 10 rfl ⟨⟨⟨⟨⟨⟨⟨⟨⟨⟨trivial, trivial⟩, trivial⟩, trivial⟩, (by first | decide | assumption)⟩, (by assumption)⟩, trivial⟩, (by (try simp (disch := omega) only [c40, z0, z3, rLn, rLg, rCe, rI_mul, nI_add, nI_1, nI_clamp, c24, pr_8_16, pr_8_24, pr_8_40, pr_8_m11, pr_8_m12, pr_8_m4, pr_i_1, pr_i_m1]); exact ⟨Or.inl (by assumption), rvin (by assumption) (by omega) (by decide)⟩)⟩, trivial⟩, trivial⟩, trivial⟩ ?_
                  try simp (disch := omega) only [c40, z0, z3, rLn, rLg, rCe, rI_mul, nI_add, nI_1, nI_clamp, c24, pr_8_16, pr_8_24, pr_8_40, pr_8_m11, pr_8_m12, pr_8_m4, pr_i_1, pr_i_m1]
                  refine pr_csT [_, _, _] rfl rfl rfl rfl rfl (Nat.le_of_ble_eq_true rfl) (Nat.le_of_ble_eq_true rfl) (h2) ?_
                  refine pr_ifT rfl (fun h43 => ?_) (fun h43 => ?_)
                  · simp only [ab_cmp, pr_8_16, pr_8_24, pr_8_40, pr_8_m11, pr_8_m12, pr_8_m4, pr_i_1, pr_i_m1] at h43
                    first
                    | contradiction
                    | exact absurd trivial h43
                    | exact absurd h43 (by decide)
                    | exact absurd (Classical.not_not.mp h43) (by decide)
                    | skip
                      refine pr_seqT (pc' := 65) 11 rfl ⟨⟨⟨⟨⟨⟨⟨⟨⟨⟨⟨trivial, (by first | decide | assumption)⟩, (by assumption)⟩, trivial⟩, trivial⟩, trivial⟩, trivial⟩, trivial⟩, (by first | decide | assumption)⟩, (by assumption)⟩, trivial⟩, (by (try simp (disch := omega) only [c40, z0, z3, rLn, rLg, rCe, rI_mul, nI_add, nI_1, nI_clamp, c24, pr_8_16, pr_8_24, pr_8_40, pr_8_m11, pr_8_m12, pr_8_m4, pr_i_1, pr_i_m1]); exact ⟨Or.inl (by assumption), rvin (by assumption) (by omega) (by decide)⟩)⟩ ?_
                      try simp (disch := omega) only [c40, z0, z3, rLn, rLg, rCe, rI_mul, nI_add, nI_1, nI_clamp, c24, pr_8_16, pr_8_24, pr_8_40, pr_8_m11, pr_8_m12, pr_8_m4, pr_i_1, pr_i_m1]
                      refine pr_ifT rfl (fun h65 => ?_) (fun h65 => ?_)
                      · simp only [ab_cmp, pr_8_16, pr_8_24, pr_8_40, pr_8_m11, pr_8_m12, pr_8_m4, pr_i_1, pr_i_m1] at h65
                        first
                        | contradiction
                        | exact absurd trivial h65
                        | exact absurd h65 (by decide)
                        | exact absurd (Classical.not_not.mp h65) (by decide)
                        | skip
                          refine pr_seqT (pc' := 85) 5 rfl ⟨⟨⟨⟨⟨trivial, (by first | decide | assumption)⟩, (by assumption)⟩, trivial⟩, (by (try simp (disch := omega) only [c40, z0, z3, rLn, rLg, rCe, rI_mul, nI_add, nI_1, nI_clamp, c24, pr_8_16, pr_8_24, pr_8_40, pr_8_m11, pr_8_m12, pr_8_m4, pr_i_1, pr_i_m1]); exact ⟨Or.inl (by assumption), rvin (by assumption) (by omega) (by decide)⟩)⟩, trivial⟩ ?_
                          try simp (disch := omega) only [c40, z0, z3, rLn, rLg, rCe, rI_mul, nI_add, nI_1, nI_clamp, c24, pr_8_16, pr_8_24, pr_8_40, pr_8_m11, pr_8_m12, pr_8_m4, pr_i_1, pr_i_m1]
                          refine pr_icT rfl (fun h85 => ?_) (fun h85 => ?_)
                          · simp only [ab_cmp, pr_8_16, pr_8_24, pr_8_40, pr_8_m11, pr_8_m12, pr_8_m4, pr_i_1, pr_i_m1] at h85
                            first
                            | contradiction
                            | exact absurd trivial h85
                            | exact absurd h85 (by decide)
                            | exact absurd (Classical.not_not.mp h85) (by decide)
                            | skip
                              refine pr_seqT (pc' := 101) 3 rfl ⟨⟨⟨trivial, trivial⟩, (by (try simp (disch := omega) only [c40, z0, z3, rLn, rLg, rCe, rI_mul, nI_add, nI_1, nI_clamp, c24, pr_8_16, pr_8_24, pr_8_40, pr_8_m11, pr_8_m12, pr_8_m4, pr_i_1, pr_i_m1]); exact ⟨by assumption, rvin (by assumption) (by omega) (by decide)⟩)⟩, trivial⟩ ?_
                              try simp (disch := omega) only [c40, z0, z3, rLn, rLg, rCe, rI_mul, nI_add, nI_1, nI_clamp, c24, pr_8_16, pr_8_24, pr_8_40, pr_8_m11, pr_8_m12, pr_8_m4, pr_i_1, pr_i_m1]
                              exact pr_irT rfl trivial (by rw [show sh_nar 2 v = v from rfl]; exact rp_I (rv_lay hv (by omega) hk z) (far _))
                          · simp only [ab_cmp, pr_8_16, pr_8_24, pr_8_40, pr_8_m11, pr_8_m12, pr_8_m4, pr_i_1, pr_i_m1] at h85
                            exact absurd (Classical.not_not.mp h85) e6
                      · simp only [ab_cmp, pr_8_16, pr_8_24, pr_8_40, pr_8_m11, pr_8_m12, pr_8_m4, pr_i_1, pr_i_m1] at h65
                        exact absurd (Classical.not_not.mp h65) e5
                  · simp only [ab_cmp, pr_8_16, pr_8_24, pr_8_40, pr_8_m11, pr_8_m12, pr_8_m4, pr_i_1, pr_i_m1] at h43
                    exact absurd (Classical.not_not.mp h43) (by decide)
              · simp only [ab_cmp, pr_8_16, pr_8_24, pr_8_40, pr_8_m11, pr_8_m12, pr_8_m4, pr_i_1, pr_i_m1] at h22
                exact absurd (Classical.not_not.mp h22) e4'
          · simp only [ab_cmp, pr_8_16, pr_8_24, pr_8_40, pr_8_m11, pr_8_m12, pr_8_m4, pr_i_1, pr_i_m1] at h9
            exact absurd (Classical.not_not.mp h9) (by decide)
theorem feed_b (v : Int64) (k : Nat) (hk : k < 8) : (v >>> ((nI (56 - 8 * k)).toInt64 &&& 63)).toInt32 &&& 255 = nI (byn v k) := by
  unfold byn
  obtain ⟨s, hs, hs2⟩ : ∃ s, 56 - 8 * k = s ∧ s ≤ 56 := ⟨_, rfl, by omega⟩
  rw [hs]
  have e1 : (nI s).toInt64 &&& 63 = Int64.ofNat s := by
    have : ∀ m : Fin 64, (nI m.val).toInt64 &&& 63 = Int64.ofNat m.val := by decide
    exact this ⟨s, by omega⟩
  have e2 : (nI s).toInt64.toUInt64 &&& Int64.toUInt64 63 = UInt64.ofNat s := by
    have : ∀ m : Fin 64, (nI m.val).toInt64.toUInt64 &&& Int64.toUInt64 63 = UInt64.ofNat m.val := by decide
    exact this ⟨s, by omega⟩
  rw [e1, e2]
  have hk2 : (BitVec.ofNat 64 s).smod 64#64 = BitVec.ofNat 64 s := by
    have : ∀ m : Fin 64, (BitVec.ofNat 64 m.val).smod 64#64 = BitVec.ofNat 64 m.val := by decide
    exact this ⟨s, by omega⟩
  have hu : (v.toUInt64 >>> UInt64.ofNat s).toNat = (v.toBitVec >>> s).toNat := by
    show (v.toBitVec >>> (BitVec.ofNat 64 s % 64#64)).toNat = _
    have : ((BitVec.ofNat 64 s) % 64#64).toNat = s := by
      rw [BitVec.toNat_umod]
      show s % 2 ^ 64 % 64 = s
      omega
    rw [BitVec.ushiftRight_eq', this]
  rw [hu]
  apply Int32.toBitVec_inj.mp
  show ((v.toBitVec.sshiftRight' ((BitVec.ofNat 64 s).smod 64#64)).signExtend 32) &&& 255#32 = BitVec.ofNat 32 ((v.toBitVec >>> s).toNat % 256)
  rw [hk2]
  have e3 : v.toBitVec.sshiftRight' (BitVec.ofNat 64 s) = v.toBitVec.sshiftRight s := by
    show v.toBitVec.sshiftRight (BitVec.ofNat 64 s).toNat = _
    rw [BitVec.toNat_ofNat, Nat.mod_eq_of_lt (by omega)]
  rw [e3, BitVec.signExtend_eq_setWidth_of_le _ (by decide)]
  apply BitVec.eq_of_toNat_eq
  rw [BitVec.toNat_and, BitVec.toNat_setWidth, BitVec.toNat_ofNat, BitVec.toNat_ofNat, show (255 % 2 ^ 32 : Nat) = 2 ^ 8 - 1 from rfl, Nat.and_two_pow_sub_one_eq_mod, Nat.mod_mod_of_dvd _ (by decide), Nat.mod_eq_of_lt (show (v.toBitVec >>> s).toNat % 256 < 2 ^ 32 by omega), show (256 : Nat) = 2 ^ 8 from rfl]
  apply Nat.eq_of_testBit_eq
  intro i
  rw [Nat.testBit_mod_two_pow, Nat.testBit_mod_two_pow, BitVec.testBit_toNat, BitVec.testBit_toNat, BitVec.getLsbD_sshiftRight, BitVec.getLsbD_ushiftRight]
  by_cases h : i < 8
  · rw [if_pos (by omega), decide_eq_false (show ¬ 64 ≤ i by omega)]
    rfl
  · rw [decide_eq_false h, Bool.false_and, Bool.false_and]
theorem byn_lt (v : Int64) (k : Nat) : byn v k < 256 := Nat.mod_lt _ (by decide)
theorem gdr {w : List Nat} {f : Nat → Nat} {n i : Nat} (h : i < n) : (w ++ (List.range n).map f).getD (w.length + i) 0 = f i := by
  rw [gd_r (by omega), show w.length + i - w.length = i by omega, List.getD_eq_getElem?_getD, List.getElem?_map, List.getElem?_range h]
  rfl
theorem r_feed {X : St} (v : Int64) (h : ab_H) (M : ab_M) (hl : rL h M.2.2) (hv : rv M.1 X) : pr_X pX11_feed [.ref 172, .long v] h M (rp M (f_feed X v)) := by
  obtain ⟨k172, rS, rLs, rKn, rPg, rRl, rRk, rTp, rCu, rLe, rLt, rSm, rIk, rLn, rLg, rCe, ⟨kS, nS⟩, ⟨kLs, nLs⟩, ⟨kKn, nKn⟩, ⟨kPg, nPg⟩, ⟨kRl, nRl⟩, ⟨kRk, nRk⟩, ⟨kTp, nTp⟩, ⟨kCu, nCu⟩, ⟨kLe, nLe⟩, ⟨kLt, nLt⟩, ⟨kSm, nSm⟩, ⟨kIk, nIk⟩, ⟨kLn, nLn⟩, ⟨kLg, nLg⟩, kCe, nCe⟩ := id hl
  obtain ⟨m1, m2, m3⟩ := hv.2.2.2.2.2.1
  have n8 : (8 : Int32) = nI 8 := rfl
  have n320 : (320 : Int32) = nI 320 := rfl
  unfold f_feed
  by_cases c : X.2.2.2.1.length + 8 ≤ 320
  · rw [if_pos c]
    have e1 : nI (X.2.2.2.1.length + 8) ≤ nI 320 := nI_le c (by decide)
    have loop : ∀ dd k, k + dd = 8 → ∀ (I : Nat → Nat → Int32) (z : Int32), (k < 8 → z = nI (56 - 8 * k)) → (k = 8 → z < 0) → (∀ a, a ≠ 172 → a ≠ 179 → I a = M.1 a) → (∀ j, j ≠ 14 → I 172 j = M.1 172 j) → I 172 14 = nI (X.2.2.2.1.length + k) → (∀ j, j < X.2.2.2.1.length → I 179 j = M.1 179 j) → (∀ j, j < k → I 179 (X.2.2.2.1.length + j) = nI (byn v j)) → pr_T pX11_feed 19 [some (.ref 172), some (.long v), none, some (.int z)] [] h (I, M.2) (rp M (nI (X.2.2.2.1.length + 8), (X.1, X.2.1, X.2.2.1, X.2.2.2.1 ++ (List.range 8).map (byn v), X.2.2.2.2))) := by
      intro dd
      induction dd with
      | zero =>
        intro k hk I z hz1 hz2 f1 f2 f3 f4 f5
        obtain rfl : k = 8 := by omega
        have z0 := hz2 rfl
        have hlen : (X.2.2.2.1 ++ (List.range 8).map (byn v)).length = X.2.2.2.1.length + 8 := by rw [List.length_append, List.length_map, List.length_range]
        have ht : tp_r I (X.2.2.2.1 ++ (List.range 8).map (byn v)) := ⟨by rw [hlen]; exact f3, by omega, fun j hj => by
          by_cases e : j < X.2.2.2.1.length
          · rw [gd_l e, f4 j e]; exact m3 j e
          · obtain ⟨i, rfl⟩ : ∃ i, j = X.2.2.2.1.length + i := ⟨j - X.2.2.2.1.length, by omega⟩
            rw [gdr (by omega)]
            exact ⟨f5 i (by omega), byn_lt v i⟩⟩
        refine pr_seqT (pc' := 20) 1 rfl ⟨trivial, trivial⟩ ?_
        try simp (disch := omega) only [f3, rTp, rI_mul, nI_add, nI_1, nI_clamp, pr_16_255, pr_16_320, pr_8_56, pr_8_8, pr_8_m3, pr_i_1, pr_i_m8]
        refine pr_ifT rfl (fun h20 => ?_) (fun h20 => ?_)
        · simp only [ab_cmp, pr_16_255, pr_16_320, pr_8_56, pr_8_8, pr_8_m3, pr_i_1, pr_i_m8] at h20
          first
          | contradiction
          | exact absurd trivial h20
          | exact absurd h20 (by decide)
          | exact absurd (Classical.not_not.mp h20) (by decide)
          | skip
            refine pr_seqT (pc' := 60) 2 rfl ⟨⟨trivial, (by first | decide | assumption)⟩, (by assumption)⟩ ?_
            try simp (disch := omega) only [f3, rTp, rI_mul, nI_add, nI_1, nI_clamp, pr_16_255, pr_16_320, pr_8_56, pr_8_8, pr_8_m3, pr_i_1, pr_i_m8]
            exact pr_irT rfl trivial (by exact rp_I (rv_tape hv (fun a a1 a2 => f1 a (by omega) a2) f2 ht) (fun a ha => f1 a (by omega) (by omega)))
        · simp only [ab_cmp, pr_16_255, pr_16_320, pr_8_56, pr_8_8, pr_8_m3, pr_i_1, pr_i_m8] at h20
          exact absurd z0 h20
      | succ dd ih =>
        intro k hk I z hz1 hz2 f1 f2 f3 f4 f5
        have hk8 : k < 8 := by omega
        obtain rfl := hz1 hk8
        have z0 : ¬ nI (56 - 8 * k) < 0 := nI_pos (by omega)
        have fb := feed_b v k hk8
        have f3' : ab_u I 179 (X.2.2.2.1.length + k) (nI (byn v k)) 172 14 = nI (X.2.2.2.1.length + k) := by rw [ab_u_ne (by decide)]; exact f3
        have hh := ih (k + 1) (by omega) (ab_u (ab_u I 179 (X.2.2.2.1.length + k) (nI (byn v k))) 172 14 (nI (X.2.2.2.1.length + k + 1))) (nI (56 - 8 * k) + -8) (fun q => by
          rw [show 56 - 8 * k = 56 - 8 * (k + 1) + 8 by omega, ← nI_add]
          show nI (56 - 8 * (k + 1)) + 8 + -8 = _
          grind) (fun q => by rw [show 56 - 8 * k = 0 by omega]; decide) (fun a a1 a2 => by rw [ab_u_ne a1, ab_u_ne a2]; exact f1 a a1 a2) (fun j hj => by rw [ab_u_j hj, ab_u_ne (by decide)]; exact f2 j hj) ab_u_at (fun j hj => by rw [ab_u_ne (by decide), ab_u_j (by omega)]; exact f4 j hj) (fun j hj => by
          rw [ab_u_ne (by decide)]
          by_cases e : j = k
          · rw [e, ab_u_at]
          · rw [ab_u_j (by omega)]; exact f5 j (by omega))
        refine pr_seqT (pc' := 20) 1 rfl ⟨trivial, trivial⟩ ?_
        try simp (disch := omega) only [f3, f3', fb, rTp, rI_mul, nI_add, nI_1, nI_clamp, pr_16_255, pr_16_320, pr_8_56, pr_8_8, pr_8_m3, pr_i_1, pr_i_m8]
        refine pr_ifT rfl (fun h20 => ?_) (fun h20 => ?_)
        · simp only [ab_cmp, pr_16_255, pr_16_320, pr_8_56, pr_8_8, pr_8_m3, pr_i_1, pr_i_m8] at h20
          exact absurd h20 z0
        · simp only [ab_cmp, pr_16_255, pr_16_320, pr_8_56, pr_8_8, pr_8_m3, pr_i_1, pr_i_m8] at h20
          first
          | contradiction
          | exact absurd trivial h20
          | exact absurd h20 (by decide)
          | exact absurd (Classical.not_not.mp h20) (by decide)
          | skip
            refine pr_seqT (pc' := 19) 19 rfl ⟨⟨⟨⟨⟨⟨⟨⟨⟨⟨⟨⟨⟨⟨⟨⟨⟨⟨⟨trivial, (by first | decide | assumption)⟩, (by assumption)⟩, (by first | decide | assumption)⟩, (by assumption)⟩, trivial⟩, trivial⟩, trivial⟩, trivial⟩, trivial⟩, trivial⟩, (by (try simp (disch := omega) only [f3, f3', fb, rTp, rI_mul, nI_add, nI_1, nI_clamp, pr_16_255, pr_16_320, pr_8_56, pr_8_8, pr_8_m3, pr_i_1, pr_i_m8]); exact ⟨by assumption, rvin (by assumption) (by omega) (by decide)⟩)⟩, (by first | decide | assumption)⟩, trivial⟩, (by assumption)⟩, trivial⟩, trivial⟩, (by first | assumption | exact ⟨by assumption, by decide⟩ | exact ⟨by assumption, pr_b01 _⟩)⟩, trivial⟩, trivial⟩ ?_
            try simp (disch := omega) only [f3, f3', fb, rTp, rI_mul, nI_add, nI_1, nI_clamp, pr_16_255, pr_16_320, pr_8_56, pr_8_8, pr_8_m3, pr_i_1, pr_i_m8]
            exact hh
    have h0 := loop 8 0 (by omega) M.1 (nI 56) (fun _ => rfl) (fun q => absurd q (by decide)) (fun _ _ _ => rfl) (fun _ _ => rfl) m1 (fun _ _ => rfl) (fun j hj => absurd hj (by omega))
    have n56 : (56 : Int32) = nI 56 := rfl
    refine pr_seqT (pc' := 10) 5 rfl ⟨⟨⟨⟨⟨trivial, (by first | decide | assumption)⟩, (by assumption)⟩, trivial⟩, trivial⟩, trivial⟩ ?_
    try simp (disch := omega) only [n8, n320, m1, n56, rTp, rI_mul, nI_add, nI_1, nI_clamp, pr_16_255, pr_16_320, pr_8_56, pr_8_8, pr_8_m3, pr_i_1, pr_i_m8]
    refine pr_icT rfl (fun h10 => ?_) (fun h10 => ?_)
    · simp only [ab_cmp, pr_16_255, pr_16_320, pr_8_56, pr_8_8, pr_8_m3, pr_i_1, pr_i_m8] at h10
      first
      | contradiction
      | exact absurd trivial h10
      | exact absurd h10 (by decide)
      | exact absurd (Classical.not_not.mp h10) (by decide)
      | skip
        refine pr_seqT (pc' := 19) 2 rfl ⟨⟨trivial, trivial⟩, trivial⟩ ?_
        try simp (disch := omega) only [n8, n320, m1, n56, rTp, rI_mul, nI_add, nI_1, nI_clamp, pr_16_255, pr_16_320, pr_8_56, pr_8_8, pr_8_m3, pr_i_1, pr_i_m8]
        exact h0
    · simp only [ab_cmp, pr_16_255, pr_16_320, pr_8_56, pr_8_8, pr_8_m3, pr_i_1, pr_i_m8] at h10
      exact absurd e1 h10
  · rw [if_neg c]
    have e1 : ¬ nI (X.2.2.2.1.length + 8) ≤ nI 320 := nI_ge (by omega) (by omega)
    refine pr_ofC ?_ (rp_s hv)
    refine pr_seq (pc' := 10) 5 rfl ⟨⟨⟨⟨⟨trivial, (by first | decide | assumption)⟩, (by assumption)⟩, trivial⟩, trivial⟩, trivial⟩ ?_
    try simp (disch := omega) only [n8, n320, m1, rTp, rI_mul, nI_add, nI_1, nI_clamp, pr_16_255, pr_16_320, pr_8_56, pr_8_8, pr_8_m3, pr_i_1, pr_i_m8]
    refine pr_ic rfl (fun h10 => ?_) (fun h10 => ?_)
    · simp only [ab_cmp, pr_16_255, pr_16_320, pr_8_56, pr_8_8, pr_8_m3, pr_i_1, pr_i_m8] at h10
      exact absurd h10 e1
    · simp only [ab_cmp, pr_16_255, pr_16_320, pr_8_56, pr_8_8, pr_8_m3, pr_i_1, pr_i_m8] at h10
      first
      | contradiction
      | exact absurd trivial h10
      | exact absurd h10 (by decide)
      | exact absurd (Classical.not_not.mp h10) (by decide)
      | skip
        refine pr_seq (pc' := 15) 1 rfl ⟨trivial, trivial⟩ ?_
        try simp (disch := omega) only [n8, n320, m1, rTp, rI_mul, nI_add, nI_1, nI_clamp, pr_16_255, pr_16_320, pr_8_56, pr_8_8, pr_8_m3, pr_i_1, pr_i_m8]
        exact pr_irM rfl (by first | rfl | (simp (disch := omega) only [n8, n320, m1, rTp, rI_mul, nI_add, nI_1, nI_clamp, pr_16_255, pr_16_320, pr_8_56, pr_8_8, pr_8_m3, pr_i_1, pr_i_m8]; done) | (simp [pr_b, pr_16_255, pr_16_320, pr_8_56, pr_8_8, pr_8_m3, pr_i_1, pr_i_m8, *]; done) | (simp_all [pr_b, pr_16_255, pr_16_320, pr_8_56, pr_8_8, pr_8_m3, pr_i_1, pr_i_m8]; done)) trivial (by rfl)
