
/-! ===== the reference: the letter that parts most, weddings compared ===== -/
theorem ab_u_u {α : Type} {f : Nat → Nat → α} {a k : Nat} {v w : α} : ab_u (ab_u f a k v) a k w = ab_u f a k w := by
  funext b j
  unfold ab_u
  by_cases e : b = a ∧ j = k
  · rw [if_pos e, if_pos e]
  · rw [if_neg e, if_neg e, if_neg e]
theorem ab_u_id {α : Type} {f : Nat → Nat → α} {a k : Nat} {v : α} (h : f a k = v) : ab_u f a k v = f := by
  funext b j
  unfold ab_u
  by_cases e : b = a ∧ j = k
  · rw [if_pos e, e.1, e.2, h]
  · rw [if_neg e]
theorem va_up_up {α : Type} {f : Nat → α} {k : Nat} {v w : α} : va_up (va_up f k v) k w = va_up f k w := by
  funext j
  unfold va_up
  by_cases e : j = k
  · rw [if_pos e, if_pos e]
  · rw [if_neg e, if_neg e, if_neg e]
/-- the memory with a letter's worth changed -/
abbrev mL (I : Nat → Nat → Int32) (l u : Nat) : Nat → Nat → Int32 := ab_u I 173 (193 + l) (nI u - nI l - 1)
theorem mL_id {I : Nat → Nat → Int32} {d : Ld} {l : Nat} (hv : pg_r (I 173) d) (hl : l < 26) : mL I l (d.1 l) = I := ab_u_id (hv.2.2.2.2.2.2.1 l hl).1
theorem mL_pg {I : Nat → Nat → Int32} {d : Ld} {l u : Nat} (hv : pg_r (I 173) d) (hl : l < 26) (hu : u ≤ 40) : pg_r (mL I l u 173) (va_up d.1 l u, d.2) := by
  show pg_r (ab_u I 173 (193 + l) (nI u - nI l - 1) 173) _
  rw [ab_u_r]
  exact pg_letter hv hl hu
theorem q_setL {d : Ld} {l u v : Nat} (h : ab_H) (I : Nat → Nat → Int32) (Z : (Nat → Nat → Int64) × (Nat → Nat → Nat)) (hl : rL h Z.2) (hv : pg_r (I 173) d) (hl26 : l < 26) (hu : u ≤ 40) (hv40 : v ≤ 40) : pr_C pX11_letterIs [.ref 172, .int (nI l), .int (nI v)] h (mL I l u, Z) (some (.int (nI u))) h (mL I l v, Z) := by
  have := q_letterIs1 (v := v) h (mL I l u, Z) hl (mL_pg hv hl26 hu) hl26 hv40
  rw [show (va_up d.1 l u, d.2).1 l = u from va_up_at _ _ _, show ab_u (mL I l u, Z).1 173 (193 + l) (nI v - nI l - 1) = mL I l v from ab_u_u] at this
  exact this
theorem r_part {X : St} (w : Int32) (h : ab_H) (M : ab_M) (hl : rL h M.2.2) (hv : rv M.1 X) : pr_X pX11_part [.ref 172, .int w] h M (rp M (f_part X w, X)) := by
  obtain ⟨k172, rS, rLs, rKn, rPg, rRl, rRk, rTp, rCu, rLe, rLt, rSm, rIk, rLn, rLg, rCe, ⟨kS, nS⟩, ⟨kLs, nLs⟩, ⟨kKn, nKn⟩, ⟨kPg, nPg⟩, ⟨kRl, nRl⟩, ⟨kRk, nRk⟩, ⟨kTp, nTp⟩, ⟨kCu, nCu⟩, ⟨kLe, nLe⟩, ⟨kLt, nLt⟩, ⟨kSm, nSm⟩, ⟨kIk, nIk⟩, ⟨kLn, nLn⟩, ⟨kLg, nLg⟩, kCe, nCe⟩ := id hl
  have g2 : X.1.1.2.1.length ≤ 8 := hv.1.2.1
  have g7 := hv.1.2.2.2.2.2.2.1
  have h1 := q_in (a := w.toInt64) (b := Int64.ofNat 0) (c := Int64.ofNat 1) w 0 1 h M rfl rfl rfl
  have hper := q_persons h M hl hv.1
  refine pr_ofC ?_ (rp_s hv)
  unfold f_part
  cases q : pr_in w 0 1 with
  | false =>
    rw [q] at h1
    refine pr_seq (pc' := 4) 4 rfl ⟨⟨⟨⟨trivial, trivial⟩, trivial⟩, trivial⟩, trivial⟩ ?_
    refine pr_cs [_, _, _] rfl rfl rfl rfl rfl (Nat.le_of_ble_eq_true rfl) (Nat.le_of_ble_eq_true rfl) (h1) ?_
    refine pr_if rfl (fun h7 => ?_) (fun h7 => ?_)
    · simp only [ab_cmp, pr_8_100, pr_8_26, pr_8_40, pr_8_m4, pr_i_0, pr_i_1, pr_i_m1] at h7
      exact absurd rfl h7
    · simp only [ab_cmp, pr_8_100, pr_8_26, pr_8_40, pr_8_m4, pr_i_0, pr_i_1, pr_i_m1] at h7
      first
      | contradiction
      | exact absurd trivial h7
      | exact absurd h7 (by decide)
      | exact absurd (Classical.not_not.mp h7) (by decide)
      | skip
        refine pr_seq (pc' := 11) 1 rfl ⟨trivial, trivial⟩ ?_
        exact pr_irM rfl (by first | rfl | (simp [pr_b, pr_8_100, pr_8_26, pr_8_40, pr_8_m4, pr_i_0, pr_i_1, pr_i_m1, *]; done) | (simp_all [pr_b, pr_8_100, pr_8_26, pr_8_40, pr_8_m4, pr_i_0, pr_i_1, pr_i_m1]; done)) trivial (by rfl)
  | true =>
    rw [q] at h1
    rw [if_pos rfl]
    have pb : ∀ k, (ptc X k).1 ≤ 8 := by
      intro k
      induction k with
      | zero => exact Nat.le_trans (cnt_le _ _) g2
      | succ k ih =>
        show (if (ptc X k).1 < ptn X (k / 41) (k % 41) then (ptn X (k / 41) (k % 41), 100 * nI (k / 41) + nI (k % 41)) else ptc X k).1 ≤ 8
        split
        · exact Nat.le_trans (cnt_le _ _) g2
        · exact ih
    have loop : ∀ dd l, l + dd = 26 → ∀ z5 z6 z7, pr_E pX11_part 23 [some (.ref 172), some (.int w), some (.int (nI (ptc X (41 * l)).1)), some (.int (ptc X (41 * l)).2), some (.int (nI l)), z5, z6, z7] [] h M (some (.int (if (ptc X 1066).2 = -4 ∨ w = 0 then (ptc X 1066).2 else nI (ptc X 1066).1))) h M := by
      intro dd
      induction dd with
      | zero =>
        intro l hk z5 z6 z7
        obtain rfl : l = 26 := by omega
        have e1 : nI 26 ≤ nI 26 := nI_le (Nat.le_refl _) (by decide)
        show pr_E pX11_part 23 [some (.ref 172), some (.int w), some (.int (nI (ptc X 1066).1)), some (.int (ptc X 1066).2), some (.int (nI 26)), z5, z6, z7] [] h M _ h M
        by_cases c1 : (ptc X 1066).2 = -4
        · rw [if_pos (Or.inl c1)]
          refine pr_seq (pc' := 27) 2 rfl ⟨⟨trivial, trivial⟩, trivial⟩ ?_
          try simp (disch := omega) only [c26, rI_mul, nI_add, nI_1, nI_clamp, pr_8_100, pr_8_26, pr_8_40, pr_8_m4, pr_i_0, pr_i_1, pr_i_m1]
          refine pr_ic rfl (fun h27 => ?_) (fun h27 => ?_)
          · simp only [ab_cmp, pr_8_100, pr_8_26, pr_8_40, pr_8_m4, pr_i_0, pr_i_1, pr_i_m1] at h27
            first
            | contradiction
            | exact absurd trivial h27
            | exact absurd h27 (by decide)
            | exact absurd (Classical.not_not.mp h27) (by decide)
            | skip
              refine pr_seq (pc' := 119) 2 rfl ⟨⟨trivial, trivial⟩, trivial⟩ ?_
              try simp (disch := omega) only [c26, rI_mul, nI_add, nI_1, nI_clamp, pr_8_100, pr_8_26, pr_8_40, pr_8_m4, pr_i_0, pr_i_1, pr_i_m1]
              refine pr_ic rfl (fun h119 => ?_) (fun h119 => ?_)
              · simp only [ab_cmp, pr_8_100, pr_8_26, pr_8_40, pr_8_m4, pr_i_0, pr_i_1, pr_i_m1] at h119
                first
                | contradiction
                | exact absurd trivial h119
                | exact absurd h119 (by decide)
                | exact absurd (Classical.not_not.mp h119) (by decide)
                | skip
                  refine pr_seq (pc' := 131) 2 rfl ⟨⟨trivial, trivial⟩, trivial⟩ ?_
                  try simp (disch := omega) only [c26, rI_mul, nI_add, nI_1, nI_clamp, pr_8_100, pr_8_26, pr_8_40, pr_8_m4, pr_i_0, pr_i_1, pr_i_m1]
                  exact pr_irM rfl (by rfl) trivial (by rfl)
              · simp only [ab_cmp, pr_8_100, pr_8_26, pr_8_40, pr_8_m4, pr_i_0, pr_i_1, pr_i_m1] at h119
                exact absurd c1 h119
          · simp only [ab_cmp, pr_8_100, pr_8_26, pr_8_40, pr_8_m4, pr_i_0, pr_i_1, pr_i_m1] at h27
            exact absurd e1 h27
        · by_cases c2 : w = 0
          · rw [if_pos (Or.inr c2)]
            refine pr_seq (pc' := 27) 2 rfl ⟨⟨trivial, trivial⟩, trivial⟩ ?_
            try simp (disch := omega) only [c26, rI_mul, nI_add, nI_1, nI_clamp, pr_8_100, pr_8_26, pr_8_40, pr_8_m4, pr_i_0, pr_i_1, pr_i_m1]
            refine pr_ic rfl (fun h27 => ?_) (fun h27 => ?_)
            · simp only [ab_cmp, pr_8_100, pr_8_26, pr_8_40, pr_8_m4, pr_i_0, pr_i_1, pr_i_m1] at h27
              first
              | contradiction
              | exact absurd trivial h27
              | exact absurd h27 (by decide)
              | exact absurd (Classical.not_not.mp h27) (by decide)
              | skip
                refine pr_seq (pc' := 119) 2 rfl ⟨⟨trivial, trivial⟩, trivial⟩ ?_
                try simp (disch := omega) only [c26, rI_mul, nI_add, nI_1, nI_clamp, pr_8_100, pr_8_26, pr_8_40, pr_8_m4, pr_i_0, pr_i_1, pr_i_m1]
                refine pr_ic rfl (fun h119 => ?_) (fun h119 => ?_)
                · simp only [ab_cmp, pr_8_100, pr_8_26, pr_8_40, pr_8_m4, pr_i_0, pr_i_1, pr_i_m1] at h119
                  exact absurd h119 c1
                · simp only [ab_cmp, pr_8_100, pr_8_26, pr_8_40, pr_8_m4, pr_i_0, pr_i_1, pr_i_m1] at h119
                  first
                  | contradiction
                  | exact absurd trivial h119
                  | exact absurd h119 (by decide)
                  | exact absurd (Classical.not_not.mp h119) (by decide)
                  | skip
                    refine pr_seq (pc' := 123) 1 rfl ⟨trivial, trivial⟩ ?_
                    try simp (disch := omega) only [c26, rI_mul, nI_add, nI_1, nI_clamp, pr_8_100, pr_8_26, pr_8_40, pr_8_m4, pr_i_0, pr_i_1, pr_i_m1]
                    refine pr_if rfl (fun h123 => ?_) (fun h123 => ?_)
                    · simp only [ab_cmp, pr_8_100, pr_8_26, pr_8_40, pr_8_m4, pr_i_0, pr_i_1, pr_i_m1] at h123
                      exact absurd c2 h123
                    · simp only [ab_cmp, pr_8_100, pr_8_26, pr_8_40, pr_8_m4, pr_i_0, pr_i_1, pr_i_m1] at h123
                      first
                      | contradiction
                      | exact absurd trivial h123
                      | exact absurd h123 (by decide)
                      | exact absurd (Classical.not_not.mp h123) (by decide)
                      | skip
                        refine pr_seq (pc' := 131) 2 rfl ⟨⟨trivial, trivial⟩, trivial⟩ ?_
                        try simp (disch := omega) only [c26, rI_mul, nI_add, nI_1, nI_clamp, pr_8_100, pr_8_26, pr_8_40, pr_8_m4, pr_i_0, pr_i_1, pr_i_m1]
                        exact pr_irM rfl (by rfl) trivial (by rfl)
            · simp only [ab_cmp, pr_8_100, pr_8_26, pr_8_40, pr_8_m4, pr_i_0, pr_i_1, pr_i_m1] at h27
              exact absurd e1 h27
          · rw [if_neg (fun q => q.elim c1 c2)]
            refine pr_seq (pc' := 27) 2 rfl ⟨⟨trivial, trivial⟩, trivial⟩ ?_
            try simp (disch := omega) only [c26, rI_mul, nI_add, nI_1, nI_clamp, pr_8_100, pr_8_26, pr_8_40, pr_8_m4, pr_i_0, pr_i_1, pr_i_m1]
            refine pr_ic rfl (fun h27 => ?_) (fun h27 => ?_)
            · simp only [ab_cmp, pr_8_100, pr_8_26, pr_8_40, pr_8_m4, pr_i_0, pr_i_1, pr_i_m1] at h27
              first
              | contradiction
              | exact absurd trivial h27
              | exact absurd h27 (by decide)
              | exact absurd (Classical.not_not.mp h27) (by decide)
              | skip
                refine pr_seq (pc' := 119) 2 rfl ⟨⟨trivial, trivial⟩, trivial⟩ ?_
                try simp (disch := omega) only [c26, rI_mul, nI_add, nI_1, nI_clamp, pr_8_100, pr_8_26, pr_8_40, pr_8_m4, pr_i_0, pr_i_1, pr_i_m1]
                refine pr_ic rfl (fun h119 => ?_) (fun h119 => ?_)
                · simp only [ab_cmp, pr_8_100, pr_8_26, pr_8_40, pr_8_m4, pr_i_0, pr_i_1, pr_i_m1] at h119
                  exact absurd h119 c1
                · simp only [ab_cmp, pr_8_100, pr_8_26, pr_8_40, pr_8_m4, pr_i_0, pr_i_1, pr_i_m1] at h119
                  first
                  | contradiction
                  | exact absurd trivial h119
                  | exact absurd h119 (by decide)
                  | exact absurd (Classical.not_not.mp h119) (by decide)
                  | skip
                    refine pr_seq (pc' := 123) 1 rfl ⟨trivial, trivial⟩ ?_
                    try simp (disch := omega) only [c26, rI_mul, nI_add, nI_1, nI_clamp, pr_8_100, pr_8_26, pr_8_40, pr_8_m4, pr_i_0, pr_i_1, pr_i_m1]
                    refine pr_if rfl (fun h123 => ?_) (fun h123 => ?_)
                    · simp only [ab_cmp, pr_8_100, pr_8_26, pr_8_40, pr_8_m4, pr_i_0, pr_i_1, pr_i_m1] at h123
                      first
                      | contradiction
                      | exact absurd trivial h123
                      | exact absurd h123 (by decide)
                      | exact absurd (Classical.not_not.mp h123) (by decide)
                      | skip
                        refine pr_seq (pc' := 131) 1 rfl ⟨trivial, trivial⟩ ?_
                        try simp (disch := omega) only [c26, rI_mul, nI_add, nI_1, nI_clamp, pr_8_100, pr_8_26, pr_8_40, pr_8_m4, pr_i_0, pr_i_1, pr_i_m1]
                        exact pr_irM rfl (by rfl) trivial (by rfl)
                    · simp only [ab_cmp, pr_8_100, pr_8_26, pr_8_40, pr_8_m4, pr_i_0, pr_i_1, pr_i_m1] at h123
                      exact absurd (Classical.not_not.mp h123) c2
            · simp only [ab_cmp, pr_8_100, pr_8_26, pr_8_40, pr_8_m4, pr_i_0, pr_i_1, pr_i_m1] at h27
              exact absurd e1 h27
      | succ dd ih =>
        intro l hk z5 z6 z7
        have hl26 : l < 26 := by omega
        have e1 : ¬ nI 26 ≤ nI l := nI_ge (by omega) (by decide)
        have hwo := q_worthOf h M hl hv.1 hl26
        have hw40 : X.1.1.1 l ≤ 40 := (g7 l hl26).2
        have inner : ∀ ee v, v + ee = 41 → ∀ u z7, u ≤ 40 → pr_E pX11_part 41 [some (.ref 172), some (.int w), some (.int (nI (ptc X (41 * l + v)).1)), some (.int (ptc X (41 * l + v)).2), some (.int (nI l)), some (.int (nI (X.1.1.1 l))), some (.int (nI v)), z7] [] h (mL M.1 l u, M.2) (some (.int (if (ptc X 1066).2 = -4 ∨ w = 0 then (ptc X 1066).2 else nI (ptc X 1066).1))) h M := by
          intro ee
          induction ee with
          | zero =>
            intro v hv2 u z7 hu
            obtain rfl : v = 41 := by omega
            have e2 : nI 40 < nI 41 := nI_lt (by decide) (by decide)
            have hset := q_setL (v := X.1.1.1 l) h M.1 M.2 hl hv.1 hl26 hu hw40
            rw [mL_id hv.1 hl26] at hset
            have hh := ih (l + 1) (by omega) (some (.int (nI (X.1.1.1 l)))) (some (.int (nI 41))) z7
            rw [show 41 * (l + 1) = 41 * l + 41 by omega] at hh
            refine pr_seq (pc' := 45) 2 rfl ⟨⟨trivial, trivial⟩, trivial⟩ ?_
            try simp (disch := omega) only [c40, rI_mul, nI_add, nI_1, nI_clamp, pr_8_100, pr_8_26, pr_8_40, pr_8_m4, pr_i_0, pr_i_1, pr_i_m1]
            refine pr_ic rfl (fun h45 => ?_) (fun h45 => ?_)
            · simp only [ab_cmp, pr_8_100, pr_8_26, pr_8_40, pr_8_m4, pr_i_0, pr_i_1, pr_i_m1] at h45
              first
              | contradiction
              | exact absurd trivial h45
              | exact absurd h45 (by decide)
              | exact absurd (Classical.not_not.mp h45) (by decide)
              | skip
                refine pr_seq (pc' := 106) 3 rfl ⟨⟨⟨trivial, (by first | decide | assumption)⟩, trivial⟩, trivial⟩ ?_
                try simp (disch := omega) only [c40, rI_mul, nI_add, nI_1, nI_clamp, pr_8_100, pr_8_26, pr_8_40, pr_8_m4, pr_i_0, pr_i_1, pr_i_m1]
                refine pr_cv [_, _] rfl rfl rfl rfl rfl (Nat.le_of_ble_eq_true rfl) (by first | assumption | decide | (simp (disch := omega) only [c40, rI_mul, nI_add, nI_1, nI_clamp, pr_8_100, pr_8_26, pr_8_40, pr_8_m4, pr_i_0, pr_i_1, pr_i_m1]; first | assumption | exact ⟨Or.inl (by assumption), rvin (by assumption) (by omega) (by decide)⟩ | exact ⟨by assumption, rvin (by assumption) (by omega) (by decide)⟩ | exact ⟨⟨by omega, by omega⟩, rvin (by assumption) (by omega) (by decide)⟩ | exact ⟨Or.inr (by assumption), rvin (by assumption) (by omega) (by decide)⟩ | exact ⟨Or.inr ⟨by assumption, (by first | exact Or.inl rfl | exact Or.inr rfl | exact pr_b01 _)⟩, rvin (by assumption) (by omega) (by decide)⟩ | exact ⟨by assumption, by assumption⟩ | decide | omega)) (Nat.le_of_ble_eq_true rfl) (hset) ?_
                refine pr_seq (pc' := 23) 3 rfl ⟨⟨⟨trivial, trivial⟩, trivial⟩, trivial⟩ ?_
                try simp (disch := omega) only [c40, rI_mul, nI_add, nI_1, nI_clamp, pr_8_100, pr_8_26, pr_8_40, pr_8_m4, pr_i_0, pr_i_1, pr_i_m1]
                exact hh
            · simp only [ab_cmp, pr_8_100, pr_8_26, pr_8_40, pr_8_m4, pr_i_0, pr_i_1, pr_i_m1] at h45
              exact absurd e2 h45
          | succ ee ih2 =>
            intro v hv2 u z7 hu
            have e2 : ¬ nI 40 < nI v := nI_nlt (by omega) (by decide)
            have hset := q_setL (v := v) h M.1 M.2 hl hv.1 hl26 hu (by omega)
            have hpg := mL_pg (u := v) hv.1 hl26 (by omega)
            have hp2 : pr_C pX11_persons [.ref 172] h (mL M.1 l v, M.2) (some (.int (nI (ptn X l v)))) h (mL M.1 l v, M.2) := q_persons h (mL M.1 l v, M.2) hl hpg
            have hpn : ptn X l v ≤ 8 := Nat.le_trans (cnt_le _ _) g2
            have hpc := pb (41 * l + v)
            have hh := ih2 (v + 1) (by omega) v (some (.int (nI (ptn X l v)))) (by omega)
            have hst : ptc X (41 * l + (v + 1)) = if (ptc X (41 * l + v)).1 < ptn X l v then (ptn X l v, 100 * nI l + nI v) else ptc X (41 * l + v) := by
              show (if (ptc X (41 * l + v)).1 < ptn X ((41 * l + v) / 41) ((41 * l + v) % 41) then (ptn X ((41 * l + v) / 41) ((41 * l + v) % 41), 100 * nI ((41 * l + v) / 41) + nI ((41 * l + v) % 41)) else ptc X (41 * l + v)) = _
              rw [show (41 * l + v) / 41 = l by omega, show (41 * l + v) % 41 = v by omega]
            rw [hst] at hh
            by_cases c : (ptc X (41 * l + v)).1 < ptn X l v
            · rw [if_pos c] at hh
              have e3 : ¬ nI (ptn X l v) ≤ nI (ptc X (41 * l + v)).1 := nI_ge c (by omega)
              refine pr_seq (pc' := 45) 2 rfl ⟨⟨trivial, trivial⟩, trivial⟩ ?_
              try simp (disch := omega) only [c40, rI_mul, nI_add, nI_1, nI_clamp, pr_8_100, pr_8_26, pr_8_40, pr_8_m4, pr_i_0, pr_i_1, pr_i_m1]
              refine pr_ic rfl (fun h45 => ?_) (fun h45 => ?_)
              · simp only [ab_cmp, pr_8_100, pr_8_26, pr_8_40, pr_8_m4, pr_i_0, pr_i_1, pr_i_m1] at h45
                exact absurd h45 e2
              · simp only [ab_cmp, pr_8_100, pr_8_26, pr_8_40, pr_8_m4, pr_i_0, pr_i_1, pr_i_m1] at h45
                first
                | contradiction
                | exact absurd trivial h45
                | exact absurd h45 (by decide)
                | exact absurd (Classical.not_not.mp h45) (by decide)
                | skip
                  refine pr_seq (pc' := 53) 3 rfl ⟨⟨⟨trivial, (by first | decide | assumption)⟩, trivial⟩, trivial⟩ ?_
                  try simp (disch := omega) only [c40, rI_mul, nI_add, nI_1, nI_clamp, pr_8_100, pr_8_26, pr_8_40, pr_8_m4, pr_i_0, pr_i_1, pr_i_m1]
                  refine pr_cv [_, _] rfl rfl rfl rfl rfl (Nat.le_of_ble_eq_true rfl) (by first | assumption | decide | (simp (disch := omega) only [c40, rI_mul, nI_add, nI_1, nI_clamp, pr_8_100, pr_8_26, pr_8_40, pr_8_m4, pr_i_0, pr_i_1, pr_i_m1]; first | assumption | exact ⟨Or.inl (by assumption), rvin (by assumption) (by omega) (by decide)⟩ | exact ⟨by assumption, rvin (by assumption) (by omega) (by decide)⟩ | exact ⟨⟨by omega, by omega⟩, rvin (by assumption) (by omega) (by decide)⟩ | exact ⟨Or.inr (by assumption), rvin (by assumption) (by omega) (by decide)⟩ | exact ⟨Or.inr ⟨by assumption, (by first | exact Or.inl rfl | exact Or.inr rfl | exact pr_b01 _)⟩, rvin (by assumption) (by omega) (by decide)⟩ | exact ⟨by assumption, by assumption⟩ | decide | omega)) (Nat.le_of_ble_eq_true rfl) (hset) ?_
                  refine pr_seq (pc' := 58) 2 rfl ⟨⟨trivial, trivial⟩, (by first | decide | assumption)⟩ ?_
                  try simp (disch := omega) only [c40, rI_mul, nI_add, nI_1, nI_clamp, pr_8_100, pr_8_26, pr_8_40, pr_8_m4, pr_i_0, pr_i_1, pr_i_m1]
                  refine pr_cv [] rfl rfl rfl rfl rfl (Nat.le_of_ble_eq_true rfl) (by first | assumption | decide | (simp (disch := omega) only [c40, rI_mul, nI_add, nI_1, nI_clamp, pr_8_100, pr_8_26, pr_8_40, pr_8_m4, pr_i_0, pr_i_1, pr_i_m1]; first | assumption | exact ⟨Or.inl (by assumption), rvin (by assumption) (by omega) (by decide)⟩ | exact ⟨by assumption, rvin (by assumption) (by omega) (by decide)⟩ | exact ⟨⟨by omega, by omega⟩, rvin (by assumption) (by omega) (by decide)⟩ | exact ⟨Or.inr (by assumption), rvin (by assumption) (by omega) (by decide)⟩ | exact ⟨Or.inr ⟨by assumption, (by first | exact Or.inl rfl | exact Or.inr rfl | exact pr_b01 _)⟩, rvin (by assumption) (by omega) (by decide)⟩ | exact ⟨by assumption, by assumption⟩ | decide | omega)) (Nat.le_of_ble_eq_true rfl) (hp2) ?_
                  refine pr_seq (pc' := 66) 3 rfl ⟨⟨⟨trivial, trivial⟩, trivial⟩, trivial⟩ ?_
                  try simp (disch := omega) only [c40, rI_mul, nI_add, nI_1, nI_clamp, pr_8_100, pr_8_26, pr_8_40, pr_8_m4, pr_i_0, pr_i_1, pr_i_m1]
                  refine pr_ic rfl (fun h66 => ?_) (fun h66 => ?_)
                  · simp only [ab_cmp, pr_8_100, pr_8_26, pr_8_40, pr_8_m4, pr_i_0, pr_i_1, pr_i_m1] at h66
                    exact absurd h66 e3
                  · simp only [ab_cmp, pr_8_100, pr_8_26, pr_8_40, pr_8_m4, pr_i_0, pr_i_1, pr_i_m1] at h66
                    first
                    | contradiction
                    | exact absurd trivial h66
                    | exact absurd h66 (by decide)
                    | exact absurd (Classical.not_not.mp h66) (by decide)
                    | skip
                      refine pr_seq (pc' := 85) 9 rfl ⟨⟨⟨⟨⟨⟨⟨⟨⟨trivial, trivial⟩, trivial⟩, trivial⟩, trivial⟩, trivial⟩, trivial⟩, trivial⟩, trivial⟩, trivial⟩ ?_
                      try simp (disch := omega) only [c40, rI_mul, nI_add, nI_1, nI_clamp, pr_8_100, pr_8_26, pr_8_40, pr_8_m4, pr_i_0, pr_i_1, pr_i_m1]
                      refine pr_ic rfl (fun h85 => ?_) (fun h85 => ?_)
                      · simp only [ab_cmp, pr_8_100, pr_8_26, pr_8_40, pr_8_m4, pr_i_0, pr_i_1, pr_i_m1] at h85
                        exact absurd h85 e3
                      · simp only [ab_cmp, pr_8_100, pr_8_26, pr_8_40, pr_8_m4, pr_i_0, pr_i_1, pr_i_m1] at h85
                        first
                        | contradiction
                        | exact absurd trivial h85
                        | exact absurd h85 (by decide)
                        | exact absurd (Classical.not_not.mp h85) (by decide)
                        | skip
                          refine pr_seq (pc' := 41) 5 rfl ⟨⟨⟨⟨⟨trivial, trivial⟩, trivial⟩, trivial⟩, trivial⟩, trivial⟩ ?_
                          try simp (disch := omega) only [c40, rI_mul, nI_add, nI_1, nI_clamp, pr_8_100, pr_8_26, pr_8_40, pr_8_m4, pr_i_0, pr_i_1, pr_i_m1]
                          exact hh
            · rw [if_neg c] at hh
              have e3 : nI (ptn X l v) ≤ nI (ptc X (41 * l + v)).1 := nI_le (by omega) (by omega)
              refine pr_seq (pc' := 45) 2 rfl ⟨⟨trivial, trivial⟩, trivial⟩ ?_
              try simp (disch := omega) only [c40, rI_mul, nI_add, nI_1, nI_clamp, pr_8_100, pr_8_26, pr_8_40, pr_8_m4, pr_i_0, pr_i_1, pr_i_m1]
              refine pr_ic rfl (fun h45 => ?_) (fun h45 => ?_)
              · simp only [ab_cmp, pr_8_100, pr_8_26, pr_8_40, pr_8_m4, pr_i_0, pr_i_1, pr_i_m1] at h45
                exact absurd h45 e2
              · simp only [ab_cmp, pr_8_100, pr_8_26, pr_8_40, pr_8_m4, pr_i_0, pr_i_1, pr_i_m1] at h45
                first
                | contradiction
                | exact absurd trivial h45
                | exact absurd h45 (by decide)
                | exact absurd (Classical.not_not.mp h45) (by decide)
                | skip
                  refine pr_seq (pc' := 53) 3 rfl ⟨⟨⟨trivial, (by first | decide | assumption)⟩, trivial⟩, trivial⟩ ?_
                  try simp (disch := omega) only [c40, rI_mul, nI_add, nI_1, nI_clamp, pr_8_100, pr_8_26, pr_8_40, pr_8_m4, pr_i_0, pr_i_1, pr_i_m1]
                  refine pr_cv [_, _] rfl rfl rfl rfl rfl (Nat.le_of_ble_eq_true rfl) (by first | assumption | decide | (simp (disch := omega) only [c40, rI_mul, nI_add, nI_1, nI_clamp, pr_8_100, pr_8_26, pr_8_40, pr_8_m4, pr_i_0, pr_i_1, pr_i_m1]; first | assumption | exact ⟨Or.inl (by assumption), rvin (by assumption) (by omega) (by decide)⟩ | exact ⟨by assumption, rvin (by assumption) (by omega) (by decide)⟩ | exact ⟨⟨by omega, by omega⟩, rvin (by assumption) (by omega) (by decide)⟩ | exact ⟨Or.inr (by assumption), rvin (by assumption) (by omega) (by decide)⟩ | exact ⟨Or.inr ⟨by assumption, (by first | exact Or.inl rfl | exact Or.inr rfl | exact pr_b01 _)⟩, rvin (by assumption) (by omega) (by decide)⟩ | exact ⟨by assumption, by assumption⟩ | decide | omega)) (Nat.le_of_ble_eq_true rfl) (hset) ?_
                  refine pr_seq (pc' := 58) 2 rfl ⟨⟨trivial, trivial⟩, (by first | decide | assumption)⟩ ?_
                  try simp (disch := omega) only [c40, rI_mul, nI_add, nI_1, nI_clamp, pr_8_100, pr_8_26, pr_8_40, pr_8_m4, pr_i_0, pr_i_1, pr_i_m1]
                  refine pr_cv [] rfl rfl rfl rfl rfl (Nat.le_of_ble_eq_true rfl) (by first | assumption | decide | (simp (disch := omega) only [c40, rI_mul, nI_add, nI_1, nI_clamp, pr_8_100, pr_8_26, pr_8_40, pr_8_m4, pr_i_0, pr_i_1, pr_i_m1]; first | assumption | exact ⟨Or.inl (by assumption), rvin (by assumption) (by omega) (by decide)⟩ | exact ⟨by assumption, rvin (by assumption) (by omega) (by decide)⟩ | exact ⟨⟨by omega, by omega⟩, rvin (by assumption) (by omega) (by decide)⟩ | exact ⟨Or.inr (by assumption), rvin (by assumption) (by omega) (by decide)⟩ | exact ⟨Or.inr ⟨by assumption, (by first | exact Or.inl rfl | exact Or.inr rfl | exact pr_b01 _)⟩, rvin (by assumption) (by omega) (by decide)⟩ | exact ⟨by assumption, by assumption⟩ | decide | omega)) (Nat.le_of_ble_eq_true rfl) (hp2) ?_
                  refine pr_seq (pc' := 66) 3 rfl ⟨⟨⟨trivial, trivial⟩, trivial⟩, trivial⟩ ?_
                  try simp (disch := omega) only [c40, rI_mul, nI_add, nI_1, nI_clamp, pr_8_100, pr_8_26, pr_8_40, pr_8_m4, pr_i_0, pr_i_1, pr_i_m1]
                  refine pr_ic rfl (fun h66 => ?_) (fun h66 => ?_)
                  · simp only [ab_cmp, pr_8_100, pr_8_26, pr_8_40, pr_8_m4, pr_i_0, pr_i_1, pr_i_m1] at h66
                    first
                    | contradiction
                    | exact absurd trivial h66
                    | exact absurd h66 (by decide)
                    | exact absurd (Classical.not_not.mp h66) (by decide)
                    | skip
                      refine pr_seq (pc' := 85) 4 rfl ⟨⟨⟨⟨trivial, trivial⟩, trivial⟩, trivial⟩, trivial⟩ ?_
                      try simp (disch := omega) only [c40, rI_mul, nI_add, nI_1, nI_clamp, pr_8_100, pr_8_26, pr_8_40, pr_8_m4, pr_i_0, pr_i_1, pr_i_m1]
                      refine pr_ic rfl (fun h85 => ?_) (fun h85 => ?_)
                      · simp only [ab_cmp, pr_8_100, pr_8_26, pr_8_40, pr_8_m4, pr_i_0, pr_i_1, pr_i_m1] at h85
                        first
                        | contradiction
                        | exact absurd trivial h85
                        | exact absurd h85 (by decide)
                        | exact absurd (Classical.not_not.mp h85) (by decide)
                        | skip
                          refine pr_seq (pc' := 41) 4 rfl ⟨⟨⟨⟨trivial, trivial⟩, trivial⟩, trivial⟩, trivial⟩ ?_
                          try simp (disch := omega) only [c40, rI_mul, nI_add, nI_1, nI_clamp, pr_8_100, pr_8_26, pr_8_40, pr_8_m4, pr_i_0, pr_i_1, pr_i_m1]
                          exact hh
                      · simp only [ab_cmp, pr_8_100, pr_8_26, pr_8_40, pr_8_m4, pr_i_0, pr_i_1, pr_i_m1] at h85
                        exact absurd e3 h85
                  · simp only [ab_cmp, pr_8_100, pr_8_26, pr_8_40, pr_8_m4, pr_i_0, pr_i_1, pr_i_m1] at h66
                    exact absurd e3 h66
        have h0 := inner 41 0 (by omega) (X.1.1.1 l) z7 hw40
        rw [mL_id hv.1 hl26] at h0
        refine pr_seq (pc' := 27) 2 rfl ⟨⟨trivial, trivial⟩, trivial⟩ ?_
        try simp (disch := omega) only [c26, rI_mul, nI_add, nI_1, nI_clamp, pr_8_100, pr_8_26, pr_8_40, pr_8_m4, pr_i_0, pr_i_1, pr_i_m1]
        refine pr_ic rfl (fun h27 => ?_) (fun h27 => ?_)
        · simp only [ab_cmp, pr_8_100, pr_8_26, pr_8_40, pr_8_m4, pr_i_0, pr_i_1, pr_i_m1] at h27
          exact absurd h27 e1
        · simp only [ab_cmp, pr_8_100, pr_8_26, pr_8_40, pr_8_m4, pr_i_0, pr_i_1, pr_i_m1] at h27
          first
          | contradiction
          | exact absurd trivial h27
          | exact absurd h27 (by decide)
          | exact absurd (Classical.not_not.mp h27) (by decide)
          | skip
            refine pr_seq (pc' := 33) 2 rfl ⟨⟨trivial, (by first | decide | assumption)⟩, trivial⟩ ?_
            try simp (disch := omega) only [c26, rI_mul, nI_add, nI_1, nI_clamp, pr_8_100, pr_8_26, pr_8_40, pr_8_m4, pr_i_0, pr_i_1, pr_i_m1]
            refine pr_cv [_] rfl rfl rfl rfl rfl (Nat.le_of_ble_eq_true rfl) (by first | assumption | decide | (simp (disch := omega) only [c26, rI_mul, nI_add, nI_1, nI_clamp, pr_8_100, pr_8_26, pr_8_40, pr_8_m4, pr_i_0, pr_i_1, pr_i_m1]; first | assumption | exact ⟨Or.inl (by assumption), rvin (by assumption) (by omega) (by decide)⟩ | exact ⟨by assumption, rvin (by assumption) (by omega) (by decide)⟩ | exact ⟨⟨by omega, by omega⟩, rvin (by assumption) (by omega) (by decide)⟩ | exact ⟨Or.inr (by assumption), rvin (by assumption) (by omega) (by decide)⟩ | exact ⟨Or.inr ⟨by assumption, (by first | exact Or.inl rfl | exact Or.inr rfl | exact pr_b01 _)⟩, rvin (by assumption) (by omega) (by decide)⟩ | exact ⟨by assumption, by assumption⟩ | decide | omega)) (Nat.le_of_ble_eq_true rfl) (hwo) ?_
            refine pr_seq (pc' := 41) 3 rfl ⟨⟨⟨trivial, trivial⟩, trivial⟩, trivial⟩ ?_
            try simp (disch := omega) only [c26, rI_mul, nI_add, nI_1, nI_clamp, pr_8_100, pr_8_26, pr_8_40, pr_8_m4, pr_i_0, pr_i_1, pr_i_m1]
            exact h0
    have h0 := loop 26 0 (by omega) none none none
    refine pr_seq (pc' := 4) 4 rfl ⟨⟨⟨⟨trivial, trivial⟩, trivial⟩, trivial⟩, trivial⟩ ?_
    try simp (disch := omega) only [rI_mul, nI_add, nI_1, nI_clamp, pr_8_100, pr_8_26, pr_8_40, pr_8_m4, pr_i_0, pr_i_1, pr_i_m1]
    refine pr_cs [_, _, _] rfl rfl rfl rfl rfl (Nat.le_of_ble_eq_true rfl) (Nat.le_of_ble_eq_true rfl) (h1) ?_
    refine pr_if rfl (fun h7 => ?_) (fun h7 => ?_)
    · simp only [ab_cmp, pr_8_100, pr_8_26, pr_8_40, pr_8_m4, pr_i_0, pr_i_1, pr_i_m1] at h7
      first
      | contradiction
      | exact absurd trivial h7
      | exact absurd h7 (by decide)
      | exact absurd (Classical.not_not.mp h7) (by decide)
      | skip
        refine pr_seq (pc' := 13) 1 rfl ⟨trivial, (by first | decide | assumption)⟩ ?_
        try simp (disch := omega) only [rI_mul, nI_add, nI_1, nI_clamp, pr_8_100, pr_8_26, pr_8_40, pr_8_m4, pr_i_0, pr_i_1, pr_i_m1]
        refine pr_cv [] rfl rfl rfl rfl rfl (Nat.le_of_ble_eq_true rfl) (by first | assumption | decide | (simp (disch := omega) only [rI_mul, nI_add, nI_1, nI_clamp, pr_8_100, pr_8_26, pr_8_40, pr_8_m4, pr_i_0, pr_i_1, pr_i_m1]; first | assumption | exact ⟨Or.inl (by assumption), rvin (by assumption) (by omega) (by decide)⟩ | exact ⟨by assumption, rvin (by assumption) (by omega) (by decide)⟩ | exact ⟨⟨by omega, by omega⟩, rvin (by assumption) (by omega) (by decide)⟩ | exact ⟨Or.inr (by assumption), rvin (by assumption) (by omega) (by decide)⟩ | exact ⟨Or.inr ⟨by assumption, (by first | exact Or.inl rfl | exact Or.inr rfl | exact pr_b01 _)⟩, rvin (by assumption) (by omega) (by decide)⟩ | exact ⟨by assumption, by assumption⟩ | decide | omega)) (Nat.le_of_ble_eq_true rfl) (hper) ?_
        refine pr_seq (pc' := 23) 5 rfl ⟨⟨⟨⟨⟨trivial, trivial⟩, trivial⟩, trivial⟩, trivial⟩, trivial⟩ ?_
        try simp (disch := omega) only [rI_mul, nI_add, nI_1, nI_clamp, pr_8_100, pr_8_26, pr_8_40, pr_8_m4, pr_i_0, pr_i_1, pr_i_m1]
        exact h0
    · simp only [ab_cmp, pr_8_100, pr_8_26, pr_8_40, pr_8_m4, pr_i_0, pr_i_1, pr_i_m1] at h7
      exact absurd (Classical.not_not.mp h7) (by decide)
