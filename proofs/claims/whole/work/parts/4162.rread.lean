
/-! ===== the reference: sheets read ===== -/
theorem cpy_back2 {I I1 : Nat → Nat → Int32} (h1 : ∀ a, a ≠ 173 → I1 a = cpy I 0 663 221 a) (h2 : ∀ j, 221 ≤ j → I1 173 j = cpy I 0 663 221 173 j) : cpy I1 663 0 221 = cpy I 0 663 221 := by
  funext a j
  by_cases ea : a = 173
  · subst ea
    by_cases ej : j < 221
    · have := cpy_i (I := I1) (f := 663) (t := 0) (k := 221) ej
      rw [Nat.zero_add] at this
      rw [this, h2 _ (by omega), cpy_i ej, Nat.zero_add, cpy_o (by omega)]
    · rw [cpy_o (by omega), h2 _ (by omega)]
  · rw [cpy_ne ea, h1 a ea]
theorem rv_torn {I : Nat → Nat → Int32} {X : St} (t : Nat) (hv : rv I X) : rv (ab_u I 172 30 (nI t)) (sTorn X t) := by
  obtain ⟨v1, ⟨v2, v3, v4⟩, ⟨v5, v6, v7⟩, v8, v9, v10, v11, v12, v13⟩ := hv
  have e : ∀ a, a ≠ 172 → ab_u I 172 30 (nI t) a = I a := fun a ha => ab_u_ne ha
  refine ⟨by rw [e 173 (by decide)]; exact v1, ⟨by rw [ab_u_j (by decide)]; exact v2, v3, ?_⟩, ⟨by rw [ab_u_j (by decide)]; exact v5, v6, ?_⟩, fun k hk => im_cong (by rw [e 184 (by decide)]) (fun j x1 x2 => by rw [e 173 (by decide)]) (v8 k hk), fun k hk => sr_cong (e 185 (by decide)) (e 186 (by decide)) (e 187 (by decide)) (v9 k hk), tr_cong (ab_u_j (by decide)) (e 179 (by decide)) v10, by rw [ab_u_j (by decide)]; exact v11, ab_u_at, cr_cong (e 180 (by decide)) (e 181 (by decide)) v13⟩
  · show ls_r (ab_u I 172 30 (nI t) 174) X.1.2.1
    rw [e 174 (by decide)]; exact v4
  · show kn_r (ab_u I 172 30 (nI t) 175) X.1.2.1.length X.1.2.2
    rw [e 175 (by decide)]; exact v7
theorem ixw (f : Int32) (i n : Nat) (hi : i ≤ 100) (hn : n ≤ 40) : ixb (f + nI i) n = decide (0 ≤ f.toInt + i ∧ f.toInt + i < n) := by
  have hlo := Int32.le_toInt f
  have hhi := Int32.toInt_lt f
  have e : (f + nI i).toInt = (f.toInt + i).bmod (2 ^ 32) := by rw [Int32.toInt_add, nI_toInt (by omega)]
  show (!decide (f + nI i < 0) && !decide (nI n ≤ f + nI i)) = _
  have a1 : (f + nI i < 0) ↔ (f.toInt + i).bmod (2 ^ 32) < 0 := by rw [Int32.lt_iff_toInt_lt, e]; rfl
  have a2 : (nI n ≤ f + nI i) ↔ (n : Int) ≤ (f.toInt + i).bmod (2 ^ 32) := by rw [Int32.le_iff_toInt_le, e, nI_toInt (by omega)]
  have hb : (f.toInt + i).bmod (2 ^ 32) = f.toInt + i ∨ (2 ^ 31 ≤ f.toInt + i ∧ (f.toInt + i).bmod (2 ^ 32) = f.toInt + i - 2 ^ 32) := by
    by_cases c : f.toInt + i < 2 ^ 31
    · left; exact Int.bmod_eq_of_le (by omega) (by omega)
    · right
      refine ⟨by omega, ?_⟩
      have e5 := Int.add_bmod_right (f.toInt + i - 2 ^ 32) (2 ^ 32)
      rw [show f.toInt + i - 2 ^ 32 + ((2 ^ 32 : Nat) : Int) = f.toInt + i by omega] at e5
      rw [e5]
      exact Int.bmod_eq_of_le (by omega) (by omega)
  by_cases c1 : f + nI i < 0
  · have b1 := a1.mp c1
    rw [decide_eq_true c1, decide_eq_false (show ¬ (0 ≤ f.toInt + i ∧ f.toInt + i < n) by omega)]; rfl
  · have b1 : ¬ (f.toInt + i).bmod (2 ^ 32) < 0 := fun q => c1 (a1.mpr q)
    by_cases c2 : nI n ≤ f + nI i
    · have b2 := a2.mp c2
      rw [decide_eq_false c1, decide_eq_true c2, decide_eq_false (show ¬ (0 ≤ f.toInt + i ∧ f.toInt + i < n) by omega)]; rfl
    · have b2 : ¬ (n : Int) ≤ (f.toInt + i).bmod (2 ^ 32) := fun q => c2 (a2.mpr q)
      rw [decide_eq_false c1, decide_eq_false c2, decide_eq_true (show 0 ≤ f.toInt + i ∧ f.toInt + i < n by omega)]; rfl
theorem q_inW (f : Int32) (i n : Nat) (h : ab_H) (M : ab_M) (hi : i ≤ 100) (hn : n ≤ 40) : pr_C pX11_in [.long (f.toInt64 + (nI i).toInt64), .long (Int64.ofNat 0), .long (nI n - 1).toInt64] h M (some (.int (pr_b (ixb (f + nI i) n)))) h M := by
  have hlo := Int32.le_toInt f
  have hhi := Int32.toInt_lt f
  have := q_inL (f.toInt64 + (nI i).toInt64) (Int64.ofNat 0) (nI n - 1).toInt64 h M
  have e : (f.toInt64 + (nI i).toInt64).toInt = f.toInt + i := by
    rw [Int64.toInt_add, Int32.toInt_toInt64, Int32.toInt_toInt64, nI_toInt (by omega)]
    exact Int.bmod_eq_of_le (by omega) (by omega)
  have e0 : (Int64.ofNat 0).toInt = 0 := by decide
  have a1 : (f.toInt64 + (nI i).toInt64 < Int64.ofNat 0) ↔ f.toInt + i < 0 := by rw [Int64.lt_iff_toInt_lt, e, e0]
  have a2 : ((nI n - 1).toInt64 < f.toInt64 + (nI i).toInt64) ↔ (n : Int) ≤ f.toInt + i := by rw [Int64.lt_iff_toInt_lt, e, Int32.toInt_toInt64, i_m1 n (by omega)]; omega
  rw [decide_eq_decide.mpr a1, decide_eq_decide.mpr a2] at this
  have e3 : (!decide (f.toInt + i < 0) && !decide ((n : Int) ≤ f.toInt + i)) = ixb (f + nI i) n := by
    rw [ixw f i n hi hn]
    by_cases c1 : f.toInt + i < 0
    · rw [decide_eq_true c1, decide_eq_false (show ¬ (0 ≤ f.toInt + i ∧ f.toInt + i < n) by omega)]; rfl
    · by_cases c2 : (n : Int) ≤ f.toInt + i
      · rw [decide_eq_false c1, decide_eq_true c2, decide_eq_false (show ¬ (0 ≤ f.toInt + i ∧ f.toInt + i < n) by omega)]; rfl
      · rw [decide_eq_false c1, decide_eq_false c2, decide_eq_true (show 0 ≤ f.toInt + i ∧ f.toInt + i < n by omega)]; rfl
  rw [e3] at this
  exact this
theorem f2i (f : Int32) (t : Nat) : f + 2 * nI t = f + nI (2 * t) := by rw [show (2 : Int32) = nI 2 from rfl, rI_mul]
theorem f2j (f : Int32) (t : Nat) : f + 2 * nI t + 1 = f + nI (2 * t + 1) := by rw [f2i, ← nI_1, Int32.add_assoc]
/-- what the reading keeps -/
def rd_i (M : ab_M) (o : Sh1) (f : Int32) (X : St) (t : Nat) (I : Nat → Nat → Int32) : Prop := (∀ a, a ≠ 173 → I a = cpy M.1 0 663 221 a) ∧ (∀ j, 221 ≤ j → I 173 j = cpy M.1 0 663 221 173 j) ∧ rv I (rdL o f t X)
theorem rdL_2 (o : Sh1) (f : Int32) (X : St) : ∀ k, (rdL o f k X).2 = X.2
  | 0 => rfl
  | k + 1 => by
    have ih := rdL_2 o f X k
    show (f_letter (rdL o f k X) (rdA o f k) (rdB o f k)).2.2 = X.2
    unfold f_letter
    split <;> exact ih
theorem rd_s0 {o : Sh1} {as f : Int32} {d i : Nat} (h : ¬ rdF o as f i = 0) : rdS o as f (d + 1) i = (rdF o as f i, i, false) := by
  show (if rdF o as f i = 0 then _ else _) = _
  rw [if_neg h]
theorem r_read2 {X : St} {k n : Nat} {as f : Int32} (h : ab_H) (M : ab_M) (hl : rL h M.2.2) (hk : k < 4) (hn : n ≤ 20) (hv : rv M.1 X) : ∀ d t, t + d = n → ∀ (I : Nat → Nat → Int32) (z8 : Option Value), rd_i M (X.2.2.1 k) f X t I → pr_T pX11_read 56 [some (.ref 172), some (.int (nI k)), some (.int as), some (.int f), some (.int (nI n)), some (.int (nI 0)), some (.int (nI t)), some (.int (nI (2 * t))), z8] [] h (I, M.2) (rp M (if (rdS (X.2.2.1 k) as f d t).2.2 then (-20 - nI (rdS (X.2.2.1 k) as f d t).2.1, X) else (nI (rdS (X.2.2.1 k) as f d t).2.1, sTorn (rdL (X.2.2.1 k) f (rdS (X.2.2.1 k) as f d t).2.1 X) (rdS (X.2.2.1 k) as f d t).1))) := by
  obtain ⟨k172, rS, rLs, rKn, rPg, rRl, rRk, rTp, rCu, rLe, rLt, rSm, rIk, rLn, rLg, rCe, ⟨kS, nS⟩, ⟨kLs, nLs⟩, ⟨kKn, nKn⟩, ⟨kPg, nPg⟩, ⟨kRl, nRl⟩, ⟨kRk, nRk⟩, ⟨kTp, nTp⟩, ⟨kCu, nCu⟩, ⟨kLe, nLe⟩, ⟨kLt, nLt⟩, ⟨kSm, nSm⟩, ⟨kIk, nIk⟩, ⟨kLn, nLn⟩, ⟨kLg, nLg⟩, kCe, nCe⟩ := id hl
  intro d
  induction d with
  | zero =>
    intro t ht I z8 ⟨f1, f2, f3⟩
    obtain rfl : t = n := by omega
    have e1 : nI (2 * t) ≤ nI (2 * t) := nI_le (Nat.le_refl _) (by omega)
    show pr_T pX11_read 56 _ [] h (I, M.2) (rp M (nI t, sTorn (rdL (X.2.2.1 k) f t X) 0))
    refine pr_seqT (pc' := 62) 4 rfl ⟨⟨⟨⟨trivial, trivial⟩, trivial⟩, trivial⟩, trivial⟩ ?_
    try simp (disch := omega) only [c2, rLn, rLg, rCe, rI_mul, nI_add, nI_1, nI_clamp, c663, pr_16_663, pr_8_40, pr_8_m20, pr_8_m4, pr_i_0, pr_i_1, pr_i_2, pr_i_3, pr_i_m1]
    refine pr_icT rfl (fun h62 => ?_) (fun h62 => ?_)
    · simp only [ab_cmp, pr_16_663, pr_8_40, pr_8_m20, pr_8_m4, pr_i_0, pr_i_1, pr_i_2, pr_i_3, pr_i_m1] at h62
      first
      | contradiction
      | exact absurd trivial h62
      | exact absurd h62 (by decide)
      | exact absurd (Classical.not_not.mp h62) (by decide)
      | skip
        refine pr_seqT (pc' := 206) 4 rfl ⟨⟨⟨⟨trivial, (by first | decide | assumption)⟩, trivial⟩, (by first | assumption | exact ⟨by assumption, by decide⟩ | exact ⟨by assumption, pr_b01 _⟩)⟩, trivial⟩ ?_
        try simp (disch := omega) only [c2, rLn, rLg, rCe, rI_mul, nI_add, nI_1, nI_clamp, c663, pr_16_663, pr_8_40, pr_8_m20, pr_8_m4, pr_i_0, pr_i_1, pr_i_2, pr_i_3, pr_i_m1]
        exact pr_irT rfl trivial (by exact rp_I (rv_torn 0 f3) (fun a ha => by rw [ab_u_ne (by omega), f1 a (by omega), cpy_ne (by omega)]))
    · simp only [ab_cmp, pr_16_663, pr_8_40, pr_8_m20, pr_8_m4, pr_i_0, pr_i_1, pr_i_2, pr_i_3, pr_i_m1] at h62
      exact absurd e1 h62
  | succ d ih =>
    intro t ht I z8 ⟨f1, f2, f3⟩
    have e1 : ¬ nI (2 * n) ≤ nI (2 * t) := nI_ge (by omega) (by omega)
    have e1' : ¬ nI (2 * n) ≤ nI (2 * t + 1) := nI_ge (by omega) (by omega)
    have far : ∀ a, (a < 172 ∨ 187 < a) → ∀ v, ab_u I 172 30 v a = M.1 a := fun a ha v => by rw [ab_u_ne (by omega), f1 a (by omega), cpy_ne (by omega)]
    have n00 : nI 0 = 0 := rfl
    have ev : 2 * t - 2 * t / 2 * 2 = 0 := by omega
    have od : 2 * t + 1 - (2 * t + 1) / 2 * 2 = 1 := by omega
    have o0 : ¬ nI 0 = 1 := by decide
    have o1 : nI 1 = 1 := rfl
    have hs := f3.2.2.2.2.1 k hk
    rw [show (rdL (X.2.2.1 k) f t X).2.2.1 k = X.2.2.1 k by rw [rdL_2]] at hs
    have out : ∀ by', by' ≤ 3 → ¬ by' = 0 → rdF (X.2.2.1 k) as f t = by' → ∀ i z8', pr_T pX11_read 56 [some (.ref 172), some (.int (nI k)), some (.int as), some (.int f), some (.int (nI n)), some (.int (nI by')), some (.int (nI t)), some (.int (nI i)), z8'] [] h (I, M.2) (rp M (if (rdS (X.2.2.1 k) as f (d + 1) t).2.2 then (-20 - nI (rdS (X.2.2.1 k) as f (d + 1) t).2.1, X) else (nI (rdS (X.2.2.1 k) as f (d + 1) t).2.1, sTorn (rdL (X.2.2.1 k) f (rdS (X.2.2.1 k) as f (d + 1) t).2.1 X) (rdS (X.2.2.1 k) as f (d + 1) t).1))) := by
      intro by' hb3 hb0 hF i z8'
      rw [rd_s0 (by rw [hF]; exact hb0), hF]
      show pr_T pX11_read 56 _ [] h (I, M.2) (rp M (nI t, sTorn (rdL (X.2.2.1 k) f t X) by'))
      have z0 : ¬ nI by' = 0 := nI_ne (b := 0) hb0 (by omega) (by decide)
      by_cases c : nI (2 * n) ≤ nI i
      · refine pr_seqT (pc' := 62) 4 rfl ⟨⟨⟨⟨trivial, trivial⟩, trivial⟩, trivial⟩, trivial⟩ ?_
        try simp (disch := omega) only [c2, rLn, rLg, rCe, rI_mul, nI_add, nI_1, nI_clamp, c663, pr_16_663, pr_8_40, pr_8_m20, pr_8_m4, pr_i_0, pr_i_1, pr_i_2, pr_i_3, pr_i_m1]
        refine pr_icT rfl (fun h62 => ?_) (fun h62 => ?_)
        · simp only [ab_cmp, pr_16_663, pr_8_40, pr_8_m20, pr_8_m4, pr_i_0, pr_i_1, pr_i_2, pr_i_3, pr_i_m1] at h62
          first
          | contradiction
          | exact absurd trivial h62
          | exact absurd h62 (by decide)
          | exact absurd (Classical.not_not.mp h62) (by decide)
          | skip
            refine pr_seqT (pc' := 206) 4 rfl ⟨⟨⟨⟨trivial, (by first | decide | assumption)⟩, trivial⟩, (by first | assumption | exact ⟨by assumption, by decide⟩ | exact ⟨by assumption, pr_b01 _⟩)⟩, trivial⟩ ?_
            try simp (disch := omega) only [c2, rLn, rLg, rCe, rI_mul, nI_add, nI_1, nI_clamp, c663, pr_16_663, pr_8_40, pr_8_m20, pr_8_m4, pr_i_0, pr_i_1, pr_i_2, pr_i_3, pr_i_m1]
            exact pr_irT rfl trivial (by exact rp_I (rv_torn by' f3) (fun a ha => far a ha _))
        · simp only [ab_cmp, pr_16_663, pr_8_40, pr_8_m20, pr_8_m4, pr_i_0, pr_i_1, pr_i_2, pr_i_3, pr_i_m1] at h62
          exact absurd c h62
      · refine pr_seqT (pc' := 62) 4 rfl ⟨⟨⟨⟨trivial, trivial⟩, trivial⟩, trivial⟩, trivial⟩ ?_
        try simp (disch := omega) only [c2, rLn, rLg, rCe, rI_mul, nI_add, nI_1, nI_clamp, c663, pr_16_663, pr_8_40, pr_8_m20, pr_8_m4, pr_i_0, pr_i_1, pr_i_2, pr_i_3, pr_i_m1]
        refine pr_icT rfl (fun h62 => ?_) (fun h62 => ?_)
        · simp only [ab_cmp, pr_16_663, pr_8_40, pr_8_m20, pr_8_m4, pr_i_0, pr_i_1, pr_i_2, pr_i_3, pr_i_m1] at h62
          exact absurd h62 c
        · simp only [ab_cmp, pr_16_663, pr_8_40, pr_8_m20, pr_8_m4, pr_i_0, pr_i_1, pr_i_2, pr_i_3, pr_i_m1] at h62
          first
          | contradiction
          | exact absurd trivial h62
          | exact absurd h62 (by decide)
          | exact absurd (Classical.not_not.mp h62) (by decide)
          | skip
            refine pr_seqT (pc' := 67) 1 rfl ⟨trivial, trivial⟩ ?_
            try simp (disch := omega) only [c2, rLn, rLg, rCe, rI_mul, nI_add, nI_1, nI_clamp, c663, pr_16_663, pr_8_40, pr_8_m20, pr_8_m4, pr_i_0, pr_i_1, pr_i_2, pr_i_3, pr_i_m1]
            refine pr_ifT rfl (fun h67 => ?_) (fun h67 => ?_)
            · simp only [ab_cmp, pr_16_663, pr_8_40, pr_8_m20, pr_8_m4, pr_i_0, pr_i_1, pr_i_2, pr_i_3, pr_i_m1] at h67
              first
              | contradiction
              | exact absurd trivial h67
              | exact absurd h67 (by decide)
              | exact absurd (Classical.not_not.mp h67) (by decide)
              | skip
                refine pr_seqT (pc' := 206) 4 rfl ⟨⟨⟨⟨trivial, (by first | decide | assumption)⟩, trivial⟩, (by first | assumption | exact ⟨by assumption, by decide⟩ | exact ⟨by assumption, pr_b01 _⟩)⟩, trivial⟩ ?_
                try simp (disch := omega) only [c2, rLn, rLg, rCe, rI_mul, nI_add, nI_1, nI_clamp, c663, pr_16_663, pr_8_40, pr_8_m20, pr_8_m4, pr_i_0, pr_i_1, pr_i_2, pr_i_3, pr_i_m1]
                exact pr_irT rfl trivial (by exact rp_I (rv_torn by' f3) (fun a ha => far a ha _))
            · simp only [ab_cmp, pr_16_663, pr_8_40, pr_8_m20, pr_8_m4, pr_i_0, pr_i_1, pr_i_2, pr_i_3, pr_i_m1] at h67
              exact absurd (Classical.not_not.mp h67) z0
    cases co : X.2.2.1 k with
    | none =>
      rw [co] at hs
      have hs : I 185 k = -4 := hs
      have hF : rdF (X.2.2.1 k) as f t = 1 := by rw [co]; rfl
      have o := out 1 (by decide) (by decide) hF
      rw [co] at o
      have o11 : ¬ (1 : Int32) = 0 := by decide
      refine pr_seqT (pc' := 62) 4 rfl ⟨⟨⟨⟨trivial, trivial⟩, trivial⟩, trivial⟩, trivial⟩ ?_
      try simp (disch := omega) only [c2, hs, rLn, rLg, rCe, rI_mul, nI_add, nI_1, nI_clamp, c663, pr_16_663, pr_8_40, pr_8_m20, pr_8_m4, pr_i_0, pr_i_1, pr_i_2, pr_i_3, pr_i_m1]
      refine pr_icT rfl (fun h62 => ?_) (fun h62 => ?_)
      · simp only [ab_cmp, pr_16_663, pr_8_40, pr_8_m20, pr_8_m4, pr_i_0, pr_i_1, pr_i_2, pr_i_3, pr_i_m1] at h62
        exact absurd h62 e1
      · simp only [ab_cmp, pr_16_663, pr_8_40, pr_8_m20, pr_8_m4, pr_i_0, pr_i_1, pr_i_2, pr_i_3, pr_i_m1] at h62
        first
        | contradiction
        | exact absurd trivial h62
        | exact absurd h62 (by decide)
        | exact absurd (Classical.not_not.mp h62) (by decide)
        | skip
          refine pr_seqT (pc' := 67) 1 rfl ⟨trivial, trivial⟩ ?_
          try simp (disch := omega) only [c2, hs, rLn, rLg, rCe, rI_mul, nI_add, nI_1, nI_clamp, c663, pr_16_663, pr_8_40, pr_8_m20, pr_8_m4, pr_i_0, pr_i_1, pr_i_2, pr_i_3, pr_i_m1]
          refine pr_ifT rfl (fun h67 => ?_) (fun h67 => ?_)
          · simp only [ab_cmp, pr_16_663, pr_8_40, pr_8_m20, pr_8_m4, pr_i_0, pr_i_1, pr_i_2, pr_i_3, pr_i_m1] at h67
            exact absurd rfl h67
          · simp only [ab_cmp, pr_16_663, pr_8_40, pr_8_m20, pr_8_m4, pr_i_0, pr_i_1, pr_i_2, pr_i_3, pr_i_m1] at h67
            first
            | contradiction
            | exact absurd trivial h67
            | exact absurd h67 (by decide)
            | exact absurd (Classical.not_not.mp h67) (by decide)
            | skip
              refine pr_seqT (pc' := 78) 5 rfl ⟨⟨⟨⟨⟨trivial, (by first | decide | assumption)⟩, (by assumption)⟩, trivial⟩, (by (try simp (disch := omega) only [c2, hs, rLn, rLg, rCe, rI_mul, nI_add, nI_1, nI_clamp, c663, pr_16_663, pr_8_40, pr_8_m20, pr_8_m4, pr_i_0, pr_i_1, pr_i_2, pr_i_3, pr_i_m1]); exact ⟨Or.inl (by assumption), rvin (by assumption) (by omega) (by decide)⟩)⟩, trivial⟩ ?_
              try simp (disch := omega) only [c2, hs, rLn, rLg, rCe, rI_mul, nI_add, nI_1, nI_clamp, c663, pr_16_663, pr_8_40, pr_8_m20, pr_8_m4, pr_i_0, pr_i_1, pr_i_2, pr_i_3, pr_i_m1]
              refine pr_icT rfl (fun h78 => ?_) (fun h78 => ?_)
              · simp only [ab_cmp, pr_16_663, pr_8_40, pr_8_m20, pr_8_m4, pr_i_0, pr_i_1, pr_i_2, pr_i_3, pr_i_m1] at h78
                exact absurd trivial h78
              · simp only [ab_cmp, pr_16_663, pr_8_40, pr_8_m20, pr_8_m4, pr_i_0, pr_i_1, pr_i_2, pr_i_3, pr_i_m1] at h78
                first
                | contradiction
                | exact absurd trivial h78
                | exact absurd h78 (by decide)
                | exact absurd (Classical.not_not.mp h78) (by decide)
                | skip
                  refine pr_seqT (pc' := 130) 4 rfl ⟨⟨⟨⟨trivial, trivial⟩, trivial⟩, trivial⟩, trivial⟩ ?_
                  try simp (disch := omega) only [c2, hs, rLn, rLg, rCe, rI_mul, nI_add, nI_1, nI_clamp, c663, pr_16_663, pr_8_40, pr_8_m20, pr_8_m4, pr_i_0, pr_i_1, pr_i_2, pr_i_3, pr_i_m1]
                  refine pr_ifT rfl (fun h130 => ?_) (fun h130 => ?_)
                  · simp only [ab_cmp, pr_16_663, pr_8_40, pr_8_m20, pr_8_m4, pr_i_0, pr_i_1, pr_i_2, pr_i_3, pr_i_m1] at h130
                    first
                    | contradiction
                    | exact absurd trivial h130
                    | exact absurd h130 (by decide)
                    | exact absurd (Classical.not_not.mp h130) (by decide)
                    | skip
                      refine pr_seqT (pc' := 56) 2 rfl ⟨⟨trivial, trivial⟩, trivial⟩ ?_
                      try simp (disch := omega) only [c2, hs, rLn, rLg, rCe, rI_mul, nI_add, nI_1, nI_clamp, c663, pr_16_663, pr_8_40, pr_8_m20, pr_8_m4, pr_i_0, pr_i_1, pr_i_2, pr_i_3, pr_i_m1]
                      exact o _ _
                  · simp only [ab_cmp, pr_16_663, pr_8_40, pr_8_m20, pr_8_m4, pr_i_0, pr_i_1, pr_i_2, pr_i_3, pr_i_m1] at h130
                    exact absurd (Classical.not_not.mp h130) o11
    | some q =>
      obtain ⟨ln, sz, cf⟩ := q
      rw [co] at hs
      obtain ⟨s1, s2, s3, s4, s5⟩ := hs
      have e4 : ¬ nI ln = -4 := by
        have : ∀ m : Fin 3, ¬ nI m.val = -4 := by decide
        exact this ⟨ln, by omega⟩
      by_cases ca : nI ln = as
      · have hA := q_inW f (2 * t) sz h (I, M.2) (by omega) s4
        have hB := q_inW f (2 * t + 1) sz h (I, M.2) (by omega) s4
        have hFd : rdF (X.2.2.1 k) as f t = if ixb (f + nI (2 * t)) sz && ixb (f + nI (2 * t + 1)) sz then 0 else 2 := by
          rw [co]
          show (if nI ln = as then (if ixb (f + 2 * nI t) sz && ixb (f + 2 * nI t + 1) sz then 0 else 2) else 3) = _
          rw [if_pos ca, f2j, f2i]
        have o22 : ¬ nI 2 = 0 := by decide
        cases cA : ixb (f + nI (2 * t)) sz with
        | false =>
          rw [cA] at hA hFd
          have o := out 2 (by decide) (by decide) hFd
          rw [co] at o
          refine pr_seqT (pc' := 62) 4 rfl ⟨⟨⟨⟨trivial, trivial⟩, trivial⟩, trivial⟩, trivial⟩ ?_
          try simp (disch := omega) only [c2, s1, s3, rLn, rLg, rCe, rI_mul, nI_add, nI_1, nI_clamp, c663, pr_16_663, pr_8_40, pr_8_m20, pr_8_m4, pr_i_0, pr_i_1, pr_i_2, pr_i_3, pr_i_m1]
          refine pr_icT rfl (fun h62 => ?_) (fun h62 => ?_)
          · simp only [ab_cmp, pr_16_663, pr_8_40, pr_8_m20, pr_8_m4, pr_i_0, pr_i_1, pr_i_2, pr_i_3, pr_i_m1] at h62
            exact absurd h62 e1
          · simp only [ab_cmp, pr_16_663, pr_8_40, pr_8_m20, pr_8_m4, pr_i_0, pr_i_1, pr_i_2, pr_i_3, pr_i_m1] at h62
            first
            | contradiction
            | exact absurd trivial h62
            | exact absurd h62 (by decide)
            | exact absurd (Classical.not_not.mp h62) (by decide)
            | skip
              refine pr_seqT (pc' := 67) 1 rfl ⟨trivial, trivial⟩ ?_
              try simp (disch := omega) only [c2, s1, s3, rLn, rLg, rCe, rI_mul, nI_add, nI_1, nI_clamp, c663, pr_16_663, pr_8_40, pr_8_m20, pr_8_m4, pr_i_0, pr_i_1, pr_i_2, pr_i_3, pr_i_m1]
              refine pr_ifT rfl (fun h67 => ?_) (fun h67 => ?_)
              · simp only [ab_cmp, pr_16_663, pr_8_40, pr_8_m20, pr_8_m4, pr_i_0, pr_i_1, pr_i_2, pr_i_3, pr_i_m1] at h67
                exact absurd rfl h67
              · simp only [ab_cmp, pr_16_663, pr_8_40, pr_8_m20, pr_8_m4, pr_i_0, pr_i_1, pr_i_2, pr_i_3, pr_i_m1] at h67
                first
                | contradiction
                | exact absurd trivial h67
                | exact absurd h67 (by decide)
                | exact absurd (Classical.not_not.mp h67) (by decide)
                | skip
                  refine pr_seqT (pc' := 78) 5 rfl ⟨⟨⟨⟨⟨trivial, (by first | decide | assumption)⟩, (by assumption)⟩, trivial⟩, (by (try simp (disch := omega) only [c2, s1, s3, rLn, rLg, rCe, rI_mul, nI_add, nI_1, nI_clamp, c663, pr_16_663, pr_8_40, pr_8_m20, pr_8_m4, pr_i_0, pr_i_1, pr_i_2, pr_i_3, pr_i_m1]); exact ⟨Or.inl (by assumption), rvin (by assumption) (by omega) (by decide)⟩)⟩, trivial⟩ ?_
                  try simp (disch := omega) only [c2, s1, s3, rLn, rLg, rCe, rI_mul, nI_add, nI_1, nI_clamp, c663, pr_16_663, pr_8_40, pr_8_m20, pr_8_m4, pr_i_0, pr_i_1, pr_i_2, pr_i_3, pr_i_m1]
                  refine pr_icT rfl (fun h78 => ?_) (fun h78 => ?_)
                  · simp only [ab_cmp, pr_16_663, pr_8_40, pr_8_m20, pr_8_m4, pr_i_0, pr_i_1, pr_i_2, pr_i_3, pr_i_m1] at h78
                    first
                    | contradiction
                    | exact absurd trivial h78
                    | exact absurd h78 (by decide)
                    | exact absurd (Classical.not_not.mp h78) (by decide)
                    | skip
                      refine pr_seqT (pc' := 92) 5 rfl ⟨⟨⟨⟨⟨trivial, (by first | decide | assumption)⟩, (by assumption)⟩, trivial⟩, (by (try simp (disch := omega) only [c2, s1, s3, rLn, rLg, rCe, rI_mul, nI_add, nI_1, nI_clamp, c663, pr_16_663, pr_8_40, pr_8_m20, pr_8_m4, pr_i_0, pr_i_1, pr_i_2, pr_i_3, pr_i_m1]); exact ⟨Or.inl (by assumption), rvin (by assumption) (by omega) (by decide)⟩)⟩, trivial⟩ ?_
                      try simp (disch := omega) only [c2, s1, s3, rLn, rLg, rCe, rI_mul, nI_add, nI_1, nI_clamp, c663, pr_16_663, pr_8_40, pr_8_m20, pr_8_m4, pr_i_0, pr_i_1, pr_i_2, pr_i_3, pr_i_m1]
                      refine pr_icT rfl (fun h92 => ?_) (fun h92 => ?_)
                      · simp only [ab_cmp, pr_16_663, pr_8_40, pr_8_m20, pr_8_m4, pr_i_0, pr_i_1, pr_i_2, pr_i_3, pr_i_m1] at h92
                        first
                        | contradiction
                        | exact absurd trivial h92
                        | exact absurd h92 (by decide)
                        | exact absurd (Classical.not_not.mp h92) (by decide)
                        | skip
                          refine pr_seqT (pc' := 115) 13 rfl ⟨⟨⟨⟨⟨⟨⟨⟨⟨⟨⟨⟨⟨trivial, trivial⟩, trivial⟩, trivial⟩, trivial⟩, trivial⟩, trivial⟩, (by first | decide | assumption)⟩, (by assumption)⟩, trivial⟩, (by (try simp (disch := omega) only [c2, s1, s3, rLn, rLg, rCe, rI_mul, nI_add, nI_1, nI_clamp, c663, pr_16_663, pr_8_40, pr_8_m20, pr_8_m4, pr_i_0, pr_i_1, pr_i_2, pr_i_3, pr_i_m1]); exact ⟨Or.inl (by assumption), rvin (by assumption) (by omega) (by decide)⟩)⟩, trivial⟩, trivial⟩, trivial⟩ ?_
                          try simp (disch := omega) only [c2, s1, s3, rLn, rLg, rCe, rI_mul, nI_add, nI_1, nI_clamp, c663, pr_16_663, pr_8_40, pr_8_m20, pr_8_m4, pr_i_0, pr_i_1, pr_i_2, pr_i_3, pr_i_m1]
                          refine pr_csT [_, _, _] rfl rfl rfl rfl rfl (Nat.le_of_ble_eq_true rfl) (Nat.le_of_ble_eq_true rfl) (hA) ?_
                          refine pr_ifT rfl (fun h118 => ?_) (fun h118 => ?_)
                          · simp only [ab_cmp, pr_16_663, pr_8_40, pr_8_m20, pr_8_m4, pr_i_0, pr_i_1, pr_i_2, pr_i_3, pr_i_m1] at h118
                            exact absurd rfl h118
                          · simp only [ab_cmp, pr_16_663, pr_8_40, pr_8_m20, pr_8_m4, pr_i_0, pr_i_1, pr_i_2, pr_i_3, pr_i_m1] at h118
                            first
                            | contradiction
                            | exact absurd trivial h118
                            | exact absurd h118 (by decide)
                            | exact absurd (Classical.not_not.mp h118) (by decide)
                            | skip
                              refine pr_seqT (pc' := 130) 4 rfl ⟨⟨⟨⟨trivial, trivial⟩, trivial⟩, trivial⟩, trivial⟩ ?_
                              try simp (disch := omega) only [c2, s1, s3, rLn, rLg, rCe, rI_mul, nI_add, nI_1, nI_clamp, c663, pr_16_663, pr_8_40, pr_8_m20, pr_8_m4, pr_i_0, pr_i_1, pr_i_2, pr_i_3, pr_i_m1]
                              refine pr_ifT rfl (fun h130 => ?_) (fun h130 => ?_)
                              · simp only [ab_cmp, pr_16_663, pr_8_40, pr_8_m20, pr_8_m4, pr_i_0, pr_i_1, pr_i_2, pr_i_3, pr_i_m1] at h130
                                first
                                | contradiction
                                | exact absurd trivial h130
                                | exact absurd h130 (by decide)
                                | exact absurd (Classical.not_not.mp h130) (by decide)
                                | skip
                                  refine pr_seqT (pc' := 56) 2 rfl ⟨⟨trivial, trivial⟩, trivial⟩ ?_
                                  try simp (disch := omega) only [c2, s1, s3, rLn, rLg, rCe, rI_mul, nI_add, nI_1, nI_clamp, c663, pr_16_663, pr_8_40, pr_8_m20, pr_8_m4, pr_i_0, pr_i_1, pr_i_2, pr_i_3, pr_i_m1]
                                  exact o _ _
                              · simp only [ab_cmp, pr_16_663, pr_8_40, pr_8_m20, pr_8_m4, pr_i_0, pr_i_1, pr_i_2, pr_i_3, pr_i_m1] at h130
                                exact absurd (Classical.not_not.mp h130) o22
                      · simp only [ab_cmp, pr_16_663, pr_8_40, pr_8_m20, pr_8_m4, pr_i_0, pr_i_1, pr_i_2, pr_i_3, pr_i_m1] at h92
                        exact absurd ca h92
                  · simp only [ab_cmp, pr_16_663, pr_8_40, pr_8_m20, pr_8_m4, pr_i_0, pr_i_1, pr_i_2, pr_i_3, pr_i_m1] at h78
                    exact absurd (Classical.not_not.mp h78) e4
        | true =>
          rw [cA] at hA
          rw [cA, Bool.true_and] at hFd
          have odd : ∀ z8', pr_T pX11_read 56 [some (.ref 172), some (.int (nI k)), some (.int as), some (.int f), some (.int (nI n)), some (.int (nI 0)), some (.int (nI t)), some (.int (nI (2 * t + 1))), z8'] [] h (I, M.2) (rp M (if (rdS (X.2.2.1 k) as f (d + 1) t).2.2 then (-20 - nI (rdS (X.2.2.1 k) as f (d + 1) t).2.1, X) else (nI (rdS (X.2.2.1 k) as f (d + 1) t).2.1, sTorn (rdL (X.2.2.1 k) f (rdS (X.2.2.1 k) as f (d + 1) t).2.1 X) (rdS (X.2.2.1 k) as f (d + 1) t).1))) := by
            intro z8'
            cases cB : ixb (f + nI (2 * t + 1)) sz with
            | false =>
              rw [cB] at hB hFd
              have o := out 2 (by decide) (by decide) hFd
              refine pr_seqT (pc' := 62) 4 rfl ⟨⟨⟨⟨trivial, trivial⟩, trivial⟩, trivial⟩, trivial⟩ ?_
              try simp (disch := omega) only [c2, s1, s3, rLn, rLg, rCe, rI_mul, nI_add, nI_1, nI_clamp, c663, pr_16_663, pr_8_40, pr_8_m20, pr_8_m4, pr_i_0, pr_i_1, pr_i_2, pr_i_3, pr_i_m1]
              refine pr_icT rfl (fun h62 => ?_) (fun h62 => ?_)
              · simp only [ab_cmp, pr_16_663, pr_8_40, pr_8_m20, pr_8_m4, pr_i_0, pr_i_1, pr_i_2, pr_i_3, pr_i_m1] at h62
                exact absurd h62 e1'
              · simp only [ab_cmp, pr_16_663, pr_8_40, pr_8_m20, pr_8_m4, pr_i_0, pr_i_1, pr_i_2, pr_i_3, pr_i_m1] at h62
                first
                | contradiction
                | exact absurd trivial h62
                | exact absurd h62 (by decide)
                | exact absurd (Classical.not_not.mp h62) (by decide)
                | skip
                  refine pr_seqT (pc' := 67) 1 rfl ⟨trivial, trivial⟩ ?_
                  try simp (disch := omega) only [c2, s1, s3, rLn, rLg, rCe, rI_mul, nI_add, nI_1, nI_clamp, c663, pr_16_663, pr_8_40, pr_8_m20, pr_8_m4, pr_i_0, pr_i_1, pr_i_2, pr_i_3, pr_i_m1]
                  refine pr_ifT rfl (fun h67 => ?_) (fun h67 => ?_)
                  · simp only [ab_cmp, pr_16_663, pr_8_40, pr_8_m20, pr_8_m4, pr_i_0, pr_i_1, pr_i_2, pr_i_3, pr_i_m1] at h67
                    exact absurd rfl h67
                  · simp only [ab_cmp, pr_16_663, pr_8_40, pr_8_m20, pr_8_m4, pr_i_0, pr_i_1, pr_i_2, pr_i_3, pr_i_m1] at h67
                    first
                    | contradiction
                    | exact absurd trivial h67
                    | exact absurd h67 (by decide)
                    | exact absurd (Classical.not_not.mp h67) (by decide)
                    | skip
                      refine pr_seqT (pc' := 78) 5 rfl ⟨⟨⟨⟨⟨trivial, (by first | decide | assumption)⟩, (by assumption)⟩, trivial⟩, (by (try simp (disch := omega) only [c2, s1, s3, rLn, rLg, rCe, rI_mul, nI_add, nI_1, nI_clamp, c663, pr_16_663, pr_8_40, pr_8_m20, pr_8_m4, pr_i_0, pr_i_1, pr_i_2, pr_i_3, pr_i_m1]); exact ⟨Or.inl (by assumption), rvin (by assumption) (by omega) (by decide)⟩)⟩, trivial⟩ ?_
                      try simp (disch := omega) only [c2, s1, s3, rLn, rLg, rCe, rI_mul, nI_add, nI_1, nI_clamp, c663, pr_16_663, pr_8_40, pr_8_m20, pr_8_m4, pr_i_0, pr_i_1, pr_i_2, pr_i_3, pr_i_m1]
                      refine pr_icT rfl (fun h78 => ?_) (fun h78 => ?_)
                      · simp only [ab_cmp, pr_16_663, pr_8_40, pr_8_m20, pr_8_m4, pr_i_0, pr_i_1, pr_i_2, pr_i_3, pr_i_m1] at h78
                        first
                        | contradiction
                        | exact absurd trivial h78
                        | exact absurd h78 (by decide)
                        | exact absurd (Classical.not_not.mp h78) (by decide)
                        | skip
                          refine pr_seqT (pc' := 92) 5 rfl ⟨⟨⟨⟨⟨trivial, (by first | decide | assumption)⟩, (by assumption)⟩, trivial⟩, (by (try simp (disch := omega) only [c2, s1, s3, rLn, rLg, rCe, rI_mul, nI_add, nI_1, nI_clamp, c663, pr_16_663, pr_8_40, pr_8_m20, pr_8_m4, pr_i_0, pr_i_1, pr_i_2, pr_i_3, pr_i_m1]); exact ⟨Or.inl (by assumption), rvin (by assumption) (by omega) (by decide)⟩)⟩, trivial⟩ ?_
                          try simp (disch := omega) only [c2, s1, s3, rLn, rLg, rCe, rI_mul, nI_add, nI_1, nI_clamp, c663, pr_16_663, pr_8_40, pr_8_m20, pr_8_m4, pr_i_0, pr_i_1, pr_i_2, pr_i_3, pr_i_m1]
                          refine pr_icT rfl (fun h92 => ?_) (fun h92 => ?_)
                          · simp only [ab_cmp, pr_16_663, pr_8_40, pr_8_m20, pr_8_m4, pr_i_0, pr_i_1, pr_i_2, pr_i_3, pr_i_m1] at h92
                            first
                            | contradiction
                            | exact absurd trivial h92
                            | exact absurd h92 (by decide)
                            | exact absurd (Classical.not_not.mp h92) (by decide)
                            | skip
                              refine pr_seqT (pc' := 115) 13 rfl ⟨⟨⟨⟨⟨⟨⟨⟨⟨⟨⟨⟨⟨trivial, trivial⟩, trivial⟩, trivial⟩, trivial⟩, trivial⟩, trivial⟩, (by first | decide | assumption)⟩, (by assumption)⟩, trivial⟩, (by (try simp (disch := omega) only [c2, s1, s3, rLn, rLg, rCe, rI_mul, nI_add, nI_1, nI_clamp, c663, pr_16_663, pr_8_40, pr_8_m20, pr_8_m4, pr_i_0, pr_i_1, pr_i_2, pr_i_3, pr_i_m1]); exact ⟨Or.inl (by assumption), rvin (by assumption) (by omega) (by decide)⟩)⟩, trivial⟩, trivial⟩, trivial⟩ ?_
                              try simp (disch := omega) only [c2, s1, s3, rLn, rLg, rCe, rI_mul, nI_add, nI_1, nI_clamp, c663, pr_16_663, pr_8_40, pr_8_m20, pr_8_m4, pr_i_0, pr_i_1, pr_i_2, pr_i_3, pr_i_m1]
                              refine pr_csT [_, _, _] rfl rfl rfl rfl rfl (Nat.le_of_ble_eq_true rfl) (Nat.le_of_ble_eq_true rfl) (hB) ?_
                              refine pr_ifT rfl (fun h118 => ?_) (fun h118 => ?_)
                              · simp only [ab_cmp, pr_16_663, pr_8_40, pr_8_m20, pr_8_m4, pr_i_0, pr_i_1, pr_i_2, pr_i_3, pr_i_m1] at h118
                                exact absurd rfl h118
                              · simp only [ab_cmp, pr_16_663, pr_8_40, pr_8_m20, pr_8_m4, pr_i_0, pr_i_1, pr_i_2, pr_i_3, pr_i_m1] at h118
                                first
                                | contradiction
                                | exact absurd trivial h118
                                | exact absurd h118 (by decide)
                                | exact absurd (Classical.not_not.mp h118) (by decide)
                                | skip
                                  refine pr_seqT (pc' := 130) 4 rfl ⟨⟨⟨⟨trivial, trivial⟩, trivial⟩, trivial⟩, trivial⟩ ?_
                                  try simp (disch := omega) only [c2, s1, s3, rLn, rLg, rCe, rI_mul, nI_add, nI_1, nI_clamp, c663, pr_16_663, pr_8_40, pr_8_m20, pr_8_m4, pr_i_0, pr_i_1, pr_i_2, pr_i_3, pr_i_m1]
                                  refine pr_ifT rfl (fun h130 => ?_) (fun h130 => ?_)
                                  · simp only [ab_cmp, pr_16_663, pr_8_40, pr_8_m20, pr_8_m4, pr_i_0, pr_i_1, pr_i_2, pr_i_3, pr_i_m1] at h130
                                    first
                                    | contradiction
                                    | exact absurd trivial h130
                                    | exact absurd h130 (by decide)
                                    | exact absurd (Classical.not_not.mp h130) (by decide)
                                    | skip
                                      refine pr_seqT (pc' := 56) 2 rfl ⟨⟨trivial, trivial⟩, trivial⟩ ?_
                                      try simp (disch := omega) only [c2, s1, s3, rLn, rLg, rCe, rI_mul, nI_add, nI_1, nI_clamp, c663, pr_16_663, pr_8_40, pr_8_m20, pr_8_m4, pr_i_0, pr_i_1, pr_i_2, pr_i_3, pr_i_m1]
                                      exact o _ _
                                  · simp only [ab_cmp, pr_16_663, pr_8_40, pr_8_m20, pr_8_m4, pr_i_0, pr_i_1, pr_i_2, pr_i_3, pr_i_m1] at h130
                                    exact absurd (Classical.not_not.mp h130) o22
                          · simp only [ab_cmp, pr_16_663, pr_8_40, pr_8_m20, pr_8_m4, pr_i_0, pr_i_1, pr_i_2, pr_i_3, pr_i_m1] at h92
                            exact absurd ca h92
                      · simp only [ab_cmp, pr_16_663, pr_8_40, pr_8_m20, pr_8_m4, pr_i_0, pr_i_1, pr_i_2, pr_i_3, pr_i_m1] at h78
                        exact absurd (Classical.not_not.mp h78) e4
            | true =>
              rw [cB] at hB hFd
              have hF0 : rdF (X.2.2.1 k) as f t = 0 := hFd
              rcases pr_ix (f + nI (2 * t)) (show sz ≤ 1000000 by omega) with q | ⟨m, hm, em, -⟩
              · rw [show ixb (f + nI (2 * t)) sz = false from q] at cA; cases cA
              · have em1 : f + nI (2 * t + 1) = nI (m + 1) := by rw [← nI_1, ← Int32.add_assoc, em, nI_1]
                have hm1 : m + 1 < sz := by
                  rcases pr_ix (f + nI (2 * t + 1)) (show sz ≤ 1000000 by omega) with q | ⟨m', hm', em', -⟩
                  · rw [show ixb (f + nI (2 * t + 1)) sz = false from q] at cB; cases cB
                  · rw [em1] at em'
                    have := (nI_eq (by omega) (by omega)).mp em'
                    omega
                have rA : rdA (X.2.2.1 k) f t = cf m := by rw [co]; show cf (f + 2 * nI t).toNatClampNeg = _; rw [f2i, em, nI_clamp (by omega)]
                have rB : rdB (X.2.2.1 k) f t = cf (m + 1) := by rw [co]; show cf (f + 2 * nI t + 1).toNatClampNeg = _; rw [f2j, em1, nI_clamp (by omega)]
                have ec : nI (40 * k) + f + nI (2 * t + 1) = nI (40 * k + (m + 1)) := by rw [Int32.add_assoc, em1, nI_add]
                have ec1 : nI (40 * k + (m + 1)) - 1 = nI (40 * k + m) := nI_pred _
                have vA : I 187 (40 * k + m) = cf m := s5 m (by omega)
                have vB : I 187 (40 * k + (m + 1)) = cf (m + 1) := s5 (m + 1) (by omega)
                have hG : rdG (X.2.2.1 k) f t = (pr_in (cf m) 0 25 && pr_in (cf (m + 1)) 0 40) := by unfold rdG; rw [rA, rB]
                cases cG : (pr_in (cf m) 0 25 && pr_in (cf (m + 1)) 0 40) with
                | false =>
                  have hL := q_letterIs0 (cf m) (cf (m + 1)) h (I, M.2) cG
                  have hRS : rdS (X.2.2.1 k) as f (d + 1) t = (0, t, true) := by
                    show (if rdF (X.2.2.1 k) as f t = 0 then (if rdG (X.2.2.1 k) f t then _ else _) else _) = _
                    rw [if_pos hF0, hG, cG]; rfl
                  rw [hRS]
                  have hcb := q_copies (f := 663) (t := 0) h (I, M.2) hl (by decide) (by decide) (by decide)
                  rw [show cpy (I, M.2).1 663 0 221 = cpy M.1 0 663 221 from cpy_back2 f1 f2] at hcb
                  have m1 : ¬ (0 : Int32) ≤ -1 := by decide
                  show pr_T pX11_read 56 _ [] h (I, M.2) (rp M (-20 - nI t, X))
                  refine pr_seqT (pc' := 62) 4 rfl ⟨⟨⟨⟨trivial, trivial⟩, trivial⟩, trivial⟩, trivial⟩ ?_
                  try simp (disch := omega) only [c2, c40, s1, s3, nI_div, i_sub, od, ec, ec1, vA, vB, rLn, rLg, rCe, rI_mul, nI_add, nI_1, nI_clamp, c663, pr_16_663, pr_8_40, pr_8_m20, pr_8_m4, pr_i_0, pr_i_1, pr_i_2, pr_i_3, pr_i_m1]
                  refine pr_icT rfl (fun h62 => ?_) (fun h62 => ?_)
                  · simp only [ab_cmp, pr_16_663, pr_8_40, pr_8_m20, pr_8_m4, pr_i_0, pr_i_1, pr_i_2, pr_i_3, pr_i_m1] at h62
                    exact absurd h62 e1'
                  · simp only [ab_cmp, pr_16_663, pr_8_40, pr_8_m20, pr_8_m4, pr_i_0, pr_i_1, pr_i_2, pr_i_3, pr_i_m1] at h62
                    first
                    | contradiction
                    | exact absurd trivial h62
                    | exact absurd h62 (by decide)
                    | exact absurd (Classical.not_not.mp h62) (by decide)
                    | skip
                      refine pr_seqT (pc' := 67) 1 rfl ⟨trivial, trivial⟩ ?_
                      try simp (disch := omega) only [c2, c40, s1, s3, nI_div, i_sub, od, ec, ec1, vA, vB, rLn, rLg, rCe, rI_mul, nI_add, nI_1, nI_clamp, c663, pr_16_663, pr_8_40, pr_8_m20, pr_8_m4, pr_i_0, pr_i_1, pr_i_2, pr_i_3, pr_i_m1]
                      refine pr_ifT rfl (fun h67 => ?_) (fun h67 => ?_)
                      · simp only [ab_cmp, pr_16_663, pr_8_40, pr_8_m20, pr_8_m4, pr_i_0, pr_i_1, pr_i_2, pr_i_3, pr_i_m1] at h67
                        exact absurd rfl h67
                      · simp only [ab_cmp, pr_16_663, pr_8_40, pr_8_m20, pr_8_m4, pr_i_0, pr_i_1, pr_i_2, pr_i_3, pr_i_m1] at h67
                        first
                        | contradiction
                        | exact absurd trivial h67
                        | exact absurd h67 (by decide)
                        | exact absurd (Classical.not_not.mp h67) (by decide)
                        | skip
                          refine pr_seqT (pc' := 78) 5 rfl ⟨⟨⟨⟨⟨trivial, (by first | decide | assumption)⟩, (by assumption)⟩, trivial⟩, (by (try simp (disch := omega) only [c2, c40, s1, s3, nI_div, i_sub, od, ec, ec1, vA, vB, rLn, rLg, rCe, rI_mul, nI_add, nI_1, nI_clamp, c663, pr_16_663, pr_8_40, pr_8_m20, pr_8_m4, pr_i_0, pr_i_1, pr_i_2, pr_i_3, pr_i_m1]); exact ⟨Or.inl (by assumption), rvin (by assumption) (by omega) (by decide)⟩)⟩, trivial⟩ ?_
                          try simp (disch := omega) only [c2, c40, s1, s3, nI_div, i_sub, od, ec, ec1, vA, vB, rLn, rLg, rCe, rI_mul, nI_add, nI_1, nI_clamp, c663, pr_16_663, pr_8_40, pr_8_m20, pr_8_m4, pr_i_0, pr_i_1, pr_i_2, pr_i_3, pr_i_m1]
                          refine pr_icT rfl (fun h78 => ?_) (fun h78 => ?_)
                          · simp only [ab_cmp, pr_16_663, pr_8_40, pr_8_m20, pr_8_m4, pr_i_0, pr_i_1, pr_i_2, pr_i_3, pr_i_m1] at h78
                            first
                            | contradiction
                            | exact absurd trivial h78
                            | exact absurd h78 (by decide)
                            | exact absurd (Classical.not_not.mp h78) (by decide)
                            | skip
                              refine pr_seqT (pc' := 92) 5 rfl ⟨⟨⟨⟨⟨trivial, (by first | decide | assumption)⟩, (by assumption)⟩, trivial⟩, (by (try simp (disch := omega) only [c2, c40, s1, s3, nI_div, i_sub, od, ec, ec1, vA, vB, rLn, rLg, rCe, rI_mul, nI_add, nI_1, nI_clamp, c663, pr_16_663, pr_8_40, pr_8_m20, pr_8_m4, pr_i_0, pr_i_1, pr_i_2, pr_i_3, pr_i_m1]); exact ⟨Or.inl (by assumption), rvin (by assumption) (by omega) (by decide)⟩)⟩, trivial⟩ ?_
                              try simp (disch := omega) only [c2, c40, s1, s3, nI_div, i_sub, od, ec, ec1, vA, vB, rLn, rLg, rCe, rI_mul, nI_add, nI_1, nI_clamp, c663, pr_16_663, pr_8_40, pr_8_m20, pr_8_m4, pr_i_0, pr_i_1, pr_i_2, pr_i_3, pr_i_m1]
                              refine pr_icT rfl (fun h92 => ?_) (fun h92 => ?_)
                              · simp only [ab_cmp, pr_16_663, pr_8_40, pr_8_m20, pr_8_m4, pr_i_0, pr_i_1, pr_i_2, pr_i_3, pr_i_m1] at h92
                                first
                                | contradiction
                                | exact absurd trivial h92
                                | exact absurd h92 (by decide)
                                | exact absurd (Classical.not_not.mp h92) (by decide)
                                | skip
                                  refine pr_seqT (pc' := 115) 13 rfl ⟨⟨⟨⟨⟨⟨⟨⟨⟨⟨⟨⟨⟨trivial, trivial⟩, trivial⟩, trivial⟩, trivial⟩, trivial⟩, trivial⟩, (by first | decide | assumption)⟩, (by assumption)⟩, trivial⟩, (by (try simp (disch := omega) only [c2, c40, s1, s3, nI_div, i_sub, od, ec, ec1, vA, vB, rLn, rLg, rCe, rI_mul, nI_add, nI_1, nI_clamp, c663, pr_16_663, pr_8_40, pr_8_m20, pr_8_m4, pr_i_0, pr_i_1, pr_i_2, pr_i_3, pr_i_m1]); exact ⟨Or.inl (by assumption), rvin (by assumption) (by omega) (by decide)⟩)⟩, trivial⟩, trivial⟩, trivial⟩ ?_
                                  try simp (disch := omega) only [c2, c40, s1, s3, nI_div, i_sub, od, ec, ec1, vA, vB, rLn, rLg, rCe, rI_mul, nI_add, nI_1, nI_clamp, c663, pr_16_663, pr_8_40, pr_8_m20, pr_8_m4, pr_i_0, pr_i_1, pr_i_2, pr_i_3, pr_i_m1]
                                  refine pr_csT [_, _, _] rfl rfl rfl rfl rfl (Nat.le_of_ble_eq_true rfl) (Nat.le_of_ble_eq_true rfl) (hB) ?_
                                  refine pr_ifT rfl (fun h118 => ?_) (fun h118 => ?_)
                                  · simp only [ab_cmp, pr_16_663, pr_8_40, pr_8_m20, pr_8_m4, pr_i_0, pr_i_1, pr_i_2, pr_i_3, pr_i_m1] at h118
                                    first
                                    | contradiction
                                    | exact absurd trivial h118
                                    | exact absurd h118 (by decide)
                                    | exact absurd (Classical.not_not.mp h118) (by decide)
                                    | skip
                                      refine pr_seqT (pc' := 130) 3 rfl ⟨⟨⟨trivial, trivial⟩, trivial⟩, trivial⟩ ?_
                                      try simp (disch := omega) only [c2, c40, s1, s3, nI_div, i_sub, od, ec, ec1, vA, vB, rLn, rLg, rCe, rI_mul, nI_add, nI_1, nI_clamp, c663, pr_16_663, pr_8_40, pr_8_m20, pr_8_m4, pr_i_0, pr_i_1, pr_i_2, pr_i_3, pr_i_m1]
                                      refine pr_ifT rfl (fun h130 => ?_) (fun h130 => ?_)
                                      · simp only [ab_cmp, pr_16_663, pr_8_40, pr_8_m20, pr_8_m4, pr_i_0, pr_i_1, pr_i_2, pr_i_3, pr_i_m1] at h130
                                        exact absurd trivial h130
                                      · simp only [ab_cmp, pr_16_663, pr_8_40, pr_8_m20, pr_8_m4, pr_i_0, pr_i_1, pr_i_2, pr_i_3, pr_i_m1] at h130
                                        first
                                        | contradiction
                                        | exact absurd trivial h130
                                        | exact absurd h130 (by decide)
                                        | exact absurd (Classical.not_not.mp h130) (by decide)
                                        | skip
                                          refine pr_seqT (pc' := 138) 4 rfl ⟨⟨⟨⟨trivial, trivial⟩, trivial⟩, (by first | assumption | decide | (simp (disch := omega) only [c2, c40, s1, s3, nI_div, i_sub, od, ec, ec1, vA, vB, rLn, rLg, rCe, rI_mul, nI_add, nI_1, nI_clamp, c663, pr_16_663, pr_8_40, pr_8_m20, pr_8_m4, pr_i_0, pr_i_1, pr_i_2, pr_i_3, pr_i_m1]; first | assumption | exact ⟨Or.inl (by assumption), rvin (by assumption) (by omega) (by decide)⟩ | exact ⟨by assumption, rvin (by assumption) (by omega) (by decide)⟩ | exact ⟨⟨by omega, by omega⟩, rvin (by assumption) (by omega) (by decide)⟩ | exact ⟨Or.inr (by assumption), rvin (by assumption) (by omega) (by decide)⟩ | exact ⟨Or.inr ⟨by assumption, (by first | exact Or.inl rfl | exact Or.inr rfl | exact pr_b01 _)⟩, rvin (by assumption) (by omega) (by decide)⟩ | exact ⟨by assumption, by assumption⟩ | decide | omega))⟩, trivial⟩ ?_
                                          try simp (disch := omega) only [c2, c40, s1, s3, nI_div, i_sub, od, ec, ec1, vA, vB, rLn, rLg, rCe, rI_mul, nI_add, nI_1, nI_clamp, c663, pr_16_663, pr_8_40, pr_8_m20, pr_8_m4, pr_i_0, pr_i_1, pr_i_2, pr_i_3, pr_i_m1]
                                          refine pr_icT rfl (fun h138 => ?_) (fun h138 => ?_)
                                          · simp only [ab_cmp, pr_16_663, pr_8_40, pr_8_m20, pr_8_m4, pr_i_0, pr_i_1, pr_i_2, pr_i_3, pr_i_m1] at h138
                                            exact absurd o1 h138
                                          · simp only [ab_cmp, pr_16_663, pr_8_40, pr_8_m20, pr_8_m4, pr_i_0, pr_i_1, pr_i_2, pr_i_3, pr_i_m1] at h138
                                            first
                                            | contradiction
                                            | exact absurd trivial h138
                                            | exact absurd h138 (by decide)
                                            | exact absurd (Classical.not_not.mp h138) (by decide)
                                            | skip
                                              refine pr_seqT (pc' := 169) 19 rfl ⟨⟨⟨⟨⟨⟨⟨⟨⟨⟨⟨⟨⟨⟨⟨⟨⟨⟨⟨trivial, trivial⟩, trivial⟩, trivial⟩, trivial⟩, trivial⟩, trivial⟩, trivial⟩, trivial⟩, (by first | decide | assumption)⟩, (by first | decide | assumption)⟩, (by assumption)⟩, trivial⟩, trivial⟩, trivial⟩, (by (try simp (disch := omega) only [c2, c40, s1, s3, nI_div, i_sub, od, ec, ec1, vA, vB, rLn, rLg, rCe, rI_mul, nI_add, nI_1, nI_clamp, c663, pr_16_663, pr_8_40, pr_8_m20, pr_8_m4, pr_i_0, pr_i_1, pr_i_2, pr_i_3, pr_i_m1]); exact ⟨Or.inl (by assumption), rvin (by assumption) (by omega) (by decide)⟩)⟩, (by first | decide | assumption)⟩, (by assumption)⟩, trivial⟩, (by (try simp (disch := omega) only [c2, c40, s1, s3, nI_div, i_sub, od, ec, ec1, vA, vB, rLn, rLg, rCe, rI_mul, nI_add, nI_1, nI_clamp, c663, pr_16_663, pr_8_40, pr_8_m20, pr_8_m4, pr_i_0, pr_i_1, pr_i_2, pr_i_3, pr_i_m1]); exact ⟨Or.inl (by assumption), rvin (by assumption) (by omega) (by decide)⟩)⟩ ?_
                                              try simp (disch := omega) only [c2, c40, s1, s3, nI_div, i_sub, od, ec, ec1, vA, vB, rLn, rLg, rCe, rI_mul, nI_add, nI_1, nI_clamp, c663, pr_16_663, pr_8_40, pr_8_m20, pr_8_m4, pr_i_0, pr_i_1, pr_i_2, pr_i_3, pr_i_m1]
                                              refine pr_cvT [_, _] rfl rfl rfl rfl rfl (Nat.le_of_ble_eq_true rfl) (by first | assumption | decide | (simp (disch := omega) only [c2, c40, s1, s3, nI_div, i_sub, od, ec, ec1, vA, vB, rLn, rLg, rCe, rI_mul, nI_add, nI_1, nI_clamp, c663, pr_16_663, pr_8_40, pr_8_m20, pr_8_m4, pr_i_0, pr_i_1, pr_i_2, pr_i_3, pr_i_m1]; first | assumption | exact ⟨Or.inl (by assumption), rvin (by assumption) (by omega) (by decide)⟩ | exact ⟨by assumption, rvin (by assumption) (by omega) (by decide)⟩ | exact ⟨⟨by omega, by omega⟩, rvin (by assumption) (by omega) (by decide)⟩ | exact ⟨Or.inr (by assumption), rvin (by assumption) (by omega) (by decide)⟩ | exact ⟨Or.inr ⟨by assumption, (by first | exact Or.inl rfl | exact Or.inr rfl | exact pr_b01 _)⟩, rvin (by assumption) (by omega) (by decide)⟩ | exact ⟨by assumption, by assumption⟩ | decide | omega)) (Nat.le_of_ble_eq_true rfl) (hL) ?_
                                              refine pr_ifT rfl (fun h172 => ?_) (fun h172 => ?_)
                                              · simp only [ab_cmp, pr_16_663, pr_8_40, pr_8_m20, pr_8_m4, pr_i_0, pr_i_1, pr_i_2, pr_i_3, pr_i_m1] at h172
                                                exact absurd h172 m1
                                              · simp only [ab_cmp, pr_16_663, pr_8_40, pr_8_m20, pr_8_m4, pr_i_0, pr_i_1, pr_i_2, pr_i_3, pr_i_m1] at h172
                                                first
                                                | contradiction
                                                | exact absurd trivial h172
                                                | exact absurd h172 (by decide)
                                                | exact absurd (Classical.not_not.mp h172) (by decide)
                                                | skip
                                                  refine pr_seqT (pc' := 180) 3 rfl ⟨⟨⟨trivial, (by first | decide | assumption)⟩, trivial⟩, trivial⟩ ?_
                                                  try simp (disch := omega) only [c2, c40, s1, s3, nI_div, i_sub, od, ec, ec1, vA, vB, rLn, rLg, rCe, rI_mul, nI_add, nI_1, nI_clamp, c663, pr_16_663, pr_8_40, pr_8_m20, pr_8_m4, pr_i_0, pr_i_1, pr_i_2, pr_i_3, pr_i_m1]
                                                  refine pr_cvT [_, _] rfl rfl rfl rfl rfl (Nat.le_of_ble_eq_true rfl) (by first | assumption | decide | (simp (disch := omega) only [c2, c40, s1, s3, nI_div, i_sub, od, ec, ec1, vA, vB, rLn, rLg, rCe, rI_mul, nI_add, nI_1, nI_clamp, c663, pr_16_663, pr_8_40, pr_8_m20, pr_8_m4, pr_i_0, pr_i_1, pr_i_2, pr_i_3, pr_i_m1]; first | assumption | exact ⟨Or.inl (by assumption), rvin (by assumption) (by omega) (by decide)⟩ | exact ⟨by assumption, rvin (by assumption) (by omega) (by decide)⟩ | exact ⟨⟨by omega, by omega⟩, rvin (by assumption) (by omega) (by decide)⟩ | exact ⟨Or.inr (by assumption), rvin (by assumption) (by omega) (by decide)⟩ | exact ⟨Or.inr ⟨by assumption, (by first | exact Or.inl rfl | exact Or.inr rfl | exact pr_b01 _)⟩, rvin (by assumption) (by omega) (by decide)⟩ | exact ⟨by assumption, by assumption⟩ | decide | omega)) (Nat.le_of_ble_eq_true rfl) (hcb) ?_
                                                  refine pr_seqT (pc' := 188) 3 rfl ⟨⟨⟨trivial, trivial⟩, trivial⟩, trivial⟩ ?_
                                                  try simp (disch := omega) only [c2, c40, s1, s3, nI_div, i_sub, od, ec, ec1, vA, vB, rLn, rLg, rCe, rI_mul, nI_add, nI_1, nI_clamp, c663, pr_16_663, pr_8_40, pr_8_m20, pr_8_m4, pr_i_0, pr_i_1, pr_i_2, pr_i_3, pr_i_m1]
                                                  exact pr_irT rfl trivial (by exact rp_I (rv_aside hv) (fun a ha => cpy_ne (by omega)))
                                  · simp only [ab_cmp, pr_16_663, pr_8_40, pr_8_m20, pr_8_m4, pr_i_0, pr_i_1, pr_i_2, pr_i_3, pr_i_m1] at h118
                                    exact absurd (Classical.not_not.mp h118) (by decide)
                              · simp only [ab_cmp, pr_16_663, pr_8_40, pr_8_m20, pr_8_m4, pr_i_0, pr_i_1, pr_i_2, pr_i_3, pr_i_m1] at h92
                                exact absurd ca h92
                          · simp only [ab_cmp, pr_16_663, pr_8_40, pr_8_m20, pr_8_m4, pr_i_0, pr_i_1, pr_i_2, pr_i_3, pr_i_m1] at h78
                            exact absurd (Classical.not_not.mp h78) e4
                | true =>
                  rw [Bool.and_eq_true] at cG
                  obtain ⟨cG1, cG2⟩ := cG
                  rcases pr_rg (cf m) 25 25 rfl (by decide) with q | ⟨l, hl26, el, -⟩
                  · rw [q] at cG1; cases cG1
                  · rcases pr_rg (cf (m + 1)) 40 40 rfl (by decide) with q | ⟨v, hv40, ev', -⟩
                    · rw [q] at cG2; cases cG2
                    · have hL := q_letterIs1 (l := l) (v := v) h (I, M.2) hl f3.1 (by omega) hv40
                      rw [← el, ← ev'] at hL
                      have hRS : rdS (X.2.2.1 k) as f (d + 1) t = rdS (X.2.2.1 k) as f d (t + 1) := by
                        show (if rdF (X.2.2.1 k) as f t = 0 then (if rdG (X.2.2.1 k) f t then _ else _) else _) = _
                        rw [if_pos hF0, hG, cG1, cG2]; rfl
                      rw [hRS]
                      have hX : rdL (X.2.2.1 k) f (t + 1) X = wLd (rdL (X.2.2.1 k) f t X) (va_up (rdL (X.2.2.1 k) f t X).1.1.1 l v, (rdL (X.2.2.1 k) f t X).1.1.2) := by
                        show (f_letter (rdL (X.2.2.1 k) f t X) (rdA (X.2.2.1 k) f t) (rdB (X.2.2.1 k) f t)).2 = _
                        rw [rA, rB]
                        unfold f_letter
                        rw [cG1, cG2, if_pos (show (true && true) = true from rfl), el, ev', nI_clamp (by omega), nI_clamp (by omega)]
                      have hrv : rv (ab_u I 173 (193 + l) (cf (m + 1) - cf m - 1)) (rdL (X.2.2.1 k) f (t + 1) X) := by
                        rw [hX, el, ev']
                        exact rv_land f3 (fun a a1 a2 _ _ => ab_u_ne a2) (by rw [ab_u_r]; exact pg_letter f3.1 (by omega) hv40) (fun i i1 i2 => by rw [ab_u_j (by omega)])
                      have hw0 : 0 ≤ nI ((rdL (X.2.2.1 k) f t X).1.1.1 l) := nI_pos' (by have := (f3.1.2.2.2.2.2.2.1 l (by omega)).2; omega)
                      have hh := ih (t + 1) (by omega) (ab_u I 173 (193 + l) (cf (m + 1) - cf m - 1)) (some (.int (nI (40 * k + (m + 1))))) ⟨fun a ha => by rw [ab_u_ne ha]; exact f1 a ha, fun j hj => by rw [ab_u_j (by omega)]; exact f2 j hj, hrv⟩
                      rw [show 2 * (t + 1) = 2 * t + 1 + 1 by omega] at hh
                      refine pr_seqT (pc' := 62) 4 rfl ⟨⟨⟨⟨trivial, trivial⟩, trivial⟩, trivial⟩, trivial⟩ ?_
                      try simp (disch := omega) only [c2, c40, s1, s3, nI_div, i_sub, od, ec, ec1, vA, vB, rLn, rLg, rCe, rI_mul, nI_add, nI_1, nI_clamp, c663, pr_16_663, pr_8_40, pr_8_m20, pr_8_m4, pr_i_0, pr_i_1, pr_i_2, pr_i_3, pr_i_m1]
                      refine pr_icT rfl (fun h62 => ?_) (fun h62 => ?_)
                      · simp only [ab_cmp, pr_16_663, pr_8_40, pr_8_m20, pr_8_m4, pr_i_0, pr_i_1, pr_i_2, pr_i_3, pr_i_m1] at h62
                        exact absurd h62 e1'
                      · simp only [ab_cmp, pr_16_663, pr_8_40, pr_8_m20, pr_8_m4, pr_i_0, pr_i_1, pr_i_2, pr_i_3, pr_i_m1] at h62
                        first
                        | contradiction
                        | exact absurd trivial h62
                        | exact absurd h62 (by decide)
                        | exact absurd (Classical.not_not.mp h62) (by decide)
                        | skip
                          refine pr_seqT (pc' := 67) 1 rfl ⟨trivial, trivial⟩ ?_
                          try simp (disch := omega) only [c2, c40, s1, s3, nI_div, i_sub, od, ec, ec1, vA, vB, rLn, rLg, rCe, rI_mul, nI_add, nI_1, nI_clamp, c663, pr_16_663, pr_8_40, pr_8_m20, pr_8_m4, pr_i_0, pr_i_1, pr_i_2, pr_i_3, pr_i_m1]
                          refine pr_ifT rfl (fun h67 => ?_) (fun h67 => ?_)
                          · simp only [ab_cmp, pr_16_663, pr_8_40, pr_8_m20, pr_8_m4, pr_i_0, pr_i_1, pr_i_2, pr_i_3, pr_i_m1] at h67
                            exact absurd rfl h67
                          · simp only [ab_cmp, pr_16_663, pr_8_40, pr_8_m20, pr_8_m4, pr_i_0, pr_i_1, pr_i_2, pr_i_3, pr_i_m1] at h67
                            first
                            | contradiction
                            | exact absurd trivial h67
                            | exact absurd h67 (by decide)
                            | exact absurd (Classical.not_not.mp h67) (by decide)
                            | skip
                              refine pr_seqT (pc' := 78) 5 rfl ⟨⟨⟨⟨⟨trivial, (by first | decide | assumption)⟩, (by assumption)⟩, trivial⟩, (by (try simp (disch := omega) only [c2, c40, s1, s3, nI_div, i_sub, od, ec, ec1, vA, vB, rLn, rLg, rCe, rI_mul, nI_add, nI_1, nI_clamp, c663, pr_16_663, pr_8_40, pr_8_m20, pr_8_m4, pr_i_0, pr_i_1, pr_i_2, pr_i_3, pr_i_m1]); exact ⟨Or.inl (by assumption), rvin (by assumption) (by omega) (by decide)⟩)⟩, trivial⟩ ?_
                              try simp (disch := omega) only [c2, c40, s1, s3, nI_div, i_sub, od, ec, ec1, vA, vB, rLn, rLg, rCe, rI_mul, nI_add, nI_1, nI_clamp, c663, pr_16_663, pr_8_40, pr_8_m20, pr_8_m4, pr_i_0, pr_i_1, pr_i_2, pr_i_3, pr_i_m1]
                              refine pr_icT rfl (fun h78 => ?_) (fun h78 => ?_)
                              · simp only [ab_cmp, pr_16_663, pr_8_40, pr_8_m20, pr_8_m4, pr_i_0, pr_i_1, pr_i_2, pr_i_3, pr_i_m1] at h78
                                first
                                | contradiction
                                | exact absurd trivial h78
                                | exact absurd h78 (by decide)
                                | exact absurd (Classical.not_not.mp h78) (by decide)
                                | skip
                                  refine pr_seqT (pc' := 92) 5 rfl ⟨⟨⟨⟨⟨trivial, (by first | decide | assumption)⟩, (by assumption)⟩, trivial⟩, (by (try simp (disch := omega) only [c2, c40, s1, s3, nI_div, i_sub, od, ec, ec1, vA, vB, rLn, rLg, rCe, rI_mul, nI_add, nI_1, nI_clamp, c663, pr_16_663, pr_8_40, pr_8_m20, pr_8_m4, pr_i_0, pr_i_1, pr_i_2, pr_i_3, pr_i_m1]); exact ⟨Or.inl (by assumption), rvin (by assumption) (by omega) (by decide)⟩)⟩, trivial⟩ ?_
                                  try simp (disch := omega) only [c2, c40, s1, s3, nI_div, i_sub, od, ec, ec1, vA, vB, rLn, rLg, rCe, rI_mul, nI_add, nI_1, nI_clamp, c663, pr_16_663, pr_8_40, pr_8_m20, pr_8_m4, pr_i_0, pr_i_1, pr_i_2, pr_i_3, pr_i_m1]
                                  refine pr_icT rfl (fun h92 => ?_) (fun h92 => ?_)
                                  · simp only [ab_cmp, pr_16_663, pr_8_40, pr_8_m20, pr_8_m4, pr_i_0, pr_i_1, pr_i_2, pr_i_3, pr_i_m1] at h92
                                    first
                                    | contradiction
                                    | exact absurd trivial h92
                                    | exact absurd h92 (by decide)
                                    | exact absurd (Classical.not_not.mp h92) (by decide)
                                    | skip
                                      refine pr_seqT (pc' := 115) 13 rfl ⟨⟨⟨⟨⟨⟨⟨⟨⟨⟨⟨⟨⟨trivial, trivial⟩, trivial⟩, trivial⟩, trivial⟩, trivial⟩, trivial⟩, (by first | decide | assumption)⟩, (by assumption)⟩, trivial⟩, (by (try simp (disch := omega) only [c2, c40, s1, s3, nI_div, i_sub, od, ec, ec1, vA, vB, rLn, rLg, rCe, rI_mul, nI_add, nI_1, nI_clamp, c663, pr_16_663, pr_8_40, pr_8_m20, pr_8_m4, pr_i_0, pr_i_1, pr_i_2, pr_i_3, pr_i_m1]); exact ⟨Or.inl (by assumption), rvin (by assumption) (by omega) (by decide)⟩)⟩, trivial⟩, trivial⟩, trivial⟩ ?_
                                      try simp (disch := omega) only [c2, c40, s1, s3, nI_div, i_sub, od, ec, ec1, vA, vB, rLn, rLg, rCe, rI_mul, nI_add, nI_1, nI_clamp, c663, pr_16_663, pr_8_40, pr_8_m20, pr_8_m4, pr_i_0, pr_i_1, pr_i_2, pr_i_3, pr_i_m1]
                                      refine pr_csT [_, _, _] rfl rfl rfl rfl rfl (Nat.le_of_ble_eq_true rfl) (Nat.le_of_ble_eq_true rfl) (hB) ?_
                                      refine pr_ifT rfl (fun h118 => ?_) (fun h118 => ?_)
                                      · simp only [ab_cmp, pr_16_663, pr_8_40, pr_8_m20, pr_8_m4, pr_i_0, pr_i_1, pr_i_2, pr_i_3, pr_i_m1] at h118
                                        first
                                        | contradiction
                                        | exact absurd trivial h118
                                        | exact absurd h118 (by decide)
                                        | exact absurd (Classical.not_not.mp h118) (by decide)
                                        | skip
                                          refine pr_seqT (pc' := 130) 3 rfl ⟨⟨⟨trivial, trivial⟩, trivial⟩, trivial⟩ ?_
                                          try simp (disch := omega) only [c2, c40, s1, s3, nI_div, i_sub, od, ec, ec1, vA, vB, rLn, rLg, rCe, rI_mul, nI_add, nI_1, nI_clamp, c663, pr_16_663, pr_8_40, pr_8_m20, pr_8_m4, pr_i_0, pr_i_1, pr_i_2, pr_i_3, pr_i_m1]
                                          refine pr_ifT rfl (fun h130 => ?_) (fun h130 => ?_)
                                          · simp only [ab_cmp, pr_16_663, pr_8_40, pr_8_m20, pr_8_m4, pr_i_0, pr_i_1, pr_i_2, pr_i_3, pr_i_m1] at h130
                                            exact absurd trivial h130
                                          · simp only [ab_cmp, pr_16_663, pr_8_40, pr_8_m20, pr_8_m4, pr_i_0, pr_i_1, pr_i_2, pr_i_3, pr_i_m1] at h130
                                            first
                                            | contradiction
                                            | exact absurd trivial h130
                                            | exact absurd h130 (by decide)
                                            | exact absurd (Classical.not_not.mp h130) (by decide)
                                            | skip
                                              refine pr_seqT (pc' := 138) 4 rfl ⟨⟨⟨⟨trivial, trivial⟩, trivial⟩, (by first | assumption | decide | (simp (disch := omega) only [c2, c40, s1, s3, nI_div, i_sub, od, ec, ec1, vA, vB, rLn, rLg, rCe, rI_mul, nI_add, nI_1, nI_clamp, c663, pr_16_663, pr_8_40, pr_8_m20, pr_8_m4, pr_i_0, pr_i_1, pr_i_2, pr_i_3, pr_i_m1]; first | assumption | exact ⟨Or.inl (by assumption), rvin (by assumption) (by omega) (by decide)⟩ | exact ⟨by assumption, rvin (by assumption) (by omega) (by decide)⟩ | exact ⟨⟨by omega, by omega⟩, rvin (by assumption) (by omega) (by decide)⟩ | exact ⟨Or.inr (by assumption), rvin (by assumption) (by omega) (by decide)⟩ | exact ⟨Or.inr ⟨by assumption, (by first | exact Or.inl rfl | exact Or.inr rfl | exact pr_b01 _)⟩, rvin (by assumption) (by omega) (by decide)⟩ | exact ⟨by assumption, by assumption⟩ | decide | omega))⟩, trivial⟩ ?_
                                              try simp (disch := omega) only [c2, c40, s1, s3, nI_div, i_sub, od, ec, ec1, vA, vB, rLn, rLg, rCe, rI_mul, nI_add, nI_1, nI_clamp, c663, pr_16_663, pr_8_40, pr_8_m20, pr_8_m4, pr_i_0, pr_i_1, pr_i_2, pr_i_3, pr_i_m1]
                                              refine pr_icT rfl (fun h138 => ?_) (fun h138 => ?_)
                                              · simp only [ab_cmp, pr_16_663, pr_8_40, pr_8_m20, pr_8_m4, pr_i_0, pr_i_1, pr_i_2, pr_i_3, pr_i_m1] at h138
                                                exact absurd o1 h138
                                              · simp only [ab_cmp, pr_16_663, pr_8_40, pr_8_m20, pr_8_m4, pr_i_0, pr_i_1, pr_i_2, pr_i_3, pr_i_m1] at h138
                                                first
                                                | contradiction
                                                | exact absurd trivial h138
                                                | exact absurd h138 (by decide)
                                                | exact absurd (Classical.not_not.mp h138) (by decide)
                                                | skip
                                                  refine pr_seqT (pc' := 169) 19 rfl ⟨⟨⟨⟨⟨⟨⟨⟨⟨⟨⟨⟨⟨⟨⟨⟨⟨⟨⟨trivial, trivial⟩, trivial⟩, trivial⟩, trivial⟩, trivial⟩, trivial⟩, trivial⟩, trivial⟩, (by first | decide | assumption)⟩, (by first | decide | assumption)⟩, (by assumption)⟩, trivial⟩, trivial⟩, trivial⟩, (by (try simp (disch := omega) only [c2, c40, s1, s3, nI_div, i_sub, od, ec, ec1, vA, vB, rLn, rLg, rCe, rI_mul, nI_add, nI_1, nI_clamp, c663, pr_16_663, pr_8_40, pr_8_m20, pr_8_m4, pr_i_0, pr_i_1, pr_i_2, pr_i_3, pr_i_m1]); exact ⟨Or.inl (by assumption), rvin (by assumption) (by omega) (by decide)⟩)⟩, (by first | decide | assumption)⟩, (by assumption)⟩, trivial⟩, (by (try simp (disch := omega) only [c2, c40, s1, s3, nI_div, i_sub, od, ec, ec1, vA, vB, rLn, rLg, rCe, rI_mul, nI_add, nI_1, nI_clamp, c663, pr_16_663, pr_8_40, pr_8_m20, pr_8_m4, pr_i_0, pr_i_1, pr_i_2, pr_i_3, pr_i_m1]); exact ⟨Or.inl (by assumption), rvin (by assumption) (by omega) (by decide)⟩)⟩ ?_
                                                  try simp (disch := omega) only [c2, c40, s1, s3, nI_div, i_sub, od, ec, ec1, vA, vB, rLn, rLg, rCe, rI_mul, nI_add, nI_1, nI_clamp, c663, pr_16_663, pr_8_40, pr_8_m20, pr_8_m4, pr_i_0, pr_i_1, pr_i_2, pr_i_3, pr_i_m1]
                                                  refine pr_cvT [_, _] rfl rfl rfl rfl rfl (Nat.le_of_ble_eq_true rfl) (by first | assumption | decide | (simp (disch := omega) only [c2, c40, s1, s3, nI_div, i_sub, od, ec, ec1, vA, vB, rLn, rLg, rCe, rI_mul, nI_add, nI_1, nI_clamp, c663, pr_16_663, pr_8_40, pr_8_m20, pr_8_m4, pr_i_0, pr_i_1, pr_i_2, pr_i_3, pr_i_m1]; first | assumption | exact ⟨Or.inl (by assumption), rvin (by assumption) (by omega) (by decide)⟩ | exact ⟨by assumption, rvin (by assumption) (by omega) (by decide)⟩ | exact ⟨⟨by omega, by omega⟩, rvin (by assumption) (by omega) (by decide)⟩ | exact ⟨Or.inr (by assumption), rvin (by assumption) (by omega) (by decide)⟩ | exact ⟨Or.inr ⟨by assumption, (by first | exact Or.inl rfl | exact Or.inr rfl | exact pr_b01 _)⟩, rvin (by assumption) (by omega) (by decide)⟩ | exact ⟨by assumption, by assumption⟩ | decide | omega)) (Nat.le_of_ble_eq_true rfl) (hL) ?_
                                                  refine pr_ifT rfl (fun h172 => ?_) (fun h172 => ?_)
                                                  · simp only [ab_cmp, pr_16_663, pr_8_40, pr_8_m20, pr_8_m4, pr_i_0, pr_i_1, pr_i_2, pr_i_3, pr_i_m1] at h172
                                                    first
                                                    | contradiction
                                                    | exact absurd trivial h172
                                                    | exact absurd h172 (by decide)
                                                    | exact absurd (Classical.not_not.mp h172) (by decide)
                                                    | skip
                                                      refine pr_seqT (pc' := 56) 3 rfl ⟨⟨⟨trivial, trivial⟩, trivial⟩, trivial⟩ ?_
                                                      try simp (disch := omega) only [c2, c40, s1, s3, nI_div, i_sub, od, ec, ec1, vA, vB, rLn, rLg, rCe, rI_mul, nI_add, nI_1, nI_clamp, c663, pr_16_663, pr_8_40, pr_8_m20, pr_8_m4, pr_i_0, pr_i_1, pr_i_2, pr_i_3, pr_i_m1]
                                                      exact hh
                                                  · simp only [ab_cmp, pr_16_663, pr_8_40, pr_8_m20, pr_8_m4, pr_i_0, pr_i_1, pr_i_2, pr_i_3, pr_i_m1] at h172
                                                    exact absurd hw0 h172
                                      · simp only [ab_cmp, pr_16_663, pr_8_40, pr_8_m20, pr_8_m4, pr_i_0, pr_i_1, pr_i_2, pr_i_3, pr_i_m1] at h118
                                        exact absurd (Classical.not_not.mp h118) (by decide)
                                  · simp only [ab_cmp, pr_16_663, pr_8_40, pr_8_m20, pr_8_m4, pr_i_0, pr_i_1, pr_i_2, pr_i_3, pr_i_m1] at h92
                                    exact absurd ca h92
                              · simp only [ab_cmp, pr_16_663, pr_8_40, pr_8_m20, pr_8_m4, pr_i_0, pr_i_1, pr_i_2, pr_i_3, pr_i_m1] at h78
                                exact absurd (Classical.not_not.mp h78) e4
          rw [co] at odd
          refine pr_seqT (pc' := 62) 4 rfl ⟨⟨⟨⟨trivial, trivial⟩, trivial⟩, trivial⟩, trivial⟩ ?_
          try simp (disch := omega) only [c2, s1, s3, nI_div, i_sub, ev, rLn, rLg, rCe, rI_mul, nI_add, nI_1, nI_clamp, c663, pr_16_663, pr_8_40, pr_8_m20, pr_8_m4, pr_i_0, pr_i_1, pr_i_2, pr_i_3, pr_i_m1]
          refine pr_icT rfl (fun h62 => ?_) (fun h62 => ?_)
          · simp only [ab_cmp, pr_16_663, pr_8_40, pr_8_m20, pr_8_m4, pr_i_0, pr_i_1, pr_i_2, pr_i_3, pr_i_m1] at h62
            exact absurd h62 e1
          · simp only [ab_cmp, pr_16_663, pr_8_40, pr_8_m20, pr_8_m4, pr_i_0, pr_i_1, pr_i_2, pr_i_3, pr_i_m1] at h62
            first
            | contradiction
            | exact absurd trivial h62
            | exact absurd h62 (by decide)
            | exact absurd (Classical.not_not.mp h62) (by decide)
            | skip
              refine pr_seqT (pc' := 67) 1 rfl ⟨trivial, trivial⟩ ?_
              try simp (disch := omega) only [c2, s1, s3, nI_div, i_sub, ev, rLn, rLg, rCe, rI_mul, nI_add, nI_1, nI_clamp, c663, pr_16_663, pr_8_40, pr_8_m20, pr_8_m4, pr_i_0, pr_i_1, pr_i_2, pr_i_3, pr_i_m1]
              refine pr_ifT rfl (fun h67 => ?_) (fun h67 => ?_)
              · simp only [ab_cmp, pr_16_663, pr_8_40, pr_8_m20, pr_8_m4, pr_i_0, pr_i_1, pr_i_2, pr_i_3, pr_i_m1] at h67
                exact absurd rfl h67
              · simp only [ab_cmp, pr_16_663, pr_8_40, pr_8_m20, pr_8_m4, pr_i_0, pr_i_1, pr_i_2, pr_i_3, pr_i_m1] at h67
                first
                | contradiction
                | exact absurd trivial h67
                | exact absurd h67 (by decide)
                | exact absurd (Classical.not_not.mp h67) (by decide)
                | skip
                  refine pr_seqT (pc' := 78) 5 rfl ⟨⟨⟨⟨⟨trivial, (by first | decide | assumption)⟩, (by assumption)⟩, trivial⟩, (by (try simp (disch := omega) only [c2, s1, s3, nI_div, i_sub, ev, rLn, rLg, rCe, rI_mul, nI_add, nI_1, nI_clamp, c663, pr_16_663, pr_8_40, pr_8_m20, pr_8_m4, pr_i_0, pr_i_1, pr_i_2, pr_i_3, pr_i_m1]); exact ⟨Or.inl (by assumption), rvin (by assumption) (by omega) (by decide)⟩)⟩, trivial⟩ ?_
                  try simp (disch := omega) only [c2, s1, s3, nI_div, i_sub, ev, rLn, rLg, rCe, rI_mul, nI_add, nI_1, nI_clamp, c663, pr_16_663, pr_8_40, pr_8_m20, pr_8_m4, pr_i_0, pr_i_1, pr_i_2, pr_i_3, pr_i_m1]
                  refine pr_icT rfl (fun h78 => ?_) (fun h78 => ?_)
                  · simp only [ab_cmp, pr_16_663, pr_8_40, pr_8_m20, pr_8_m4, pr_i_0, pr_i_1, pr_i_2, pr_i_3, pr_i_m1] at h78
                    first
                    | contradiction
                    | exact absurd trivial h78
                    | exact absurd h78 (by decide)
                    | exact absurd (Classical.not_not.mp h78) (by decide)
                    | skip
                      refine pr_seqT (pc' := 92) 5 rfl ⟨⟨⟨⟨⟨trivial, (by first | decide | assumption)⟩, (by assumption)⟩, trivial⟩, (by (try simp (disch := omega) only [c2, s1, s3, nI_div, i_sub, ev, rLn, rLg, rCe, rI_mul, nI_add, nI_1, nI_clamp, c663, pr_16_663, pr_8_40, pr_8_m20, pr_8_m4, pr_i_0, pr_i_1, pr_i_2, pr_i_3, pr_i_m1]); exact ⟨Or.inl (by assumption), rvin (by assumption) (by omega) (by decide)⟩)⟩, trivial⟩ ?_
                      try simp (disch := omega) only [c2, s1, s3, nI_div, i_sub, ev, rLn, rLg, rCe, rI_mul, nI_add, nI_1, nI_clamp, c663, pr_16_663, pr_8_40, pr_8_m20, pr_8_m4, pr_i_0, pr_i_1, pr_i_2, pr_i_3, pr_i_m1]
                      refine pr_icT rfl (fun h92 => ?_) (fun h92 => ?_)
                      · simp only [ab_cmp, pr_16_663, pr_8_40, pr_8_m20, pr_8_m4, pr_i_0, pr_i_1, pr_i_2, pr_i_3, pr_i_m1] at h92
                        first
                        | contradiction
                        | exact absurd trivial h92
                        | exact absurd h92 (by decide)
                        | exact absurd (Classical.not_not.mp h92) (by decide)
                        | skip
                          refine pr_seqT (pc' := 115) 13 rfl ⟨⟨⟨⟨⟨⟨⟨⟨⟨⟨⟨⟨⟨trivial, trivial⟩, trivial⟩, trivial⟩, trivial⟩, trivial⟩, trivial⟩, (by first | decide | assumption)⟩, (by assumption)⟩, trivial⟩, (by (try simp (disch := omega) only [c2, s1, s3, nI_div, i_sub, ev, rLn, rLg, rCe, rI_mul, nI_add, nI_1, nI_clamp, c663, pr_16_663, pr_8_40, pr_8_m20, pr_8_m4, pr_i_0, pr_i_1, pr_i_2, pr_i_3, pr_i_m1]); exact ⟨Or.inl (by assumption), rvin (by assumption) (by omega) (by decide)⟩)⟩, trivial⟩, trivial⟩, trivial⟩ ?_
                          try simp (disch := omega) only [c2, s1, s3, nI_div, i_sub, ev, rLn, rLg, rCe, rI_mul, nI_add, nI_1, nI_clamp, c663, pr_16_663, pr_8_40, pr_8_m20, pr_8_m4, pr_i_0, pr_i_1, pr_i_2, pr_i_3, pr_i_m1]
                          refine pr_csT [_, _, _] rfl rfl rfl rfl rfl (Nat.le_of_ble_eq_true rfl) (Nat.le_of_ble_eq_true rfl) (hA) ?_
                          refine pr_ifT rfl (fun h118 => ?_) (fun h118 => ?_)
                          · simp only [ab_cmp, pr_16_663, pr_8_40, pr_8_m20, pr_8_m4, pr_i_0, pr_i_1, pr_i_2, pr_i_3, pr_i_m1] at h118
                            first
                            | contradiction
                            | exact absurd trivial h118
                            | exact absurd h118 (by decide)
                            | exact absurd (Classical.not_not.mp h118) (by decide)
                            | skip
                              refine pr_seqT (pc' := 130) 3 rfl ⟨⟨⟨trivial, trivial⟩, trivial⟩, trivial⟩ ?_
                              try simp (disch := omega) only [c2, s1, s3, nI_div, i_sub, ev, rLn, rLg, rCe, rI_mul, nI_add, nI_1, nI_clamp, c663, pr_16_663, pr_8_40, pr_8_m20, pr_8_m4, pr_i_0, pr_i_1, pr_i_2, pr_i_3, pr_i_m1]
                              refine pr_ifT rfl (fun h130 => ?_) (fun h130 => ?_)
                              · simp only [ab_cmp, pr_16_663, pr_8_40, pr_8_m20, pr_8_m4, pr_i_0, pr_i_1, pr_i_2, pr_i_3, pr_i_m1] at h130
                                exact absurd trivial h130
                              · simp only [ab_cmp, pr_16_663, pr_8_40, pr_8_m20, pr_8_m4, pr_i_0, pr_i_1, pr_i_2, pr_i_3, pr_i_m1] at h130
                                first
                                | contradiction
                                | exact absurd trivial h130
                                | exact absurd h130 (by decide)
                                | exact absurd (Classical.not_not.mp h130) (by decide)
                                | skip
                                  refine pr_seqT (pc' := 138) 4 rfl ⟨⟨⟨⟨trivial, trivial⟩, trivial⟩, (by first | assumption | decide | (simp (disch := omega) only [c2, s1, s3, nI_div, i_sub, ev, rLn, rLg, rCe, rI_mul, nI_add, nI_1, nI_clamp, c663, pr_16_663, pr_8_40, pr_8_m20, pr_8_m4, pr_i_0, pr_i_1, pr_i_2, pr_i_3, pr_i_m1]; first | assumption | exact ⟨Or.inl (by assumption), rvin (by assumption) (by omega) (by decide)⟩ | exact ⟨by assumption, rvin (by assumption) (by omega) (by decide)⟩ | exact ⟨⟨by omega, by omega⟩, rvin (by assumption) (by omega) (by decide)⟩ | exact ⟨Or.inr (by assumption), rvin (by assumption) (by omega) (by decide)⟩ | exact ⟨Or.inr ⟨by assumption, (by first | exact Or.inl rfl | exact Or.inr rfl | exact pr_b01 _)⟩, rvin (by assumption) (by omega) (by decide)⟩ | exact ⟨by assumption, by assumption⟩ | decide | omega))⟩, trivial⟩ ?_
                                  try simp (disch := omega) only [c2, s1, s3, nI_div, i_sub, ev, rLn, rLg, rCe, rI_mul, nI_add, nI_1, nI_clamp, c663, pr_16_663, pr_8_40, pr_8_m20, pr_8_m4, pr_i_0, pr_i_1, pr_i_2, pr_i_3, pr_i_m1]
                                  refine pr_icT rfl (fun h138 => ?_) (fun h138 => ?_)
                                  · simp only [ab_cmp, pr_16_663, pr_8_40, pr_8_m20, pr_8_m4, pr_i_0, pr_i_1, pr_i_2, pr_i_3, pr_i_m1] at h138
                                    first
                                    | contradiction
                                    | exact absurd trivial h138
                                    | exact absurd h138 (by decide)
                                    | exact absurd (Classical.not_not.mp h138) (by decide)
                                    | skip
                                      refine pr_seqT (pc' := 56) 2 rfl ⟨⟨trivial, trivial⟩, trivial⟩ ?_
                                      try simp (disch := omega) only [c2, s1, s3, nI_div, i_sub, ev, rLn, rLg, rCe, rI_mul, nI_add, nI_1, nI_clamp, c663, pr_16_663, pr_8_40, pr_8_m20, pr_8_m4, pr_i_0, pr_i_1, pr_i_2, pr_i_3, pr_i_m1]
                                      exact odd _
                                  · simp only [ab_cmp, pr_16_663, pr_8_40, pr_8_m20, pr_8_m4, pr_i_0, pr_i_1, pr_i_2, pr_i_3, pr_i_m1] at h138
                                    exact absurd (Classical.not_not.mp h138) o0
                          · simp only [ab_cmp, pr_16_663, pr_8_40, pr_8_m20, pr_8_m4, pr_i_0, pr_i_1, pr_i_2, pr_i_3, pr_i_m1] at h118
                            exact absurd (Classical.not_not.mp h118) (by decide)
                      · simp only [ab_cmp, pr_16_663, pr_8_40, pr_8_m20, pr_8_m4, pr_i_0, pr_i_1, pr_i_2, pr_i_3, pr_i_m1] at h92
                        exact absurd ca h92
                  · simp only [ab_cmp, pr_16_663, pr_8_40, pr_8_m20, pr_8_m4, pr_i_0, pr_i_1, pr_i_2, pr_i_3, pr_i_m1] at h78
                    exact absurd (Classical.not_not.mp h78) e4
      · have hF : rdF (X.2.2.1 k) as f t = 3 := by rw [co]; show (if nI ln = as then _ else 3) = 3; rw [if_neg ca]
        have o := out 3 (by decide) (by decide) hF
        rw [co] at o
        have o33 : ¬ nI 3 = 0 := by decide
        refine pr_seqT (pc' := 62) 4 rfl ⟨⟨⟨⟨trivial, trivial⟩, trivial⟩, trivial⟩, trivial⟩ ?_
        try simp (disch := omega) only [c2, c3, s1, s3, rLn, rLg, rCe, rI_mul, nI_add, nI_1, nI_clamp, c663, pr_16_663, pr_8_40, pr_8_m20, pr_8_m4, pr_i_0, pr_i_1, pr_i_2, pr_i_3, pr_i_m1]
        refine pr_icT rfl (fun h62 => ?_) (fun h62 => ?_)
        · simp only [ab_cmp, pr_16_663, pr_8_40, pr_8_m20, pr_8_m4, pr_i_0, pr_i_1, pr_i_2, pr_i_3, pr_i_m1] at h62
          exact absurd h62 e1
        · simp only [ab_cmp, pr_16_663, pr_8_40, pr_8_m20, pr_8_m4, pr_i_0, pr_i_1, pr_i_2, pr_i_3, pr_i_m1] at h62
          first
          | contradiction
          | exact absurd trivial h62
          | exact absurd h62 (by decide)
          | exact absurd (Classical.not_not.mp h62) (by decide)
          | skip
            refine pr_seqT (pc' := 67) 1 rfl ⟨trivial, trivial⟩ ?_
            try simp (disch := omega) only [c2, c3, s1, s3, rLn, rLg, rCe, rI_mul, nI_add, nI_1, nI_clamp, c663, pr_16_663, pr_8_40, pr_8_m20, pr_8_m4, pr_i_0, pr_i_1, pr_i_2, pr_i_3, pr_i_m1]
            refine pr_ifT rfl (fun h67 => ?_) (fun h67 => ?_)
            · simp only [ab_cmp, pr_16_663, pr_8_40, pr_8_m20, pr_8_m4, pr_i_0, pr_i_1, pr_i_2, pr_i_3, pr_i_m1] at h67
              exact absurd rfl h67
            · simp only [ab_cmp, pr_16_663, pr_8_40, pr_8_m20, pr_8_m4, pr_i_0, pr_i_1, pr_i_2, pr_i_3, pr_i_m1] at h67
              first
              | contradiction
              | exact absurd trivial h67
              | exact absurd h67 (by decide)
              | exact absurd (Classical.not_not.mp h67) (by decide)
              | skip
                refine pr_seqT (pc' := 78) 5 rfl ⟨⟨⟨⟨⟨trivial, (by first | decide | assumption)⟩, (by assumption)⟩, trivial⟩, (by (try simp (disch := omega) only [c2, c3, s1, s3, rLn, rLg, rCe, rI_mul, nI_add, nI_1, nI_clamp, c663, pr_16_663, pr_8_40, pr_8_m20, pr_8_m4, pr_i_0, pr_i_1, pr_i_2, pr_i_3, pr_i_m1]); exact ⟨Or.inl (by assumption), rvin (by assumption) (by omega) (by decide)⟩)⟩, trivial⟩ ?_
                try simp (disch := omega) only [c2, c3, s1, s3, rLn, rLg, rCe, rI_mul, nI_add, nI_1, nI_clamp, c663, pr_16_663, pr_8_40, pr_8_m20, pr_8_m4, pr_i_0, pr_i_1, pr_i_2, pr_i_3, pr_i_m1]
                refine pr_icT rfl (fun h78 => ?_) (fun h78 => ?_)
                · simp only [ab_cmp, pr_16_663, pr_8_40, pr_8_m20, pr_8_m4, pr_i_0, pr_i_1, pr_i_2, pr_i_3, pr_i_m1] at h78
                  first
                  | contradiction
                  | exact absurd trivial h78
                  | exact absurd h78 (by decide)
                  | exact absurd (Classical.not_not.mp h78) (by decide)
                  | skip
                    refine pr_seqT (pc' := 92) 5 rfl ⟨⟨⟨⟨⟨trivial, (by first | decide | assumption)⟩, (by assumption)⟩, trivial⟩, (by (try simp (disch := omega) only [c2, c3, s1, s3, rLn, rLg, rCe, rI_mul, nI_add, nI_1, nI_clamp, c663, pr_16_663, pr_8_40, pr_8_m20, pr_8_m4, pr_i_0, pr_i_1, pr_i_2, pr_i_3, pr_i_m1]); exact ⟨Or.inl (by assumption), rvin (by assumption) (by omega) (by decide)⟩)⟩, trivial⟩ ?_
                    try simp (disch := omega) only [c2, c3, s1, s3, rLn, rLg, rCe, rI_mul, nI_add, nI_1, nI_clamp, c663, pr_16_663, pr_8_40, pr_8_m20, pr_8_m4, pr_i_0, pr_i_1, pr_i_2, pr_i_3, pr_i_m1]
                    refine pr_icT rfl (fun h92 => ?_) (fun h92 => ?_)
                    · simp only [ab_cmp, pr_16_663, pr_8_40, pr_8_m20, pr_8_m4, pr_i_0, pr_i_1, pr_i_2, pr_i_3, pr_i_m1] at h92
                      exact absurd h92 ca
                    · simp only [ab_cmp, pr_16_663, pr_8_40, pr_8_m20, pr_8_m4, pr_i_0, pr_i_1, pr_i_2, pr_i_3, pr_i_m1] at h92
                      first
                      | contradiction
                      | exact absurd trivial h92
                      | exact absurd h92 (by decide)
                      | exact absurd (Classical.not_not.mp h92) (by decide)
                      | skip
                        refine pr_seqT (pc' := 130) 4 rfl ⟨⟨⟨⟨trivial, trivial⟩, trivial⟩, trivial⟩, trivial⟩ ?_
                        try simp (disch := omega) only [c2, c3, s1, s3, rLn, rLg, rCe, rI_mul, nI_add, nI_1, nI_clamp, c663, pr_16_663, pr_8_40, pr_8_m20, pr_8_m4, pr_i_0, pr_i_1, pr_i_2, pr_i_3, pr_i_m1]
                        refine pr_ifT rfl (fun h130 => ?_) (fun h130 => ?_)
                        · simp only [ab_cmp, pr_16_663, pr_8_40, pr_8_m20, pr_8_m4, pr_i_0, pr_i_1, pr_i_2, pr_i_3, pr_i_m1] at h130
                          first
                          | contradiction
                          | exact absurd trivial h130
                          | exact absurd h130 (by decide)
                          | exact absurd (Classical.not_not.mp h130) (by decide)
                          | skip
                            refine pr_seqT (pc' := 56) 2 rfl ⟨⟨trivial, trivial⟩, trivial⟩ ?_
                            try simp (disch := omega) only [c2, c3, s1, s3, rLn, rLg, rCe, rI_mul, nI_add, nI_1, nI_clamp, c663, pr_16_663, pr_8_40, pr_8_m20, pr_8_m4, pr_i_0, pr_i_1, pr_i_2, pr_i_3, pr_i_m1]
                            exact o _ _
                        · simp only [ab_cmp, pr_16_663, pr_8_40, pr_8_m20, pr_8_m4, pr_i_0, pr_i_1, pr_i_2, pr_i_3, pr_i_m1] at h130
                          exact absurd (Classical.not_not.mp h130) o33
                · simp only [ab_cmp, pr_16_663, pr_8_40, pr_8_m20, pr_8_m4, pr_i_0, pr_i_1, pr_i_2, pr_i_3, pr_i_m1] at h78
                  exact absurd (Classical.not_not.mp h78) e4
theorem r_read {X : St} (x y f z : Int32) (h : ab_H) (M : ab_M) (hl : rL h M.2.2) (hv : rv M.1 X) : pr_X pX11_read [.ref 172, .int x, .int y, .int f, .int z] h M (rp M (f_read X x y f z)) := by
  obtain ⟨k172, rS, rLs, rKn, rPg, rRl, rRk, rTp, rCu, rLe, rLt, rSm, rIk, rLn, rLg, rCe, ⟨kS, nS⟩, ⟨kLs, nLs⟩, ⟨kKn, nKn⟩, ⟨kPg, nPg⟩, ⟨kRl, nRl⟩, ⟨kRk, nRk⟩, ⟨kTp, nTp⟩, ⟨kCu, nCu⟩, ⟨kLe, nLe⟩, ⟨kLt, nLt⟩, ⟨kSm, nSm⟩, ⟨kIk, nIk⟩, ⟨kLn, nLn⟩, ⟨kLg, nLg⟩, kCe, nCe⟩ := id hl
  have h1 := q_in (a := x.toInt64) (b := Int64.ofNat 0) (c := Int64.ofNat 3) x 0 3 h M rfl rfl rfl
  have h2 := q_in (a := y.toInt64) (b := Int64.ofNat 0) (c := Int64.ofNat 2) y 0 2 h M rfl rfl rfl
  have h3 := q_in (a := z.toInt64) (b := Int64.ofNat 0) (c := Int64.ofNat 20) z 0 20 h M rfl rfl rfl
  unfold f_read
  rcases pr_rg x 3 3 rfl (by decide) with q | ⟨k, hk, rfl, q⟩
  · rw [q] at h1 ⊢
    refine pr_ofC ?_ (rp_s hv)
    refine pr_seq (pc' := 6) 4 rfl ⟨⟨⟨⟨trivial, trivial⟩, trivial⟩, trivial⟩, trivial⟩ ?_
    refine pr_cs [_, _, _] rfl rfl rfl rfl rfl (Nat.le_of_ble_eq_true rfl) (Nat.le_of_ble_eq_true rfl) (h1) ?_
    refine pr_if rfl (fun h9 => ?_) (fun h9 => ?_)
    · simp only [ab_cmp, pr_16_663, pr_8_40, pr_8_m20, pr_8_m4, pr_i_0, pr_i_1, pr_i_2, pr_i_3, pr_i_m1] at h9
      first
      | contradiction
      | exact absurd trivial h9
      | exact absurd h9 (by decide)
      | exact absurd (Classical.not_not.mp h9) (by decide)
      | skip
        refine pr_seq (pc' := 38) 1 rfl ⟨trivial, trivial⟩ ?_
        exact pr_irM rfl (by first | rfl | (simp [pr_b, pr_16_663, pr_8_40, pr_8_m20, pr_8_m4, pr_i_0, pr_i_1, pr_i_2, pr_i_3, pr_i_m1, *]; done) | (simp_all [pr_b, pr_16_663, pr_8_40, pr_8_m20, pr_8_m4, pr_i_0, pr_i_1, pr_i_2, pr_i_3, pr_i_m1]; done)) trivial (by rfl)
    · simp only [ab_cmp, pr_16_663, pr_8_40, pr_8_m20, pr_8_m4, pr_i_0, pr_i_1, pr_i_2, pr_i_3, pr_i_m1] at h9
      exact absurd rfl h9
  · rw [q] at h1 ⊢
    cases q2 : pr_in y 0 2 with
    | false =>
      rw [q2] at h2
      refine pr_ofC ?_ (rp_s hv)
      refine pr_seq (pc' := 6) 4 rfl ⟨⟨⟨⟨trivial, trivial⟩, trivial⟩, trivial⟩, trivial⟩ ?_
      refine pr_cs [_, _, _] rfl rfl rfl rfl rfl (Nat.le_of_ble_eq_true rfl) (Nat.le_of_ble_eq_true rfl) (h1) ?_
      refine pr_if rfl (fun h9 => ?_) (fun h9 => ?_)
      · simp only [ab_cmp, pr_16_663, pr_8_40, pr_8_m20, pr_8_m4, pr_i_0, pr_i_1, pr_i_2, pr_i_3, pr_i_m1] at h9
        exact absurd h9 (by decide)
      · simp only [ab_cmp, pr_16_663, pr_8_40, pr_8_m20, pr_8_m4, pr_i_0, pr_i_1, pr_i_2, pr_i_3, pr_i_m1] at h9
        first
        | contradiction
        | exact absurd trivial h9
        | exact absurd h9 (by decide)
        | exact absurd (Classical.not_not.mp h9) (by decide)
        | skip
          refine pr_seq (pc' := 18) 4 rfl ⟨⟨⟨⟨trivial, trivial⟩, trivial⟩, trivial⟩, trivial⟩ ?_
          refine pr_cs [_, _, _] rfl rfl rfl rfl rfl (Nat.le_of_ble_eq_true rfl) (Nat.le_of_ble_eq_true rfl) (h2) ?_
          refine pr_if rfl (fun h21 => ?_) (fun h21 => ?_)
          · simp only [ab_cmp, pr_16_663, pr_8_40, pr_8_m20, pr_8_m4, pr_i_0, pr_i_1, pr_i_2, pr_i_3, pr_i_m1] at h21
            first
            | contradiction
            | exact absurd trivial h21
            | exact absurd h21 (by decide)
            | exact absurd (Classical.not_not.mp h21) (by decide)
            | skip
              refine pr_seq (pc' := 38) 1 rfl ⟨trivial, trivial⟩ ?_
              exact pr_irM rfl (by first | rfl | (simp [pr_b, pr_16_663, pr_8_40, pr_8_m20, pr_8_m4, pr_i_0, pr_i_1, pr_i_2, pr_i_3, pr_i_m1, *]; done) | (simp_all [pr_b, pr_16_663, pr_8_40, pr_8_m20, pr_8_m4, pr_i_0, pr_i_1, pr_i_2, pr_i_3, pr_i_m1]; done)) trivial (by rfl)
          · simp only [ab_cmp, pr_16_663, pr_8_40, pr_8_m20, pr_8_m4, pr_i_0, pr_i_1, pr_i_2, pr_i_3, pr_i_m1] at h21
            exact absurd rfl h21
    | true =>
      rw [q2] at h2
      rcases pr_rg z 20 20 rfl (by decide) with q3 | ⟨n, hn, rfl, q3⟩
      · rw [q3] at h3 ⊢
        refine pr_ofC ?_ (rp_s hv)
        refine pr_seq (pc' := 6) 4 rfl ⟨⟨⟨⟨trivial, trivial⟩, trivial⟩, trivial⟩, trivial⟩ ?_
        refine pr_cs [_, _, _] rfl rfl rfl rfl rfl (Nat.le_of_ble_eq_true rfl) (Nat.le_of_ble_eq_true rfl) (h1) ?_
        refine pr_if rfl (fun h9 => ?_) (fun h9 => ?_)
        · simp only [ab_cmp, pr_16_663, pr_8_40, pr_8_m20, pr_8_m4, pr_i_0, pr_i_1, pr_i_2, pr_i_3, pr_i_m1] at h9
          exact absurd h9 (by decide)
        · simp only [ab_cmp, pr_16_663, pr_8_40, pr_8_m20, pr_8_m4, pr_i_0, pr_i_1, pr_i_2, pr_i_3, pr_i_m1] at h9
          first
          | contradiction
          | exact absurd trivial h9
          | exact absurd h9 (by decide)
          | exact absurd (Classical.not_not.mp h9) (by decide)
          | skip
            refine pr_seq (pc' := 18) 4 rfl ⟨⟨⟨⟨trivial, trivial⟩, trivial⟩, trivial⟩, trivial⟩ ?_
            refine pr_cs [_, _, _] rfl rfl rfl rfl rfl (Nat.le_of_ble_eq_true rfl) (Nat.le_of_ble_eq_true rfl) (h2) ?_
            refine pr_if rfl (fun h21 => ?_) (fun h21 => ?_)
            · simp only [ab_cmp, pr_16_663, pr_8_40, pr_8_m20, pr_8_m4, pr_i_0, pr_i_1, pr_i_2, pr_i_3, pr_i_m1] at h21
              exact absurd h21 (by decide)
            · simp only [ab_cmp, pr_16_663, pr_8_40, pr_8_m20, pr_8_m4, pr_i_0, pr_i_1, pr_i_2, pr_i_3, pr_i_m1] at h21
              first
              | contradiction
              | exact absurd trivial h21
              | exact absurd h21 (by decide)
              | exact absurd (Classical.not_not.mp h21) (by decide)
              | skip
                refine pr_seq (pc' := 31) 4 rfl ⟨⟨⟨⟨trivial, trivial⟩, trivial⟩, trivial⟩, trivial⟩ ?_
                refine pr_cs [_, _, _] rfl rfl rfl rfl rfl (Nat.le_of_ble_eq_true rfl) (Nat.le_of_ble_eq_true rfl) (h3) ?_
                refine pr_if rfl (fun h34 => ?_) (fun h34 => ?_)
                · simp only [ab_cmp, pr_16_663, pr_8_40, pr_8_m20, pr_8_m4, pr_i_0, pr_i_1, pr_i_2, pr_i_3, pr_i_m1] at h34
                  exact absurd rfl h34
                · simp only [ab_cmp, pr_16_663, pr_8_40, pr_8_m20, pr_8_m4, pr_i_0, pr_i_1, pr_i_2, pr_i_3, pr_i_m1] at h34
                  first
                  | contradiction
                  | exact absurd trivial h34
                  | exact absurd h34 (by decide)
                  | exact absurd (Classical.not_not.mp h34) (by decide)
                  | skip
                    refine pr_seq (pc' := 38) 1 rfl ⟨trivial, trivial⟩ ?_
                    exact pr_irM rfl (by first | rfl | (simp [pr_b, pr_16_663, pr_8_40, pr_8_m20, pr_8_m4, pr_i_0, pr_i_1, pr_i_2, pr_i_3, pr_i_m1, *]; done) | (simp_all [pr_b, pr_16_663, pr_8_40, pr_8_m20, pr_8_m4, pr_i_0, pr_i_1, pr_i_2, pr_i_3, pr_i_m1]; done)) trivial (by rfl)
      · rw [q3] at h3 ⊢
        rw [if_pos (show (true && true && true) = true from rfl), nI_clamp (by omega), nI_clamp (by omega)]
        have hcp := q_copies (f := 0) (t := 663) h M hl (by decide) (by decide) (by decide)
        have h0 := r_read2 (k := k) (as := y) (f := f) h M hl (by omega) hn hv n 0 (by omega) (cpy M.1 0 663 221) none ⟨fun _ _ => rfl, fun _ _ => rfl, rv_aside hv⟩
        refine pr_seqT (pc' := 6) 4 rfl ⟨⟨⟨⟨trivial, trivial⟩, trivial⟩, trivial⟩, trivial⟩ ?_
        try simp (disch := omega) only [rLn, rLg, rCe, rI_mul, nI_add, nI_1, nI_clamp, c663, pr_16_663, pr_8_40, pr_8_m20, pr_8_m4, pr_i_0, pr_i_1, pr_i_2, pr_i_3, pr_i_m1]
        refine pr_csT [_, _, _] rfl rfl rfl rfl rfl (Nat.le_of_ble_eq_true rfl) (Nat.le_of_ble_eq_true rfl) (h1) ?_
        refine pr_ifT rfl (fun h9 => ?_) (fun h9 => ?_)
        · simp only [ab_cmp, pr_16_663, pr_8_40, pr_8_m20, pr_8_m4, pr_i_0, pr_i_1, pr_i_2, pr_i_3, pr_i_m1] at h9
          exact absurd h9 (by decide)
        · simp only [ab_cmp, pr_16_663, pr_8_40, pr_8_m20, pr_8_m4, pr_i_0, pr_i_1, pr_i_2, pr_i_3, pr_i_m1] at h9
          first
          | contradiction
          | exact absurd trivial h9
          | exact absurd h9 (by decide)
          | exact absurd (Classical.not_not.mp h9) (by decide)
          | skip
            refine pr_seqT (pc' := 18) 4 rfl ⟨⟨⟨⟨trivial, trivial⟩, trivial⟩, trivial⟩, trivial⟩ ?_
            try simp (disch := omega) only [rLn, rLg, rCe, rI_mul, nI_add, nI_1, nI_clamp, c663, pr_16_663, pr_8_40, pr_8_m20, pr_8_m4, pr_i_0, pr_i_1, pr_i_2, pr_i_3, pr_i_m1]
            refine pr_csT [_, _, _] rfl rfl rfl rfl rfl (Nat.le_of_ble_eq_true rfl) (Nat.le_of_ble_eq_true rfl) (h2) ?_
            refine pr_ifT rfl (fun h21 => ?_) (fun h21 => ?_)
            · simp only [ab_cmp, pr_16_663, pr_8_40, pr_8_m20, pr_8_m4, pr_i_0, pr_i_1, pr_i_2, pr_i_3, pr_i_m1] at h21
              exact absurd h21 (by decide)
            · simp only [ab_cmp, pr_16_663, pr_8_40, pr_8_m20, pr_8_m4, pr_i_0, pr_i_1, pr_i_2, pr_i_3, pr_i_m1] at h21
              first
              | contradiction
              | exact absurd trivial h21
              | exact absurd h21 (by decide)
              | exact absurd (Classical.not_not.mp h21) (by decide)
              | skip
                refine pr_seqT (pc' := 31) 4 rfl ⟨⟨⟨⟨trivial, trivial⟩, trivial⟩, trivial⟩, trivial⟩ ?_
                try simp (disch := omega) only [rLn, rLg, rCe, rI_mul, nI_add, nI_1, nI_clamp, c663, pr_16_663, pr_8_40, pr_8_m20, pr_8_m4, pr_i_0, pr_i_1, pr_i_2, pr_i_3, pr_i_m1]
                refine pr_csT [_, _, _] rfl rfl rfl rfl rfl (Nat.le_of_ble_eq_true rfl) (Nat.le_of_ble_eq_true rfl) (h3) ?_
                refine pr_ifT rfl (fun h34 => ?_) (fun h34 => ?_)
                · simp only [ab_cmp, pr_16_663, pr_8_40, pr_8_m20, pr_8_m4, pr_i_0, pr_i_1, pr_i_2, pr_i_3, pr_i_m1] at h34
                  first
                  | contradiction
                  | exact absurd trivial h34
                  | exact absurd h34 (by decide)
                  | exact absurd (Classical.not_not.mp h34) (by decide)
                  | skip
                    refine pr_seqT (pc' := 44) 3 rfl ⟨⟨⟨trivial, (by first | decide | assumption)⟩, trivial⟩, trivial⟩ ?_
                    try simp (disch := omega) only [rLn, rLg, rCe, rI_mul, nI_add, nI_1, nI_clamp, c663, pr_16_663, pr_8_40, pr_8_m20, pr_8_m4, pr_i_0, pr_i_1, pr_i_2, pr_i_3, pr_i_m1]
                    refine pr_cvT [_, _] rfl rfl rfl rfl rfl (Nat.le_of_ble_eq_true rfl) (by first | assumption | decide | (simp (disch := omega) only [rLn, rLg, rCe, rI_mul, nI_add, nI_1, nI_clamp, c663, pr_16_663, pr_8_40, pr_8_m20, pr_8_m4, pr_i_0, pr_i_1, pr_i_2, pr_i_3, pr_i_m1]; first | assumption | exact ⟨Or.inl (by assumption), rvin (by assumption) (by omega) (by decide)⟩ | exact ⟨by assumption, rvin (by assumption) (by omega) (by decide)⟩ | exact ⟨⟨by omega, by omega⟩, rvin (by assumption) (by omega) (by decide)⟩ | exact ⟨Or.inr (by assumption), rvin (by assumption) (by omega) (by decide)⟩ | exact ⟨Or.inr ⟨by assumption, (by first | exact Or.inl rfl | exact Or.inr rfl | exact pr_b01 _)⟩, rvin (by assumption) (by omega) (by decide)⟩ | exact ⟨by assumption, by assumption⟩ | decide | omega)) (Nat.le_of_ble_eq_true rfl) (hcp) ?_
                    refine pr_seqT (pc' := 56) 6 rfl ⟨⟨⟨⟨⟨⟨trivial, trivial⟩, trivial⟩, trivial⟩, trivial⟩, trivial⟩, trivial⟩ ?_
                    try simp (disch := omega) only [rLn, rLg, rCe, rI_mul, nI_add, nI_1, nI_clamp, c663, pr_16_663, pr_8_40, pr_8_m20, pr_8_m4, pr_i_0, pr_i_1, pr_i_2, pr_i_3, pr_i_m1]
                    exact h0
                · simp only [ab_cmp, pr_16_663, pr_8_40, pr_8_m20, pr_8_m4, pr_i_0, pr_i_1, pr_i_2, pr_i_3, pr_i_m1] at h34
                  exact absurd (Classical.not_not.mp h34) (by decide)
