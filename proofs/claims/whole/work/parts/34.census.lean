/-! ===== Census, on ===== -/
theorem i32_wh (x a b w d : Int32) : x + a - b + (w - d) = x + (a + w) - (b + d) := by grind
/-- what a person is worth having -/
def a_wh (f : Nat → Bool) (Wl Dt : Nat → Nat) (n : Nat) : Int32 := nI 10000 + nI (mon f Wl n) - nI (mon f Dt n)
theorem c_worthHaving {c n p : Nat} {S : Nat → Int32} {K Dt Wl : Nat → Nat} (h : ab_H) (M : ab_M) (hc : pr_Cs h M.2.2 c) (hv : cs_v M.1 c n S K Dt Wl) (hp : p < n) : pr_C pX0_worthHaving [.ref c, .int (nI p)] h M (some (.int (a_wh (al S K p) Wl Dt n))) h M := by
  obtain ⟨c0, c1, r0, r1, r2, r3, r4, -, -, ⟨a1, a2⟩, ⟨b1, b2⟩, -⟩ := id hc
  obtain ⟨v1, v2, v3⟩ := id hv
  have loop : ∀ dd k, k + dd = n → pr_E pX0_worthHaving 6 [some (.ref c), some (.int (nI p)), some (.int (a_wh (al S K p) Wl Dt k)), some (.int (nI k))] [] h M (some (.int (a_wh (al S K p) Wl Dt n))) h M := by
    intro dd
    induction dd with
    | zero =>
      intro k hk
      obtain rfl : k = n := by omega
      have e1 : nI k ≤ nI k := nI_le (Nat.le_refl _) (by omega)
      refine pr_seq (pc' := 11) 3 rfl ⟨⟨⟨trivial, trivial⟩, (by first | assumption | decide | omega | exact ⟨Or.inl (by assumption), by assumption⟩ | exact ⟨by assumption, by assumption⟩ | (simp only [v1, pr_16_10000, pr_i_0, pr_i_1]; first | assumption | omega | exact ⟨by assumption, by assumption⟩ | exact ⟨Or.inl (by assumption), by assumption⟩))⟩, (by first | assumption | decide | omega | exact ⟨Or.inl (by assumption), by assumption⟩ | exact ⟨by assumption, by assumption⟩ | (simp only [v1, pr_16_10000, pr_i_0, pr_i_1]; first | assumption | omega | exact ⟨by assumption, by assumption⟩ | exact ⟨Or.inl (by assumption), by assumption⟩))⟩ ?_
      try simp only [v1, pr_16_10000, pr_i_0, pr_i_1]
      refine pr_ic rfl (fun h11 => ?_) (fun h11 => ?_)
      · simp only [ab_cmp, pr_16_10000, pr_i_0, pr_i_1] at h11
        refine pr_seq (pc' := 46) 1 rfl ⟨trivial, trivial⟩ ?_
        try simp only [v1, pr_16_10000, pr_i_0, pr_i_1]
        exact pr_irM rfl (by rfl) trivial (by rfl)
      · simp only [ab_cmp, pr_16_10000, pr_i_0, pr_i_1] at h11
        exact absurd e1 h11
    | succ dd ih =>
      intro k hk
      have e1 : ¬ nI n ≤ nI k := nI_ge (by omega) (by omega)
      have ha := c_alike h M hc hv hp (show k < n by omega)
      obtain ⟨-, -, -, x1, x2⟩ := v3 k (by omega)
      have e3 : (nI k).toNatClampNeg = k := nI_clamp (by omega)
      have w1 : vp_in (nI k) (ab_n h (c + 3)) := by rw [a2]; exact vp_in_nI (by omega) (by decide)
      have w2 : vp_in (nI k) (ab_n h (c + 4)) := by rw [b2]; exact vp_in_nI (by omega) (by decide)
      have hh := ih (k + 1) (by omega)
      rw [← nI_1] at hh
      cases hf : al S K p k with
      | true =>
        rw [hf] at ha
        have ew : a_wh (al S K p) Wl Dt (k + 1) = a_wh (al S K p) Wl Dt k + (nI (Wl k) - nI (Dt k)) := by
          unfold a_wh
          rw [mon_s1 hf, mon_s1 hf, ← nI_add (mon (al S K p) Wl k) (Wl k), ← nI_add (mon (al S K p) Dt k) (Dt k), i32_wh]
        rw [ew] at hh
        refine pr_seq (pc' := 11) 3 rfl ⟨⟨⟨trivial, trivial⟩, (by first | assumption | decide | omega | exact ⟨Or.inl (by assumption), by assumption⟩ | exact ⟨by assumption, by assumption⟩ | (simp only [v1, r2, r3, e3, x1, x2, pr_16_10000, pr_i_0, pr_i_1]; first | assumption | omega | exact ⟨by assumption, by assumption⟩ | exact ⟨Or.inl (by assumption), by assumption⟩))⟩, (by first | assumption | decide | omega | exact ⟨Or.inl (by assumption), by assumption⟩ | exact ⟨by assumption, by assumption⟩ | (simp only [v1, r2, r3, e3, x1, x2, pr_16_10000, pr_i_0, pr_i_1]; first | assumption | omega | exact ⟨by assumption, by assumption⟩ | exact ⟨Or.inl (by assumption), by assumption⟩))⟩ ?_
        try simp only [v1, r2, r3, e3, x1, x2, pr_16_10000, pr_i_0, pr_i_1]
        refine pr_ic rfl (fun h11 => ?_) (fun h11 => ?_)
        · simp only [ab_cmp, pr_16_10000, pr_i_0, pr_i_1] at h11
          exact absurd h11 e1
        · simp only [ab_cmp, pr_16_10000, pr_i_0, pr_i_1] at h11
          refine pr_seq (pc' := 17) 3 rfl ⟨⟨⟨trivial, (by first | assumption | decide | omega | exact ⟨Or.inl (by assumption), by assumption⟩ | exact ⟨by assumption, by assumption⟩ | (simp only [v1, r2, r3, e3, x1, x2, pr_16_10000, pr_i_0, pr_i_1]; first | assumption | omega | exact ⟨by assumption, by assumption⟩ | exact ⟨Or.inl (by assumption), by assumption⟩))⟩, trivial⟩, trivial⟩ ?_
          try simp only [v1, r2, r3, e3, x1, x2, pr_16_10000, pr_i_0, pr_i_1]
          refine pr_cv [_, _] rfl rfl rfl rfl rfl (Nat.le_of_ble_eq_true rfl) (by first | assumption | decide | omega | exact ⟨Or.inl (by assumption), by assumption⟩ | exact ⟨by assumption, by assumption⟩ | (simp only [v1, r2, r3, e3, x1, x2, pr_16_10000, pr_i_0, pr_i_1]; first | assumption | omega | exact ⟨by assumption, by assumption⟩ | exact ⟨Or.inl (by assumption), by assumption⟩)) (Nat.le_of_ble_eq_true rfl) (ha) ?_
          refine pr_if rfl (fun h20 => ?_) (fun h20 => ?_)
          · simp only [ab_cmp, pr_16_10000, pr_i_0, pr_i_1] at h20
            exact absurd h20 (by decide)
          · simp only [ab_cmp, pr_16_10000, pr_i_0, pr_i_1] at h20
            refine pr_seq (pc' := 6) 14 rfl ⟨⟨⟨⟨⟨⟨⟨⟨⟨⟨⟨⟨⟨⟨trivial, trivial⟩, (by first | assumption | decide | omega | exact ⟨Or.inl (by assumption), by assumption⟩ | exact ⟨by assumption, by assumption⟩ | (simp only [v1, r2, r3, e3, x1, x2, pr_16_10000, pr_i_0, pr_i_1]; first | assumption | omega | exact ⟨by assumption, by assumption⟩ | exact ⟨Or.inl (by assumption), by assumption⟩))⟩, (by first | assumption | decide | omega | exact ⟨Or.inl (by assumption), by assumption⟩ | exact ⟨by assumption, by assumption⟩ | (simp only [v1, r2, r3, e3, x1, x2, pr_16_10000, pr_i_0, pr_i_1]; first | assumption | omega | exact ⟨by assumption, by assumption⟩ | exact ⟨Or.inl (by assumption), by assumption⟩))⟩, trivial⟩, (by first | assumption | decide | omega | exact ⟨Or.inl (by assumption), by assumption⟩ | exact ⟨by assumption, by assumption⟩ | (simp only [v1, r2, r3, e3, x1, x2, pr_16_10000, pr_i_0, pr_i_1]; first | assumption | omega | exact ⟨by assumption, by assumption⟩ | exact ⟨Or.inl (by assumption), by assumption⟩))⟩, (by first | assumption | decide | omega | exact ⟨Or.inl (by assumption), by assumption⟩ | exact ⟨by assumption, by assumption⟩ | (simp only [v1, r2, r3, e3, x1, x2, pr_16_10000, pr_i_0, pr_i_1]; first | assumption | omega | exact ⟨by assumption, by assumption⟩ | exact ⟨Or.inl (by assumption), by assumption⟩))⟩, (by first | assumption | decide | omega | exact ⟨Or.inl (by assumption), by assumption⟩ | exact ⟨by assumption, by assumption⟩ | (simp only [v1, r2, r3, e3, x1, x2, pr_16_10000, pr_i_0, pr_i_1]; first | assumption | omega | exact ⟨by assumption, by assumption⟩ | exact ⟨Or.inl (by assumption), by assumption⟩))⟩, trivial⟩, (by first | assumption | decide | omega | exact ⟨Or.inl (by assumption), by assumption⟩ | exact ⟨by assumption, by assumption⟩ | (simp only [v1, r2, r3, e3, x1, x2, pr_16_10000, pr_i_0, pr_i_1]; first | assumption | omega | exact ⟨by assumption, by assumption⟩ | exact ⟨Or.inl (by assumption), by assumption⟩))⟩, trivial⟩, trivial⟩, trivial⟩, trivial⟩, trivial⟩ ?_
            try simp only [v1, r2, r3, e3, x1, x2, pr_16_10000, pr_i_0, pr_i_1]
            exact hh
      | false =>
        rw [hf] at ha
        have ew : a_wh (al S K p) Wl Dt (k + 1) = a_wh (al S K p) Wl Dt k := by
          unfold a_wh
          rw [mon_s0 hf, mon_s0 hf]
        rw [ew] at hh
        refine pr_seq (pc' := 11) 3 rfl ⟨⟨⟨trivial, trivial⟩, (by first | assumption | decide | omega | exact ⟨Or.inl (by assumption), by assumption⟩ | exact ⟨by assumption, by assumption⟩ | (simp only [v1, pr_16_10000, pr_i_0, pr_i_1]; first | assumption | omega | exact ⟨by assumption, by assumption⟩ | exact ⟨Or.inl (by assumption), by assumption⟩))⟩, (by first | assumption | decide | omega | exact ⟨Or.inl (by assumption), by assumption⟩ | exact ⟨by assumption, by assumption⟩ | (simp only [v1, pr_16_10000, pr_i_0, pr_i_1]; first | assumption | omega | exact ⟨by assumption, by assumption⟩ | exact ⟨Or.inl (by assumption), by assumption⟩))⟩ ?_
        try simp only [v1, pr_16_10000, pr_i_0, pr_i_1]
        refine pr_ic rfl (fun h11 => ?_) (fun h11 => ?_)
        · simp only [ab_cmp, pr_16_10000, pr_i_0, pr_i_1] at h11
          exact absurd h11 e1
        · simp only [ab_cmp, pr_16_10000, pr_i_0, pr_i_1] at h11
          refine pr_seq (pc' := 17) 3 rfl ⟨⟨⟨trivial, (by first | assumption | decide | omega | exact ⟨Or.inl (by assumption), by assumption⟩ | exact ⟨by assumption, by assumption⟩ | (simp only [v1, pr_16_10000, pr_i_0, pr_i_1]; first | assumption | omega | exact ⟨by assumption, by assumption⟩ | exact ⟨Or.inl (by assumption), by assumption⟩))⟩, trivial⟩, trivial⟩ ?_
          try simp only [v1, pr_16_10000, pr_i_0, pr_i_1]
          refine pr_cv [_, _] rfl rfl rfl rfl rfl (Nat.le_of_ble_eq_true rfl) (by first | assumption | decide | omega | exact ⟨Or.inl (by assumption), by assumption⟩ | exact ⟨by assumption, by assumption⟩ | (simp only [v1, pr_16_10000, pr_i_0, pr_i_1]; first | assumption | omega | exact ⟨by assumption, by assumption⟩ | exact ⟨Or.inl (by assumption), by assumption⟩)) (Nat.le_of_ble_eq_true rfl) (ha) ?_
          refine pr_if rfl (fun h20 => ?_) (fun h20 => ?_)
          · simp only [ab_cmp, pr_16_10000, pr_i_0, pr_i_1] at h20
            refine pr_seq (pc' := 6) 2 rfl ⟨⟨trivial, trivial⟩, trivial⟩ ?_
            try simp only [v1, pr_16_10000, pr_i_0, pr_i_1]
            exact hh
          · simp only [ab_cmp, pr_16_10000, pr_i_0, pr_i_1] at h20
            exact absurd rfl h20
  have h0 := loop n 0 (by omega)
  rw [show a_wh (al S K p) Wl Dt 0 = 10000 by show nI 10000 + nI 0 - nI 0 = 10000; decide] at h0
  refine pr_seq (pc' := 6) 4 rfl ⟨⟨⟨⟨trivial, trivial⟩, trivial⟩, trivial⟩, trivial⟩ ?_
  try simp only [pr_n0, pr_16_10000, pr_i_0, pr_i_1]
  exact h0
theorem c_livingOnes {c n : Nat} {S : Nat → Int32} {K Dt Wl : Nat → Nat} (h : ab_H) (M : ab_M) (hc : pr_Cs h M.2.2 c) (hv : cs_v M.1 c n S K Dt Wl) : pr_C pX0_livingOnes [.ref c] h M (some (.int (mk (fun p => decide (K p ≠ 1)) n))) h M := by
  obtain ⟨c0, c1, r0, r1, r2, r3, r4, -, ⟨a1, a2⟩, -⟩ := id hc
  obtain ⟨v1, v2, v3⟩ := id hv
  have n1 : (1 : Int32) = nI 1 := rfl
  have loop : ∀ dd k, k + dd = n → pr_E pX0_livingOnes 4 [some (.ref c), some (.int (mk (fun p => decide (K p ≠ 1)) k)), some (.int (nI k))] [] h M (some (.int (mk (fun p => decide (K p ≠ 1)) n))) h M := by
    intro dd
    induction dd with
    | zero =>
      intro k hk
      obtain rfl : k = n := by omega
      have e1 : nI k ≤ nI k := nI_le (Nat.le_refl _) (by omega)
      refine pr_seq (pc' := 9) 3 rfl ⟨⟨⟨trivial, trivial⟩, (by first | assumption | decide | omega | exact ⟨Or.inl (by assumption), by assumption⟩ | exact ⟨by assumption, by assumption⟩ | (simp only [v1, pr_i_0, pr_i_1]; first | assumption | omega | exact ⟨by assumption, by assumption⟩ | exact ⟨Or.inl (by assumption), by assumption⟩))⟩, (by first | assumption | decide | omega | exact ⟨Or.inl (by assumption), by assumption⟩ | exact ⟨by assumption, by assumption⟩ | (simp only [v1, pr_i_0, pr_i_1]; first | assumption | omega | exact ⟨by assumption, by assumption⟩ | exact ⟨Or.inl (by assumption), by assumption⟩))⟩ ?_
      try simp only [v1, pr_i_0, pr_i_1]
      refine pr_ic rfl (fun h9 => ?_) (fun h9 => ?_)
      · simp only [ab_cmp, pr_i_0, pr_i_1] at h9
        refine pr_seq (pc' := 35) 1 rfl ⟨trivial, trivial⟩ ?_
        try simp only [v1, pr_i_0, pr_i_1]
        exact pr_irM rfl (by rfl) trivial (by rfl)
      · simp only [ab_cmp, pr_i_0, pr_i_1] at h9
        exact absurd e1 h9
    | succ dd ih =>
      intro k hk
      have e1 : ¬ nI n ≤ nI k := nI_ge (by omega) (by omega)
      obtain ⟨-, x1, x2, -⟩ := v3 k (by omega)
      have e3 : (nI k).toNatClampNeg = k := nI_clamp (by omega)
      have w1 : vp_in (nI k) (ab_n h (c + 2)) := by rw [a2]; exact vp_in_nI (by omega) (by decide)
      have hh := ih (k + 1) (by omega)
      rw [← nI_1] at hh
      by_cases hf : K k = 1
      · have y1 : nI (K k) = 1 := by rw [hf]; rfl
        rw [mk_s0 (decide_eq_false (fun q => q hf))] at hh
        refine pr_seq (pc' := 9) 3 rfl ⟨⟨⟨trivial, trivial⟩, (by first | assumption | decide | omega | exact ⟨Or.inl (by assumption), by assumption⟩ | exact ⟨by assumption, by assumption⟩ | (simp only [v1, r1, e3, x1, pr_i_0, pr_i_1]; first | assumption | omega | exact ⟨by assumption, by assumption⟩ | exact ⟨Or.inl (by assumption), by assumption⟩))⟩, (by first | assumption | decide | omega | exact ⟨Or.inl (by assumption), by assumption⟩ | exact ⟨by assumption, by assumption⟩ | (simp only [v1, r1, e3, x1, pr_i_0, pr_i_1]; first | assumption | omega | exact ⟨by assumption, by assumption⟩ | exact ⟨Or.inl (by assumption), by assumption⟩))⟩ ?_
        try simp only [v1, r1, e3, x1, pr_i_0, pr_i_1]
        refine pr_ic rfl (fun h9 => ?_) (fun h9 => ?_)
        · simp only [ab_cmp, pr_i_0, pr_i_1] at h9
          exact absurd h9 e1
        · simp only [ab_cmp, pr_i_0, pr_i_1] at h9
          refine pr_seq (pc' := 19) 5 rfl ⟨⟨⟨⟨⟨trivial, (by first | assumption | decide | omega | exact ⟨Or.inl (by assumption), by assumption⟩ | exact ⟨by assumption, by assumption⟩ | (simp only [v1, r1, e3, x1, pr_i_0, pr_i_1]; first | assumption | omega | exact ⟨by assumption, by assumption⟩ | exact ⟨Or.inl (by assumption), by assumption⟩))⟩, (by first | assumption | decide | omega | exact ⟨Or.inl (by assumption), by assumption⟩ | exact ⟨by assumption, by assumption⟩ | (simp only [v1, r1, e3, x1, pr_i_0, pr_i_1]; first | assumption | omega | exact ⟨by assumption, by assumption⟩ | exact ⟨Or.inl (by assumption), by assumption⟩))⟩, trivial⟩, (by first | assumption | decide | omega | exact ⟨Or.inl (by assumption), by assumption⟩ | exact ⟨by assumption, by assumption⟩ | (simp only [v1, r1, e3, x1, pr_i_0, pr_i_1]; first | assumption | omega | exact ⟨by assumption, by assumption⟩ | exact ⟨Or.inl (by assumption), by assumption⟩))⟩, trivial⟩ ?_
          try simp only [v1, r1, e3, x1, pr_i_0, pr_i_1]
          refine pr_ic rfl (fun h19 => ?_) (fun h19 => ?_)
          · simp only [ab_cmp, pr_i_0, pr_i_1] at h19
            refine pr_seq (pc' := 4) 2 rfl ⟨⟨trivial, trivial⟩, trivial⟩ ?_
            try simp only [v1, r1, e3, x1, pr_i_0, pr_i_1]
            exact hh
          · simp only [ab_cmp, pr_i_0, pr_i_1] at h19
            exact absurd y1 h19
      · have y1 : ¬ nI (K k) = 1 := nI_ne hf (by omega) (by decide)
        rw [mk_s1 (decide_eq_true hf)] at hh
        refine pr_seq (pc' := 9) 3 rfl ⟨⟨⟨trivial, trivial⟩, (by first | assumption | decide | omega | exact ⟨Or.inl (by assumption), by assumption⟩ | exact ⟨by assumption, by assumption⟩ | (simp only [v1, r1, e3, x1, pr_i_0, pr_i_1]; first | assumption | omega | exact ⟨by assumption, by assumption⟩ | exact ⟨Or.inl (by assumption), by assumption⟩))⟩, (by first | assumption | decide | omega | exact ⟨Or.inl (by assumption), by assumption⟩ | exact ⟨by assumption, by assumption⟩ | (simp only [v1, r1, e3, x1, pr_i_0, pr_i_1]; first | assumption | omega | exact ⟨by assumption, by assumption⟩ | exact ⟨Or.inl (by assumption), by assumption⟩))⟩ ?_
        try simp only [v1, r1, e3, x1, pr_i_0, pr_i_1]
        refine pr_ic rfl (fun h9 => ?_) (fun h9 => ?_)
        · simp only [ab_cmp, pr_i_0, pr_i_1] at h9
          exact absurd h9 e1
        · simp only [ab_cmp, pr_i_0, pr_i_1] at h9
          refine pr_seq (pc' := 19) 5 rfl ⟨⟨⟨⟨⟨trivial, (by first | assumption | decide | omega | exact ⟨Or.inl (by assumption), by assumption⟩ | exact ⟨by assumption, by assumption⟩ | (simp only [v1, r1, e3, x1, pr_i_0, pr_i_1]; first | assumption | omega | exact ⟨by assumption, by assumption⟩ | exact ⟨Or.inl (by assumption), by assumption⟩))⟩, (by first | assumption | decide | omega | exact ⟨Or.inl (by assumption), by assumption⟩ | exact ⟨by assumption, by assumption⟩ | (simp only [v1, r1, e3, x1, pr_i_0, pr_i_1]; first | assumption | omega | exact ⟨by assumption, by assumption⟩ | exact ⟨Or.inl (by assumption), by assumption⟩))⟩, trivial⟩, (by first | assumption | decide | omega | exact ⟨Or.inl (by assumption), by assumption⟩ | exact ⟨by assumption, by assumption⟩ | (simp only [v1, r1, e3, x1, pr_i_0, pr_i_1]; first | assumption | omega | exact ⟨by assumption, by assumption⟩ | exact ⟨Or.inl (by assumption), by assumption⟩))⟩, trivial⟩ ?_
          try simp only [v1, r1, e3, x1, pr_i_0, pr_i_1]
          refine pr_ic rfl (fun h19 => ?_) (fun h19 => ?_)
          · simp only [ab_cmp, pr_i_0, pr_i_1] at h19
            exact absurd h19 y1
          · simp only [ab_cmp, pr_i_0, pr_i_1] at h19
            refine pr_seq (pc' := 4) 8 rfl ⟨⟨⟨⟨⟨⟨⟨⟨trivial, trivial⟩, trivial⟩, trivial⟩, trivial⟩, trivial⟩, trivial⟩, trivial⟩, trivial⟩ ?_
            try simp only [v1, r1, e3, x1, pr_i_0, pr_i_1]
            exact hh
  refine pr_seq (pc' := 4) 4 rfl ⟨⟨⟨⟨trivial, trivial⟩, trivial⟩, trivial⟩, trivial⟩ ?_
  exact loop n 0 (by omega)
theorem c_livingOnesOf {c n : Nat} {S : Nat → Int32} {K Dt Wl : Nat → Nat} (x : Int32) (h : ab_H) (M : ab_M) (hc : pr_Cs h M.2.2 c) (hv : cs_v M.1 c n S K Dt Wl) : pr_C pX0_livingOnesOf [.ref c, .int x] h M (some (.int (mk (fun p => decide (S p = x)) n &&& mk (fun p => decide (K p ≠ 1)) n))) h M := by
  obtain ⟨c0, c1, r0, r1, r2, r3, r4, ⟨a1, a2⟩, -⟩ := id hc
  obtain ⟨v1, v2, v3⟩ := id hv
  have loop : ∀ dd k, k + dd = n → pr_E pX0_livingOnesOf 4 [some (.ref c), some (.int x), some (.int (mk (fun p => decide (S p = x)) k)), some (.int (nI k))] [] h M (some (.int (mk (fun p => decide (S p = x)) n &&& mk (fun p => decide (K p ≠ 1)) n))) h M := by
    intro dd
    induction dd with
    | zero =>
      intro k hk
      obtain rfl : k = n := by omega
      have e1 : nI k ≤ nI k := nI_le (Nat.le_refl _) (by omega)
      refine pr_seq (pc' := 9) 3 rfl ⟨⟨⟨trivial, trivial⟩, (by first | assumption | decide | omega | exact ⟨Or.inl (by assumption), by assumption⟩ | exact ⟨by assumption, by assumption⟩ | (simp only [v1, pr_i_0, pr_i_1]; first | assumption | omega | exact ⟨by assumption, by assumption⟩ | exact ⟨Or.inl (by assumption), by assumption⟩))⟩, (by first | assumption | decide | omega | exact ⟨Or.inl (by assumption), by assumption⟩ | exact ⟨by assumption, by assumption⟩ | (simp only [v1, pr_i_0, pr_i_1]; first | assumption | omega | exact ⟨by assumption, by assumption⟩ | exact ⟨Or.inl (by assumption), by assumption⟩))⟩ ?_
      try simp only [v1, pr_i_0, pr_i_1]
      refine pr_ic rfl (fun h9 => ?_) (fun h9 => ?_)
      · simp only [ab_cmp, pr_i_0, pr_i_1] at h9
        refine pr_seq (pc' := 36) 2 rfl ⟨⟨trivial, trivial⟩, (by first | assumption | decide | omega | exact ⟨Or.inl (by assumption), by assumption⟩ | exact ⟨by assumption, by assumption⟩ | (simp only [v1, pr_i_0, pr_i_1]; first | assumption | omega | exact ⟨by assumption, by assumption⟩ | exact ⟨Or.inl (by assumption), by assumption⟩))⟩ ?_
        try simp only [v1, pr_i_0, pr_i_1]
        refine pr_cv [] rfl rfl rfl rfl rfl (Nat.le_of_ble_eq_true rfl) (by first | assumption | decide | omega | exact ⟨Or.inl (by assumption), by assumption⟩ | exact ⟨by assumption, by assumption⟩ | (simp only [v1, pr_i_0, pr_i_1]; first | assumption | omega | exact ⟨by assumption, by assumption⟩ | exact ⟨Or.inl (by assumption), by assumption⟩)) (Nat.le_of_ble_eq_true rfl) (c_livingOnes h M hc hv) ?_
        refine pr_seq (pc' := 40) 1 rfl ⟨trivial, trivial⟩ ?_
        try simp only [v1, pr_i_0, pr_i_1]
        exact pr_irM rfl (by rfl) trivial (by rfl)
      · simp only [ab_cmp, pr_i_0, pr_i_1] at h9
        exact absurd e1 h9
    | succ dd ih =>
      intro k hk
      have e1 : ¬ nI n ≤ nI k := nI_ge (by omega) (by omega)
      obtain ⟨x1, -⟩ := v3 k (by omega)
      have e3 : (nI k).toNatClampNeg = k := nI_clamp (by omega)
      have w1 : vp_in (nI k) (ab_n h (c + 1)) := by rw [a2]; exact vp_in_nI (by omega) (by decide)
      have hh := ih (k + 1) (by omega)
      rw [← nI_1] at hh
      by_cases hf : S k = x
      · rw [mk_s1 (decide_eq_true hf)] at hh
        refine pr_seq (pc' := 9) 3 rfl ⟨⟨⟨trivial, trivial⟩, (by first | assumption | decide | omega | exact ⟨Or.inl (by assumption), by assumption⟩ | exact ⟨by assumption, by assumption⟩ | (simp only [v1, r0, e3, x1, pr_i_0, pr_i_1]; first | assumption | omega | exact ⟨by assumption, by assumption⟩ | exact ⟨Or.inl (by assumption), by assumption⟩))⟩, (by first | assumption | decide | omega | exact ⟨Or.inl (by assumption), by assumption⟩ | exact ⟨by assumption, by assumption⟩ | (simp only [v1, r0, e3, x1, pr_i_0, pr_i_1]; first | assumption | omega | exact ⟨by assumption, by assumption⟩ | exact ⟨Or.inl (by assumption), by assumption⟩))⟩ ?_
        try simp only [v1, r0, e3, x1, pr_i_0, pr_i_1]
        refine pr_ic rfl (fun h9 => ?_) (fun h9 => ?_)
        · simp only [ab_cmp, pr_i_0, pr_i_1] at h9
          exact absurd h9 e1
        · simp only [ab_cmp, pr_i_0, pr_i_1] at h9
          refine pr_seq (pc' := 19) 5 rfl ⟨⟨⟨⟨⟨trivial, (by first | assumption | decide | omega | exact ⟨Or.inl (by assumption), by assumption⟩ | exact ⟨by assumption, by assumption⟩ | (simp only [v1, r0, e3, x1, pr_i_0, pr_i_1]; first | assumption | omega | exact ⟨by assumption, by assumption⟩ | exact ⟨Or.inl (by assumption), by assumption⟩))⟩, (by first | assumption | decide | omega | exact ⟨Or.inl (by assumption), by assumption⟩ | exact ⟨by assumption, by assumption⟩ | (simp only [v1, r0, e3, x1, pr_i_0, pr_i_1]; first | assumption | omega | exact ⟨by assumption, by assumption⟩ | exact ⟨Or.inl (by assumption), by assumption⟩))⟩, trivial⟩, (by first | assumption | decide | omega | exact ⟨Or.inl (by assumption), by assumption⟩ | exact ⟨by assumption, by assumption⟩ | (simp only [v1, r0, e3, x1, pr_i_0, pr_i_1]; first | assumption | omega | exact ⟨by assumption, by assumption⟩ | exact ⟨Or.inl (by assumption), by assumption⟩))⟩, trivial⟩ ?_
          try simp only [v1, r0, e3, x1, pr_i_0, pr_i_1]
          refine pr_ic rfl (fun h19 => ?_) (fun h19 => ?_)
          · simp only [ab_cmp, pr_i_0, pr_i_1] at h19
            exact absurd hf h19
          · simp only [ab_cmp, pr_i_0, pr_i_1] at h19
            refine pr_seq (pc' := 4) 8 rfl ⟨⟨⟨⟨⟨⟨⟨⟨trivial, trivial⟩, trivial⟩, trivial⟩, trivial⟩, trivial⟩, trivial⟩, trivial⟩, trivial⟩ ?_
            try simp only [v1, r0, e3, x1, pr_i_0, pr_i_1]
            exact hh
      · rw [mk_s0 (decide_eq_false hf)] at hh
        refine pr_seq (pc' := 9) 3 rfl ⟨⟨⟨trivial, trivial⟩, (by first | assumption | decide | omega | exact ⟨Or.inl (by assumption), by assumption⟩ | exact ⟨by assumption, by assumption⟩ | (simp only [v1, r0, e3, x1, pr_i_0, pr_i_1]; first | assumption | omega | exact ⟨by assumption, by assumption⟩ | exact ⟨Or.inl (by assumption), by assumption⟩))⟩, (by first | assumption | decide | omega | exact ⟨Or.inl (by assumption), by assumption⟩ | exact ⟨by assumption, by assumption⟩ | (simp only [v1, r0, e3, x1, pr_i_0, pr_i_1]; first | assumption | omega | exact ⟨by assumption, by assumption⟩ | exact ⟨Or.inl (by assumption), by assumption⟩))⟩ ?_
        try simp only [v1, r0, e3, x1, pr_i_0, pr_i_1]
        refine pr_ic rfl (fun h9 => ?_) (fun h9 => ?_)
        · simp only [ab_cmp, pr_i_0, pr_i_1] at h9
          exact absurd h9 e1
        · simp only [ab_cmp, pr_i_0, pr_i_1] at h9
          refine pr_seq (pc' := 19) 5 rfl ⟨⟨⟨⟨⟨trivial, (by first | assumption | decide | omega | exact ⟨Or.inl (by assumption), by assumption⟩ | exact ⟨by assumption, by assumption⟩ | (simp only [v1, r0, e3, x1, pr_i_0, pr_i_1]; first | assumption | omega | exact ⟨by assumption, by assumption⟩ | exact ⟨Or.inl (by assumption), by assumption⟩))⟩, (by first | assumption | decide | omega | exact ⟨Or.inl (by assumption), by assumption⟩ | exact ⟨by assumption, by assumption⟩ | (simp only [v1, r0, e3, x1, pr_i_0, pr_i_1]; first | assumption | omega | exact ⟨by assumption, by assumption⟩ | exact ⟨Or.inl (by assumption), by assumption⟩))⟩, trivial⟩, (by first | assumption | decide | omega | exact ⟨Or.inl (by assumption), by assumption⟩ | exact ⟨by assumption, by assumption⟩ | (simp only [v1, r0, e3, x1, pr_i_0, pr_i_1]; first | assumption | omega | exact ⟨by assumption, by assumption⟩ | exact ⟨Or.inl (by assumption), by assumption⟩))⟩, trivial⟩ ?_
          try simp only [v1, r0, e3, x1, pr_i_0, pr_i_1]
          refine pr_ic rfl (fun h19 => ?_) (fun h19 => ?_)
          · simp only [ab_cmp, pr_i_0, pr_i_1] at h19
            refine pr_seq (pc' := 4) 2 rfl ⟨⟨trivial, trivial⟩, trivial⟩ ?_
            try simp only [v1, r0, e3, x1, pr_i_0, pr_i_1]
            exact hh
          · simp only [ab_cmp, pr_i_0, pr_i_1] at h19
            exact absurd (Classical.not_not.mp h19) hf
  refine pr_seq (pc' := 4) 4 rfl ⟨⟨⟨⟨trivial, trivial⟩, trivial⟩, trivial⟩, trivial⟩ ?_
  exact loop n 0 (by omega)
theorem c_holds {c n : Nat} {S : Nat → Int32} {K Dt Wl : Nat → Nat} (x : Int32) (h : ab_H) (M : ab_M) (hc : pr_Cs h M.2.2 c) (hv : cs_v M.1 c n S K Dt Wl) : pr_C pX0_holds [.ref c, .int x] h M (some (.int (pr_b (!nb (fun p => decide (K p ≠ 4) && decide (S p = x)) n)))) h M := by
  obtain ⟨c0, c1, r0, r1, r2, r3, r4, ⟨a1, a2⟩, ⟨b1, b2⟩, -⟩ := id hc
  obtain ⟨v1, v2, v3⟩ := id hv
  have n4 : (4 : Int32) = nI 4 := rfl
  have loop : ∀ dd k, k + dd = n → nb (fun p => decide (K p ≠ 4) && decide (S p = x)) k = true → pr_E pX0_holds 2 [some (.ref c), some (.int x), some (.int (nI k))] [] h M (some (.int (pr_b (!nb (fun p => decide (K p ≠ 4) && decide (S p = x)) n)))) h M := by
    intro dd
    induction dd with
    | zero =>
      intro k hk hn
      obtain rfl : k = n := by omega
      have e1 : nI k ≤ nI k := nI_le (Nat.le_refl _) (by omega)
      rw [hn]
      refine pr_seq (pc' := 7) 3 rfl ⟨⟨⟨trivial, trivial⟩, (by first | assumption | decide | omega | exact ⟨Or.inl (by assumption), by assumption⟩ | exact ⟨by assumption, by assumption⟩ | (simp only [v1, pr_i_0, pr_i_1, pr_i_4]; first | assumption | omega | exact ⟨by assumption, by assumption⟩ | exact ⟨Or.inl (by assumption), by assumption⟩))⟩, (by first | assumption | decide | omega | exact ⟨Or.inl (by assumption), by assumption⟩ | exact ⟨by assumption, by assumption⟩ | (simp only [v1, pr_i_0, pr_i_1, pr_i_4]; first | assumption | omega | exact ⟨by assumption, by assumption⟩ | exact ⟨Or.inl (by assumption), by assumption⟩))⟩ ?_
      try simp only [v1, pr_i_0, pr_i_1, pr_i_4]
      refine pr_ic rfl (fun h7 => ?_) (fun h7 => ?_)
      · simp only [ab_cmp, pr_i_0, pr_i_1, pr_i_4] at h7
        refine pr_seq (pc' := 39) 1 rfl ⟨trivial, trivial⟩ ?_
        try simp only [v1, pr_i_0, pr_i_1, pr_i_4]
        exact pr_irM rfl (by rfl) (by first | exact Or.inl rfl | exact Or.inr rfl | exact pr_b01 _ | assumption) (by rfl)
      · simp only [ab_cmp, pr_i_0, pr_i_1, pr_i_4] at h7
        exact absurd e1 h7
    | succ dd ih =>
      intro k hk hn
      have e1 : ¬ nI n ≤ nI k := nI_ge (by omega) (by omega)
      obtain ⟨x1, x2, x3, -⟩ := v3 k (by omega)
      have e3 : (nI k).toNatClampNeg = k := nI_clamp (by omega)
      have w1 : vp_in (nI k) (ab_n h (c + 1)) := by rw [a2]; exact vp_in_nI (by omega) (by decide)
      have w2 : vp_in (nI k) (ab_n h (c + 2)) := by rw [b2]; exact vp_in_nI (by omega) (by decide)
      by_cases t1 : K k = 4
      · have y1 : nI (K k) = 4 := by rw [t1]; rfl
        have hh := ih (k + 1) (by omega) (by show (nb _ k && !_) = true; rw [hn]; simp [t1])
        rw [← nI_1] at hh
        refine pr_seq (pc' := 7) 3 rfl ⟨⟨⟨trivial, trivial⟩, (by first | assumption | decide | omega | exact ⟨Or.inl (by assumption), by assumption⟩ | exact ⟨by assumption, by assumption⟩ | (simp only [v1, r0, r1, e3, x1, x2, pr_i_0, pr_i_1, pr_i_4]; first | assumption | omega | exact ⟨by assumption, by assumption⟩ | exact ⟨Or.inl (by assumption), by assumption⟩))⟩, (by first | assumption | decide | omega | exact ⟨Or.inl (by assumption), by assumption⟩ | exact ⟨by assumption, by assumption⟩ | (simp only [v1, r0, r1, e3, x1, x2, pr_i_0, pr_i_1, pr_i_4]; first | assumption | omega | exact ⟨by assumption, by assumption⟩ | exact ⟨Or.inl (by assumption), by assumption⟩))⟩ ?_
        try simp only [v1, r0, r1, e3, x1, x2, pr_i_0, pr_i_1, pr_i_4]
        refine pr_ic rfl (fun h7 => ?_) (fun h7 => ?_)
        · simp only [ab_cmp, pr_i_0, pr_i_1, pr_i_4] at h7
          exact absurd h7 e1
        · simp only [ab_cmp, pr_i_0, pr_i_1, pr_i_4] at h7
          refine pr_seq (pc' := 17) 5 rfl ⟨⟨⟨⟨⟨trivial, (by first | assumption | decide | omega | exact ⟨Or.inl (by assumption), by assumption⟩ | exact ⟨by assumption, by assumption⟩ | (simp only [v1, r0, r1, e3, x1, x2, pr_i_0, pr_i_1, pr_i_4]; first | assumption | omega | exact ⟨by assumption, by assumption⟩ | exact ⟨Or.inl (by assumption), by assumption⟩))⟩, (by first | assumption | decide | omega | exact ⟨Or.inl (by assumption), by assumption⟩ | exact ⟨by assumption, by assumption⟩ | (simp only [v1, r0, r1, e3, x1, x2, pr_i_0, pr_i_1, pr_i_4]; first | assumption | omega | exact ⟨by assumption, by assumption⟩ | exact ⟨Or.inl (by assumption), by assumption⟩))⟩, trivial⟩, (by first | assumption | decide | omega | exact ⟨Or.inl (by assumption), by assumption⟩ | exact ⟨by assumption, by assumption⟩ | (simp only [v1, r0, r1, e3, x1, x2, pr_i_0, pr_i_1, pr_i_4]; first | assumption | omega | exact ⟨by assumption, by assumption⟩ | exact ⟨Or.inl (by assumption), by assumption⟩))⟩, trivial⟩ ?_
          try simp only [v1, r0, r1, e3, x1, x2, pr_i_0, pr_i_1, pr_i_4]
          refine pr_ic rfl (fun h17 => ?_) (fun h17 => ?_)
          · simp only [ab_cmp, pr_i_0, pr_i_1, pr_i_4] at h17
            refine pr_seq (pc' := 2) 2 rfl ⟨⟨trivial, trivial⟩, trivial⟩ ?_
            try simp only [v1, r0, r1, e3, x1, x2, pr_i_0, pr_i_1, pr_i_4]
            exact hh
          · simp only [ab_cmp, pr_i_0, pr_i_1, pr_i_4] at h17
            exact absurd y1 h17
      · have y1 : ¬ nI (K k) = 4 := nI_ne t1 (by omega) (by decide)
        by_cases t2 : S k = x
        · rw [nb_false (q := k) (by simp [t1, t2]) n (by omega)]
          refine pr_seq (pc' := 7) 3 rfl ⟨⟨⟨trivial, trivial⟩, (by first | assumption | decide | omega | exact ⟨Or.inl (by assumption), by assumption⟩ | exact ⟨by assumption, by assumption⟩ | (simp only [v1, r0, r1, e3, x1, x2, pr_i_0, pr_i_1, pr_i_4]; first | assumption | omega | exact ⟨by assumption, by assumption⟩ | exact ⟨Or.inl (by assumption), by assumption⟩))⟩, (by first | assumption | decide | omega | exact ⟨Or.inl (by assumption), by assumption⟩ | exact ⟨by assumption, by assumption⟩ | (simp only [v1, r0, r1, e3, x1, x2, pr_i_0, pr_i_1, pr_i_4]; first | assumption | omega | exact ⟨by assumption, by assumption⟩ | exact ⟨Or.inl (by assumption), by assumption⟩))⟩ ?_
          try simp only [v1, r0, r1, e3, x1, x2, pr_i_0, pr_i_1, pr_i_4]
          refine pr_ic rfl (fun h7 => ?_) (fun h7 => ?_)
          · simp only [ab_cmp, pr_i_0, pr_i_1, pr_i_4] at h7
            exact absurd h7 e1
          · simp only [ab_cmp, pr_i_0, pr_i_1, pr_i_4] at h7
            refine pr_seq (pc' := 17) 5 rfl ⟨⟨⟨⟨⟨trivial, (by first | assumption | decide | omega | exact ⟨Or.inl (by assumption), by assumption⟩ | exact ⟨by assumption, by assumption⟩ | (simp only [v1, r0, r1, e3, x1, x2, pr_i_0, pr_i_1, pr_i_4]; first | assumption | omega | exact ⟨by assumption, by assumption⟩ | exact ⟨Or.inl (by assumption), by assumption⟩))⟩, (by first | assumption | decide | omega | exact ⟨Or.inl (by assumption), by assumption⟩ | exact ⟨by assumption, by assumption⟩ | (simp only [v1, r0, r1, e3, x1, x2, pr_i_0, pr_i_1, pr_i_4]; first | assumption | omega | exact ⟨by assumption, by assumption⟩ | exact ⟨Or.inl (by assumption), by assumption⟩))⟩, trivial⟩, (by first | assumption | decide | omega | exact ⟨Or.inl (by assumption), by assumption⟩ | exact ⟨by assumption, by assumption⟩ | (simp only [v1, r0, r1, e3, x1, x2, pr_i_0, pr_i_1, pr_i_4]; first | assumption | omega | exact ⟨by assumption, by assumption⟩ | exact ⟨Or.inl (by assumption), by assumption⟩))⟩, trivial⟩ ?_
            try simp only [v1, r0, r1, e3, x1, x2, pr_i_0, pr_i_1, pr_i_4]
            refine pr_ic rfl (fun h17 => ?_) (fun h17 => ?_)
            · simp only [ab_cmp, pr_i_0, pr_i_1, pr_i_4] at h17
              exact absurd h17 y1
            · simp only [ab_cmp, pr_i_0, pr_i_1, pr_i_4] at h17
              refine pr_seq (pc' := 27) 5 rfl ⟨⟨⟨⟨⟨trivial, (by first | assumption | decide | omega | exact ⟨Or.inl (by assumption), by assumption⟩ | exact ⟨by assumption, by assumption⟩ | (simp only [v1, r0, r1, e3, x1, x2, pr_i_0, pr_i_1, pr_i_4]; first | assumption | omega | exact ⟨by assumption, by assumption⟩ | exact ⟨Or.inl (by assumption), by assumption⟩))⟩, (by first | assumption | decide | omega | exact ⟨Or.inl (by assumption), by assumption⟩ | exact ⟨by assumption, by assumption⟩ | (simp only [v1, r0, r1, e3, x1, x2, pr_i_0, pr_i_1, pr_i_4]; first | assumption | omega | exact ⟨by assumption, by assumption⟩ | exact ⟨Or.inl (by assumption), by assumption⟩))⟩, trivial⟩, (by first | assumption | decide | omega | exact ⟨Or.inl (by assumption), by assumption⟩ | exact ⟨by assumption, by assumption⟩ | (simp only [v1, r0, r1, e3, x1, x2, pr_i_0, pr_i_1, pr_i_4]; first | assumption | omega | exact ⟨by assumption, by assumption⟩ | exact ⟨Or.inl (by assumption), by assumption⟩))⟩, trivial⟩ ?_
              try simp only [v1, r0, r1, e3, x1, x2, pr_i_0, pr_i_1, pr_i_4]
              refine pr_ic rfl (fun h27 => ?_) (fun h27 => ?_)
              · simp only [ab_cmp, pr_i_0, pr_i_1, pr_i_4] at h27
                exact absurd t2 h27
              · simp only [ab_cmp, pr_i_0, pr_i_1, pr_i_4] at h27
                refine pr_seq (pc' := 31) 1 rfl ⟨trivial, trivial⟩ ?_
                try simp only [v1, r0, r1, e3, x1, x2, pr_i_0, pr_i_1, pr_i_4]
                exact pr_irM rfl (by rfl) (by first | exact Or.inl rfl | exact Or.inr rfl | exact pr_b01 _ | assumption) (by rfl)
        · have hh := ih (k + 1) (by omega) (by show (nb _ k && !_) = true; rw [hn]; simp [t1, t2])
          rw [← nI_1] at hh
          refine pr_seq (pc' := 7) 3 rfl ⟨⟨⟨trivial, trivial⟩, (by first | assumption | decide | omega | exact ⟨Or.inl (by assumption), by assumption⟩ | exact ⟨by assumption, by assumption⟩ | (simp only [v1, r0, r1, e3, x1, x2, pr_i_0, pr_i_1, pr_i_4]; first | assumption | omega | exact ⟨by assumption, by assumption⟩ | exact ⟨Or.inl (by assumption), by assumption⟩))⟩, (by first | assumption | decide | omega | exact ⟨Or.inl (by assumption), by assumption⟩ | exact ⟨by assumption, by assumption⟩ | (simp only [v1, r0, r1, e3, x1, x2, pr_i_0, pr_i_1, pr_i_4]; first | assumption | omega | exact ⟨by assumption, by assumption⟩ | exact ⟨Or.inl (by assumption), by assumption⟩))⟩ ?_
          try simp only [v1, r0, r1, e3, x1, x2, pr_i_0, pr_i_1, pr_i_4]
          refine pr_ic rfl (fun h7 => ?_) (fun h7 => ?_)
          · simp only [ab_cmp, pr_i_0, pr_i_1, pr_i_4] at h7
            exact absurd h7 e1
          · simp only [ab_cmp, pr_i_0, pr_i_1, pr_i_4] at h7
            refine pr_seq (pc' := 17) 5 rfl ⟨⟨⟨⟨⟨trivial, (by first | assumption | decide | omega | exact ⟨Or.inl (by assumption), by assumption⟩ | exact ⟨by assumption, by assumption⟩ | (simp only [v1, r0, r1, e3, x1, x2, pr_i_0, pr_i_1, pr_i_4]; first | assumption | omega | exact ⟨by assumption, by assumption⟩ | exact ⟨Or.inl (by assumption), by assumption⟩))⟩, (by first | assumption | decide | omega | exact ⟨Or.inl (by assumption), by assumption⟩ | exact ⟨by assumption, by assumption⟩ | (simp only [v1, r0, r1, e3, x1, x2, pr_i_0, pr_i_1, pr_i_4]; first | assumption | omega | exact ⟨by assumption, by assumption⟩ | exact ⟨Or.inl (by assumption), by assumption⟩))⟩, trivial⟩, (by first | assumption | decide | omega | exact ⟨Or.inl (by assumption), by assumption⟩ | exact ⟨by assumption, by assumption⟩ | (simp only [v1, r0, r1, e3, x1, x2, pr_i_0, pr_i_1, pr_i_4]; first | assumption | omega | exact ⟨by assumption, by assumption⟩ | exact ⟨Or.inl (by assumption), by assumption⟩))⟩, trivial⟩ ?_
            try simp only [v1, r0, r1, e3, x1, x2, pr_i_0, pr_i_1, pr_i_4]
            refine pr_ic rfl (fun h17 => ?_) (fun h17 => ?_)
            · simp only [ab_cmp, pr_i_0, pr_i_1, pr_i_4] at h17
              exact absurd h17 y1
            · simp only [ab_cmp, pr_i_0, pr_i_1, pr_i_4] at h17
              refine pr_seq (pc' := 27) 5 rfl ⟨⟨⟨⟨⟨trivial, (by first | assumption | decide | omega | exact ⟨Or.inl (by assumption), by assumption⟩ | exact ⟨by assumption, by assumption⟩ | (simp only [v1, r0, r1, e3, x1, x2, pr_i_0, pr_i_1, pr_i_4]; first | assumption | omega | exact ⟨by assumption, by assumption⟩ | exact ⟨Or.inl (by assumption), by assumption⟩))⟩, (by first | assumption | decide | omega | exact ⟨Or.inl (by assumption), by assumption⟩ | exact ⟨by assumption, by assumption⟩ | (simp only [v1, r0, r1, e3, x1, x2, pr_i_0, pr_i_1, pr_i_4]; first | assumption | omega | exact ⟨by assumption, by assumption⟩ | exact ⟨Or.inl (by assumption), by assumption⟩))⟩, trivial⟩, (by first | assumption | decide | omega | exact ⟨Or.inl (by assumption), by assumption⟩ | exact ⟨by assumption, by assumption⟩ | (simp only [v1, r0, r1, e3, x1, x2, pr_i_0, pr_i_1, pr_i_4]; first | assumption | omega | exact ⟨by assumption, by assumption⟩ | exact ⟨Or.inl (by assumption), by assumption⟩))⟩, trivial⟩ ?_
              try simp only [v1, r0, r1, e3, x1, x2, pr_i_0, pr_i_1, pr_i_4]
              refine pr_ic rfl (fun h27 => ?_) (fun h27 => ?_)
              · simp only [ab_cmp, pr_i_0, pr_i_1, pr_i_4] at h27
                refine pr_seq (pc' := 2) 2 rfl ⟨⟨trivial, trivial⟩, trivial⟩ ?_
                try simp only [v1, r0, r1, e3, x1, x2, pr_i_0, pr_i_1, pr_i_4]
                exact hh
              · simp only [ab_cmp, pr_i_0, pr_i_1, pr_i_4] at h27
                exact absurd (Classical.not_not.mp h27) t2
  refine pr_seq (pc' := 2) 2 rfl ⟨⟨trivial, trivial⟩, trivial⟩ ?_
  exact loop n 0 (by omega) rfl
/-- one more in the census -/
def cs_ap (I : Nat → Nat → Int32) (c n : Nat) (s k d w : Int32) : Nat → Nat → Int32 := ab_u (ab_u (ab_u (ab_u (ab_u I (c + 1) n s) (c + 2) n k) (c + 3) n d) (c + 4) n w) c 5 (nI (n + 1))
theorem c_append {c n : Nat} (s k d w : Int32) (h : ab_H) (M : ab_M) (hc : pr_Cs h M.2.2 c) (hn : M.1 c 5 = nI n) (h28 : n < 28) : pr_C pX0_append [.ref c, .int s, .int k, .int d, .int w] h M none h (cs_ap M.1 c n s k d w, M.2.1, M.2.2) := by
  obtain ⟨c0, c1, r0, r1, r2, r3, r4, ⟨a1, a2⟩, ⟨a3, a4⟩, ⟨a5, a6⟩, ⟨a7, a8⟩, -⟩ := id hc
  have e1 : ¬ (28 : Int32) ≤ nI n := nI_ge h28 (by decide)
  have e3 : (nI n).toNatClampNeg = n := nI_clamp (by omega)
  have w1 : vp_in (nI n) (ab_n h (c + 1)) := by rw [a2]; exact vp_in_nI h28 (by decide)
  have w2 : vp_in (nI n) (ab_n h (c + 2)) := by rw [a4]; exact vp_in_nI h28 (by decide)
  have w3 : vp_in (nI n) (ab_n h (c + 3)) := by rw [a6]; exact vp_in_nI h28 (by decide)
  have w4 : vp_in (nI n) (ab_n h (c + 4)) := by rw [a8]; exact vp_in_nI h28 (by decide)
  have f1 : ∀ x : Int32, ab_u M.1 (c + 1) n x c 5 = nI n := fun x => by rw [ab_u_ne (by omega)]; exact hn
  have f2 : ∀ x y : Int32, ab_u (ab_u M.1 (c + 1) n x) (c + 2) n y c 5 = nI n := fun x y => by rw [ab_u_ne (by omega)]; exact f1 x
  have f3 : ∀ x y z : Int32, ab_u (ab_u (ab_u M.1 (c + 1) n x) (c + 2) n y) (c + 3) n z c 5 = nI n := fun x y z => by rw [ab_u_ne (by omega)]; exact f2 x y
  have f4 : ∀ x y z u : Int32, ab_u (ab_u (ab_u (ab_u M.1 (c + 1) n x) (c + 2) n y) (c + 3) n z) (c + 4) n u c 5 = nI n := fun x y z u => by rw [ab_u_ne (by omega)]; exact f3 x y z
  refine pr_seq (pc' := 6) 3 rfl ⟨⟨⟨trivial, (by first | assumption | decide | omega | exact ⟨Or.inl (by assumption), by assumption⟩ | exact ⟨by assumption, by assumption⟩ | (simp only [hn, r0, r1, r2, r3, e3, f1, f2, f3, f4, nI_1, pr_8_28, pr_i_1]; first | assumption | omega | exact ⟨by assumption, by assumption⟩ | exact ⟨Or.inl (by assumption), by assumption⟩))⟩, (by first | assumption | decide | omega | exact ⟨Or.inl (by assumption), by assumption⟩ | exact ⟨by assumption, by assumption⟩ | (simp only [hn, r0, r1, r2, r3, e3, f1, f2, f3, f4, nI_1, pr_8_28, pr_i_1]; first | assumption | omega | exact ⟨by assumption, by assumption⟩ | exact ⟨Or.inl (by assumption), by assumption⟩))⟩, trivial⟩ ?_
  try simp only [hn, r0, r1, r2, r3, e3, f1, f2, f3, f4, nI_1, pr_8_28, pr_i_1]
  refine pr_ic rfl (fun h6 => ?_) (fun h6 => ?_)
  · simp only [ab_cmp, pr_8_28, pr_i_1] at h6
    exact absurd h6 e1
  · simp only [ab_cmp, pr_8_28, pr_i_1] at h6
    refine pr_seq (pc' := 60) 30 rfl ⟨⟨⟨⟨⟨⟨⟨⟨⟨⟨⟨⟨⟨⟨⟨⟨⟨⟨⟨⟨⟨⟨⟨⟨⟨⟨⟨⟨⟨⟨trivial, (by first | assumption | decide | omega | exact ⟨Or.inl (by assumption), by assumption⟩ | exact ⟨by assumption, by assumption⟩ | (simp only [hn, r0, r1, r2, r3, e3, f1, f2, f3, f4, nI_1, pr_8_28, pr_i_1]; first | assumption | omega | exact ⟨by assumption, by assumption⟩ | exact ⟨Or.inl (by assumption), by assumption⟩))⟩, (by first | assumption | decide | omega | exact ⟨Or.inl (by assumption), by assumption⟩ | exact ⟨by assumption, by assumption⟩ | (simp only [hn, r0, r1, r2, r3, e3, f1, f2, f3, f4, nI_1, pr_8_28, pr_i_1]; first | assumption | omega | exact ⟨by assumption, by assumption⟩ | exact ⟨Or.inl (by assumption), by assumption⟩))⟩, (by first | assumption | decide | omega | exact ⟨Or.inl (by assumption), by assumption⟩ | exact ⟨by assumption, by assumption⟩ | (simp only [hn, r0, r1, r2, r3, e3, f1, f2, f3, f4, nI_1, pr_8_28, pr_i_1]; first | assumption | omega | exact ⟨by assumption, by assumption⟩ | exact ⟨Or.inl (by assumption), by assumption⟩))⟩, (by first | assumption | decide | omega | exact ⟨Or.inl (by assumption), by assumption⟩ | exact ⟨by assumption, by assumption⟩ | (simp only [hn, r0, r1, r2, r3, e3, f1, f2, f3, f4, nI_1, pr_8_28, pr_i_1]; first | assumption | omega | exact ⟨by assumption, by assumption⟩ | exact ⟨Or.inl (by assumption), by assumption⟩))⟩, trivial⟩, (by first | assumption | decide | omega | exact ⟨Or.inl (by assumption), by assumption⟩ | exact ⟨by assumption, by assumption⟩ | (simp only [hn, r0, r1, r2, r3, e3, f1, f2, f3, f4, nI_1, pr_8_28, pr_i_1]; first | assumption | omega | exact ⟨by assumption, by assumption⟩ | exact ⟨Or.inl (by assumption), by assumption⟩))⟩, (by first | assumption | decide | omega | exact ⟨Or.inl (by assumption), by assumption⟩ | exact ⟨by assumption, by assumption⟩ | (simp only [hn, r0, r1, r2, r3, e3, f1, f2, f3, f4, nI_1, pr_8_28, pr_i_1]; first | assumption | omega | exact ⟨by assumption, by assumption⟩ | exact ⟨Or.inl (by assumption), by assumption⟩))⟩, (by first | assumption | decide | omega | exact ⟨Or.inl (by assumption), by assumption⟩ | exact ⟨by assumption, by assumption⟩ | (simp only [hn, r0, r1, r2, r3, e3, f1, f2, f3, f4, nI_1, pr_8_28, pr_i_1]; first | assumption | omega | exact ⟨by assumption, by assumption⟩ | exact ⟨Or.inl (by assumption), by assumption⟩))⟩, (by first | assumption | decide | omega | exact ⟨Or.inl (by assumption), by assumption⟩ | exact ⟨by assumption, by assumption⟩ | (simp only [hn, r0, r1, r2, r3, e3, f1, f2, f3, f4, nI_1, pr_8_28, pr_i_1]; first | assumption | omega | exact ⟨by assumption, by assumption⟩ | exact ⟨Or.inl (by assumption), by assumption⟩))⟩, (by first | assumption | decide | omega | exact ⟨Or.inl (by assumption), by assumption⟩ | exact ⟨by assumption, by assumption⟩ | (simp only [hn, r0, r1, r2, r3, e3, f1, f2, f3, f4, nI_1, pr_8_28, pr_i_1]; first | assumption | omega | exact ⟨by assumption, by assumption⟩ | exact ⟨Or.inl (by assumption), by assumption⟩))⟩, trivial⟩, (by first | assumption | decide | omega | exact ⟨Or.inl (by assumption), by assumption⟩ | exact ⟨by assumption, by assumption⟩ | (simp only [hn, r0, r1, r2, r3, e3, f1, f2, f3, f4, nI_1, pr_8_28, pr_i_1]; first | assumption | omega | exact ⟨by assumption, by assumption⟩ | exact ⟨Or.inl (by assumption), by assumption⟩))⟩, (by first | assumption | decide | omega | exact ⟨Or.inl (by assumption), by assumption⟩ | exact ⟨by assumption, by assumption⟩ | (simp only [hn, r0, r1, r2, r3, e3, f1, f2, f3, f4, nI_1, pr_8_28, pr_i_1]; first | assumption | omega | exact ⟨by assumption, by assumption⟩ | exact ⟨Or.inl (by assumption), by assumption⟩))⟩, (by first | assumption | decide | omega | exact ⟨Or.inl (by assumption), by assumption⟩ | exact ⟨by assumption, by assumption⟩ | (simp only [hn, r0, r1, r2, r3, e3, f1, f2, f3, f4, nI_1, pr_8_28, pr_i_1]; first | assumption | omega | exact ⟨by assumption, by assumption⟩ | exact ⟨Or.inl (by assumption), by assumption⟩))⟩, (by first | assumption | decide | omega | exact ⟨Or.inl (by assumption), by assumption⟩ | exact ⟨by assumption, by assumption⟩ | (simp only [hn, r0, r1, r2, r3, e3, f1, f2, f3, f4, nI_1, pr_8_28, pr_i_1]; first | assumption | omega | exact ⟨by assumption, by assumption⟩ | exact ⟨Or.inl (by assumption), by assumption⟩))⟩, (by first | assumption | decide | omega | exact ⟨Or.inl (by assumption), by assumption⟩ | exact ⟨by assumption, by assumption⟩ | (simp only [hn, r0, r1, r2, r3, e3, f1, f2, f3, f4, nI_1, pr_8_28, pr_i_1]; first | assumption | omega | exact ⟨by assumption, by assumption⟩ | exact ⟨Or.inl (by assumption), by assumption⟩))⟩, trivial⟩, (by first | assumption | decide | omega | exact ⟨Or.inl (by assumption), by assumption⟩ | exact ⟨by assumption, by assumption⟩ | (simp only [hn, r0, r1, r2, r3, e3, f1, f2, f3, f4, nI_1, pr_8_28, pr_i_1]; first | assumption | omega | exact ⟨by assumption, by assumption⟩ | exact ⟨Or.inl (by assumption), by assumption⟩))⟩, (by first | assumption | decide | omega | exact ⟨Or.inl (by assumption), by assumption⟩ | exact ⟨by assumption, by assumption⟩ | (simp only [hn, r0, r1, r2, r3, e3, f1, f2, f3, f4, nI_1, pr_8_28, pr_i_1]; first | assumption | omega | exact ⟨by assumption, by assumption⟩ | exact ⟨Or.inl (by assumption), by assumption⟩))⟩, (by first | assumption | decide | omega | exact ⟨Or.inl (by assumption), by assumption⟩ | exact ⟨by assumption, by assumption⟩ | (simp only [hn, r0, r1, r2, r3, e3, f1, f2, f3, f4, nI_1, pr_8_28, pr_i_1]; first | assumption | omega | exact ⟨by assumption, by assumption⟩ | exact ⟨Or.inl (by assumption), by assumption⟩))⟩, (by first | assumption | decide | omega | exact ⟨Or.inl (by assumption), by assumption⟩ | exact ⟨by assumption, by assumption⟩ | (simp only [hn, r0, r1, r2, r3, e3, f1, f2, f3, f4, nI_1, pr_8_28, pr_i_1]; first | assumption | omega | exact ⟨by assumption, by assumption⟩ | exact ⟨Or.inl (by assumption), by assumption⟩))⟩, (by first | assumption | decide | omega | exact ⟨Or.inl (by assumption), by assumption⟩ | exact ⟨by assumption, by assumption⟩ | (simp only [hn, r0, r1, r2, r3, e3, f1, f2, f3, f4, nI_1, pr_8_28, pr_i_1]; first | assumption | omega | exact ⟨by assumption, by assumption⟩ | exact ⟨Or.inl (by assumption), by assumption⟩))⟩, trivial⟩, (by first | assumption | decide | omega | exact ⟨Or.inl (by assumption), by assumption⟩ | exact ⟨by assumption, by assumption⟩ | (simp only [hn, r0, r1, r2, r3, e3, f1, f2, f3, f4, nI_1, pr_8_28, pr_i_1]; first | assumption | omega | exact ⟨by assumption, by assumption⟩ | exact ⟨Or.inl (by assumption), by assumption⟩))⟩, (by first | assumption | decide | omega | exact ⟨Or.inl (by assumption), by assumption⟩ | exact ⟨by assumption, by assumption⟩ | (simp only [hn, r0, r1, r2, r3, e3, f1, f2, f3, f4, nI_1, pr_8_28, pr_i_1]; first | assumption | omega | exact ⟨by assumption, by assumption⟩ | exact ⟨Or.inl (by assumption), by assumption⟩))⟩, trivial⟩, (by first | assumption | decide | omega | exact ⟨Or.inl (by assumption), by assumption⟩ | exact ⟨by assumption, by assumption⟩ | (simp only [hn, r0, r1, r2, r3, e3, f1, f2, f3, f4, nI_1, pr_8_28, pr_i_1]; first | assumption | omega | exact ⟨by assumption, by assumption⟩ | exact ⟨Or.inl (by assumption), by assumption⟩))⟩, trivial⟩, trivial⟩, (by first | assumption | decide | omega | exact ⟨Or.inl (by assumption), by assumption⟩ | exact ⟨by assumption, by assumption⟩ | (simp only [hn, r0, r1, r2, r3, e3, f1, f2, f3, f4, nI_1, pr_8_28, pr_i_1]; first | assumption | omega | exact ⟨by assumption, by assumption⟩ | exact ⟨Or.inl (by assumption), by assumption⟩))⟩ ?_
    try simp only [hn, r0, r1, r2, r3, e3, f1, f2, f3, f4, nI_1, pr_8_28, pr_i_1]
    exact pr_vrM rfl rfl rfl (by rfl)
theorem cs_ap_far {I : Nat → Nat → Int32} {c n a : Nat} {s k d w : Int32} (h : a < c ∨ c + 4 < a) : cs_ap I c n s k d w a = I a := by
  unfold cs_ap
  rw [ab_u_ne (by omega), ab_u_ne (by omega), ab_u_ne (by omega), ab_u_ne (by omega), ab_u_ne (by omega)]
theorem cs_ap_v {I : Nat → Nat → Int32} {c n : Nat} {S : Nat → Int32} {K Dt Wl : Nat → Nat} (hv : cs_v I c n S K Dt Wl) (h28 : n < 28) (hk : K n ≤ 4) : cs_v (cs_ap I c n (S n) (nI (K n)) (nI (Dt n)) (nI (Wl n))) c (n + 1) S K Dt Wl := by
  obtain ⟨v1, v2, v3⟩ := hv
  refine ⟨by unfold cs_ap; rw [ab_u_at], h28, fun p hp => ?_⟩
  by_cases e : p = n
  · subst e
    refine ⟨?_, ?_, hk, ?_, ?_⟩
    · unfold cs_ap; rw [ab_u_ne (by omega), ab_u_ne (by omega), ab_u_ne (by omega), ab_u_ne (by omega), ab_u_at]
    · unfold cs_ap; rw [ab_u_ne (by omega), ab_u_ne (by omega), ab_u_ne (by omega), ab_u_at]
    · unfold cs_ap; rw [ab_u_ne (by omega), ab_u_ne (by omega), ab_u_at]
    · unfold cs_ap; rw [ab_u_ne (by omega), ab_u_at]
  · obtain ⟨x1, x2, x3, x4, x5⟩ := v3 p (by omega)
    refine ⟨?_, ?_, x3, ?_, ?_⟩
    · unfold cs_ap; rw [ab_u_ne (by omega), ab_u_ne (by omega), ab_u_ne (by omega), ab_u_ne (by omega), ab_u_j e]; exact x1
    · unfold cs_ap; rw [ab_u_ne (by omega), ab_u_ne (by omega), ab_u_ne (by omega), ab_u_j e, ab_u_ne (by omega)]; exact x2
    · unfold cs_ap; rw [ab_u_ne (by omega), ab_u_ne (by omega), ab_u_j e, ab_u_ne (by omega), ab_u_ne (by omega)]; exact x4
    · unfold cs_ap; rw [ab_u_ne (by omega), ab_u_j e, ab_u_ne (by omega), ab_u_ne (by omega), ab_u_ne (by omega)]; exact x5
theorem c_addChild {c n : Nat} (s : Int32) (h : ab_H) (M : ab_M) (hc : pr_Cs h M.2.2 c) (hn : M.1 c 5 = nI n) (h28 : n < 28) : pr_C pX0_addChild [.ref c, .int s] h M none h (cs_ap M.1 c n s 0 0 0, M.2.1, M.2.2) := by
  obtain ⟨c0, c1, -⟩ := id hc
  refine pr_seq (pc' := 5) 5 rfl ⟨⟨⟨⟨⟨trivial, (by first | assumption | decide | omega | exact ⟨Or.inl (by assumption), by assumption⟩ | exact ⟨by assumption, by assumption⟩)⟩, trivial⟩, trivial⟩, trivial⟩, trivial⟩ ?_
  refine pr_cv [_, _, _, _] rfl rfl rfl rfl rfl (Nat.le_of_ble_eq_true rfl) (by first | assumption | decide | omega | exact ⟨Or.inl (by assumption), by assumption⟩ | exact ⟨by assumption, by assumption⟩) (Nat.le_of_ble_eq_true rfl) (c_append s 0 0 0 h M hc hn h28) ?_
  exact pr_vrM rfl rfl rfl (by rfl)
/-- what a census of a land holds -/
def d_pn (d : Ld) (p : Nat) : Pn := d.2.1.getD p (0, 0, 0, [])
def d_S (d : Ld) (p : Nat) : Nat := a_sum d.1 d.2.2.1 (d_pn d p).1 (d_pn d p).2.2.2
theorem d_pn_at {d : Ld} {p : Nat} (h : p < d.2.1.length) : d.2.1[p]? = some (d_pn d p) := by
  unfold d_pn
  rw [List.getD_eq_getElem?_getD, List.getElem?_eq_getElem h]
  rfl
theorem c_take {c g : Nat} {d : Ld} (h : ab_H) (M : ab_M) (hc : pr_Cs h M.2.2 c) (hg : pr_Ld h M.2.2 g) (hcg : c + 5 < g ∨ g + 27 ≤ c) (hd : ld_v M.1 g d) : pr_X pX0_take [.ref c, .ref g] h M (fun r M' => r = none ∧ M'.2 = M.2 ∧ cs_v M'.1 c d.2.1.length (fun p => nI (d_S d p)) (fun p => (d_pn d p).1) (fun p => (d_pn d p).2.1) (fun p => (d_pn d p).2.2.1) ∧ ∀ a, (a < c ∨ c + 4 < a) → M'.1 a = M.1 a) := by
  obtain ⟨c0, c1, -⟩ := id hc
  obtain ⟨g0, g1, r1, r2, k1, k2, ⟨k3, k4⟩, hon⟩ := id hg
  have loop : ∀ dd k I, k + dd = d.2.1.length → (∀ a, (a < c ∨ c + 4 < a) → I a = M.1 a) → cs_v I c k (fun p => nI (d_S d p)) (fun p => (d_pn d p).1) (fun p => (d_pn d p).2.1) (fun p => (d_pn d p).2.2.1) → ∀ o3 : Option Value, pr_T pX0_take 7 [some (.ref c), some (.ref g), some (.int (nI k)), o3] [] h (I, M.2.1, M.2.2) (fun r M' => r = none ∧ M'.2 = M.2 ∧ cs_v M'.1 c d.2.1.length (fun p => nI (d_S d p)) (fun p => (d_pn d p).1) (fun p => (d_pn d p).2.1) (fun p => (d_pn d p).2.2.1) ∧ ∀ a, (a < c ∨ c + 4 < a) → M'.1 a = M.1 a) := by
    intro dd
    induction dd with
    | zero =>
      intro k I hk hf hv o3
      obtain rfl : k = d.2.1.length := by omega
      obtain ⟨d1, d2, -⟩ := id hd
      have x1 : I g 2 = nI d.2.1.length := by rw [hf g (by omega)]; exact d1
      have e1 : nI d.2.1.length ≤ nI d.2.1.length := nI_le (Nat.le_refl _) (by omega)
      refine pr_seqT (pc' := 12) 3 rfl ⟨⟨⟨trivial, trivial⟩, (by first | assumption | decide | omega | exact ⟨Or.inl (by assumption), by assumption⟩ | exact ⟨by assumption, by assumption⟩ | (simp only [x1, pr_i_0, pr_i_1]; first | assumption | omega | exact ⟨by assumption, by assumption⟩ | exact ⟨Or.inl (by assumption), by assumption⟩))⟩, (by first | assumption | decide | omega | exact ⟨Or.inl (by assumption), by assumption⟩ | exact ⟨by assumption, by assumption⟩ | (simp only [x1, pr_i_0, pr_i_1]; first | assumption | omega | exact ⟨by assumption, by assumption⟩ | exact ⟨Or.inl (by assumption), by assumption⟩))⟩ ?_
      try simp only [x1, pr_i_0, pr_i_1]
      refine pr_icT rfl (fun h12 => ?_) (fun h12 => ?_)
      · simp only [ab_cmp, pr_i_0, pr_i_1] at h12
        exact pr_vrT rfl rfl (by exact ⟨rfl, rfl, hv, hf⟩)
      · simp only [ab_cmp, pr_i_0, pr_i_1] at h12
        exact absurd e1 h12
    | succ dd ih =>
      intro k I hk hf hv o3
      obtain ⟨d1, d2, d3, d4, d5, d6, d7, d8⟩ := id hd
      have hl : k < d.2.1.length := by omega
      have h8 : k < 8 := by omega
      have x1 : I g 2 = nI d.2.1.length := by rw [hf g (by omega)]; exact d1
      have e1 : ¬ nI d.2.1.length ≤ nI k := nI_ge (by omega) (by omega)
      have e3 : (nI k).toNatClampNeg = k := nI_clamp (by omega)
      obtain ⟨y1, y2, y3, y4, y5⟩ := hon k h8
      have hq := d_pn_at hl
      have hdI : ld_v I g d := ld_v_congr (fun a _ _ => hf a (by omega)) hd
      obtain ⟨q1, q2, q3, q4, q5, q6, q7⟩ := hdI.2.2.2.2.2.2.2 k _ hq
      have vi : (24 ≤ ab_k h (g + 2) ∧ ab_k h (g + 2) ≤ 27) ∧ vp_in (nI k) (ab_n h (g + 2)) := ⟨by rw [k3]; decide, by rw [k4]; exact vp_in_nI h8 (by decide)⟩
      have hs := c_sumOfOne h (I, M.2.1, M.2.2) hg hdI hq
      have hh := ih (k + 1) (cs_ap I c k (nI (d_S d k)) (nI (d_pn d k).1) (nI (d_pn d k).2.1) (nI (d_pn d k).2.2.1)) (by omega) (fun a ha => by rw [cs_ap_far ha]; exact hf a ha) (cs_ap_v hv (by omega) q2)
      rw [← nI_1] at hh
      refine pr_seqT (pc' := 12) 3 rfl ⟨⟨⟨trivial, trivial⟩, (by first | assumption | decide | omega | exact ⟨Or.inl (by assumption), by assumption⟩ | exact ⟨by assumption, by assumption⟩ | (simp only [x1, r2, e3, y1, q1, q3, q5, pr_i_0, pr_i_1]; first | assumption | omega | exact ⟨by assumption, by assumption⟩ | exact ⟨Or.inl (by assumption), by assumption⟩))⟩, (by first | assumption | decide | omega | exact ⟨Or.inl (by assumption), by assumption⟩ | exact ⟨by assumption, by assumption⟩ | (simp only [x1, r2, e3, y1, q1, q3, q5, pr_i_0, pr_i_1]; first | assumption | omega | exact ⟨by assumption, by assumption⟩ | exact ⟨Or.inl (by assumption), by assumption⟩))⟩ ?_
      try simp only [x1, r2, e3, y1, q1, q3, q5, pr_i_0, pr_i_1]
      refine pr_icT rfl (fun h12 => ?_) (fun h12 => ?_)
      · simp only [ab_cmp, pr_i_0, pr_i_1] at h12
        exact absurd h12 e1
      · simp only [ab_cmp, pr_i_0, pr_i_1] at h12
        refine pr_seqT (pc' := 25) 8 rfl ⟨⟨⟨⟨⟨⟨⟨⟨trivial, (by first | assumption | decide | omega | exact ⟨Or.inl (by assumption), by assumption⟩ | exact ⟨by assumption, by assumption⟩ | (simp only [x1, r2, e3, y1, q1, q3, q5, pr_i_0, pr_i_1]; first | assumption | omega | exact ⟨by assumption, by assumption⟩ | exact ⟨Or.inl (by assumption), by assumption⟩))⟩, (by first | assumption | decide | omega | exact ⟨Or.inl (by assumption), by assumption⟩ | exact ⟨by assumption, by assumption⟩ | (simp only [x1, r2, e3, y1, q1, q3, q5, pr_i_0, pr_i_1]; first | assumption | omega | exact ⟨by assumption, by assumption⟩ | exact ⟨Or.inl (by assumption), by assumption⟩))⟩, trivial⟩, (by first | assumption | decide | omega | exact ⟨Or.inl (by assumption), by assumption⟩ | exact ⟨by assumption, by assumption⟩ | (simp only [x1, r2, e3, y1, q1, q3, q5, pr_i_0, pr_i_1]; first | assumption | omega | exact ⟨by assumption, by assumption⟩ | exact ⟨Or.inl (by assumption), by assumption⟩))⟩, (by first | assumption | decide | omega | exact ⟨Or.inl (by assumption), by assumption⟩ | exact ⟨by assumption, by assumption⟩ | (simp only [x1, r2, e3, y1, q1, q3, q5, pr_i_0, pr_i_1]; first | assumption | omega | exact ⟨by assumption, by assumption⟩ | exact ⟨Or.inl (by assumption), by assumption⟩))⟩, (by first | assumption | decide | omega | exact ⟨Or.inl (by assumption), by assumption⟩ | exact ⟨by assumption, by assumption⟩ | (simp only [x1, r2, e3, y1, q1, q3, q5, pr_i_0, pr_i_1]; first | assumption | omega | exact ⟨by assumption, by assumption⟩ | exact ⟨Or.inl (by assumption), by assumption⟩))⟩, (by first | assumption | decide | omega | exact ⟨Or.inl (by assumption), by assumption⟩ | exact ⟨by assumption, by assumption⟩ | (simp only [x1, r2, e3, y1, q1, q3, q5, pr_i_0, pr_i_1]; first | assumption | omega | exact ⟨by assumption, by assumption⟩ | exact ⟨Or.inl (by assumption), by assumption⟩))⟩, trivial⟩ ?_
        try simp only [x1, r2, e3, y1, q1, q3, q5, pr_i_0, pr_i_1]
        refine pr_cvT [_] rfl rfl rfl rfl rfl (Nat.le_of_ble_eq_true rfl) (by first | assumption | decide | omega | exact ⟨Or.inl (by assumption), by assumption⟩ | exact ⟨by assumption, by assumption⟩ | (simp only [x1, r2, e3, y1, q1, q3, q5, pr_i_0, pr_i_1]; first | assumption | omega | exact ⟨by assumption, by assumption⟩ | exact ⟨Or.inl (by assumption), by assumption⟩)) (Nat.le_of_ble_eq_true rfl) (hs) ?_
        refine pr_seqT (pc' := 40) 6 rfl ⟨⟨⟨⟨⟨⟨trivial, (by first | assumption | decide | omega | exact ⟨Or.inl (by assumption), by assumption⟩ | exact ⟨by assumption, by assumption⟩ | (simp only [x1, r2, e3, y1, q1, q3, q5, pr_i_0, pr_i_1]; first | assumption | omega | exact ⟨by assumption, by assumption⟩ | exact ⟨Or.inl (by assumption), by assumption⟩))⟩, (by first | assumption | decide | omega | exact ⟨Or.inl (by assumption), by assumption⟩ | exact ⟨by assumption, by assumption⟩ | (simp only [x1, r2, e3, y1, q1, q3, q5, pr_i_0, pr_i_1]; first | assumption | omega | exact ⟨by assumption, by assumption⟩ | exact ⟨Or.inl (by assumption), by assumption⟩))⟩, (by first | assumption | decide | omega | exact ⟨Or.inl (by assumption), by assumption⟩ | exact ⟨by assumption, by assumption⟩ | (simp only [x1, r2, e3, y1, q1, q3, q5, pr_i_0, pr_i_1]; first | assumption | omega | exact ⟨by assumption, by assumption⟩ | exact ⟨Or.inl (by assumption), by assumption⟩))⟩, (by first | assumption | decide | omega | exact ⟨Or.inl (by assumption), by assumption⟩ | exact ⟨by assumption, by assumption⟩ | (simp only [x1, r2, e3, y1, q1, q3, q5, pr_i_0, pr_i_1]; first | assumption | omega | exact ⟨by assumption, by assumption⟩ | exact ⟨Or.inl (by assumption), by assumption⟩))⟩, (by first | assumption | decide | omega | exact ⟨Or.inl (by assumption), by assumption⟩ | exact ⟨by assumption, by assumption⟩ | (simp only [x1, r2, e3, y1, q1, q3, q5, pr_i_0, pr_i_1]; first | assumption | omega | exact ⟨by assumption, by assumption⟩ | exact ⟨Or.inl (by assumption), by assumption⟩))⟩, (by first | assumption | decide | omega | exact ⟨Or.inl (by assumption), by assumption⟩ | exact ⟨by assumption, by assumption⟩ | (simp only [x1, r2, e3, y1, q1, q3, q5, pr_i_0, pr_i_1]; first | assumption | omega | exact ⟨by assumption, by assumption⟩ | exact ⟨Or.inl (by assumption), by assumption⟩))⟩ ?_
        try simp only [x1, r2, e3, y1, q1, q3, q5, pr_i_0, pr_i_1]
        refine pr_cvT [_, _, _, _] rfl rfl rfl rfl rfl (Nat.le_of_ble_eq_true rfl) (by first | assumption | decide | omega | exact ⟨Or.inl (by assumption), by assumption⟩ | exact ⟨by assumption, by assumption⟩ | (simp only [x1, r2, e3, y1, q1, q3, q5, pr_i_0, pr_i_1]; first | assumption | omega | exact ⟨by assumption, by assumption⟩ | exact ⟨Or.inl (by assumption), by assumption⟩)) (Nat.le_of_ble_eq_true rfl) (c_append _ _ _ _ h (I, M.2.1, M.2.2) hc hv.1 (by omega)) ?_
        refine pr_seqT (pc' := 7) 2 rfl ⟨⟨trivial, trivial⟩, trivial⟩ ?_
        try simp only [x1, r2, e3, y1, q1, q3, q5, pr_i_0, pr_i_1]
        exact hh _
  refine pr_seqT (pc' := 7) 5 rfl ⟨⟨⟨⟨⟨trivial, (by first | assumption | decide | omega | exact ⟨Or.inl (by assumption), by assumption⟩ | exact ⟨by assumption, by assumption⟩)⟩, trivial⟩, (by first | assumption | decide | omega | exact ⟨Or.inl (by assumption), by assumption⟩ | exact ⟨by assumption, by assumption⟩)⟩, trivial⟩, trivial⟩ ?_
  exact loop d.2.1.length 0 _ (by omega) (fun a ha => ab_u_ne (by omega)) ⟨ab_u_at, by omega, fun p hp => absurd hp (by omega)⟩ none
