
/-! ===== the reference: least raises ===== -/
theorem i_subI {a b : Nat} (ha : a ≤ 100000) (hb : b ≤ 100000) : (nI a - nI b).toInt = (a : Int) - b := by
  rw [Int32.toInt_sub, nI_toInt (by omega), nI_toInt (by omega)]
  exact Int.bmod_eq_of_le (by omega) (by omega)
abbrev rQ (d : Ld) (kind : Nat) (w : List Nat) : Nat → Nat → Nat := rS d kind w
theorem rC_m {w : List Nat} {i m : Nat} (hl : w.getD i 0 < 26) (hm : m < 4) : m < rC w i ↔ w.getD i 0 + m < 26 := by
  unfold rC
  split <;> omega
theorem rS_b {d : Ld} {F : Nat → Int32} {kind i m : Nat} {w : List Nat} (hv : pg_r F d) (hl : w.getD i 0 + m < 26) (hi : i < 20) : rQ d kind w i m ≤ 40 * (i + 1) := by
  have g7 := hv.2.2.2.2.2.2.1 _ hl
  show a_w d.2.2.1 kind (w.getD i 0 + m) i * d.1 (w.getD i 0 + m) ≤ _
  have : a_w d.2.2.1 kind (w.getD i 0 + m) i ≤ i + 1 := by unfold a_w; split <;> (try split) <;> (try split) <;> omega
  calc a_w d.2.2.1 kind (w.getD i 0 + m) i * d.1 (w.getD i 0 + m) ≤ (i + 1) * 40 := Nat.mul_le_mul this g7.2
    _ = 40 * (i + 1) := Nat.mul_comm _ _
theorem dL_b (c : Nat → Nat) (sh : Nat → Nat → Nat) (d i s : Nat) : dL c sh d i s ≤ 100000 := dL_le d i s
/-- a row of the least raises -/
def lv_r (I : Nat → Nat → Int32) (c : Nat → Nat) (sh : Nat → Nat → Nat) (n j : Nat) : Prop := ∀ s, s < 8401 → I 182 (8401 * j + s) = nI (dL c sh (n - j) j s)
theorem q_leastBy {d : Ld} {p i s m : Nat} (h : ab_H) (M : ab_M) (hl : rL h M.2.2) (hv : pg_r (M.1 173) d) (hp : p < d.2.1.length) (hi : i < (d_pn d p).2.2.2.length) (hs : s < 8401) (hm : m < 4) (hr : lv_r M.1 (rC (d_pn d p).2.2.2) (rQ d (d_pn d p).1 (d_pn d p).2.2.2) (d_pn d p).2.2.2.length (i + 1)) : pr_C pX11_leastBy [.ref 172, .int (nI p), .int (nI i), .int (nI s), .int (nI m)] h M (some (.int (nI (dB (rC (d_pn d p).2.2.2) (rQ d (d_pn d p).1 (d_pn d p).2.2.2) (dL (rC (d_pn d p).2.2.2) (rQ d (d_pn d p).1 (d_pn d p).2.2.2) ((d_pn d p).2.2.2.length - i - 1)) i s m)))) h M := by
  obtain ⟨k172, rS, rLs, rKn, rPg, rRl, rRk, rTp, rCu, rLe, rLt, rSm, rIk, rLn, rLg, rCe, ⟨kS, nS⟩, ⟨kLs, nLs⟩, ⟨kKn, nKn⟩, ⟨kPg, nPg⟩, ⟨kRl, nRl⟩, ⟨kRk, nRk⟩, ⟨kTp, nTp⟩, ⟨kCu, nCu⟩, ⟨kLe, nLe⟩, ⟨kLt, nLt⟩, ⟨kSm, nSm⟩, ⟨kIk, nIk⟩, ⟨kLn, nLn⟩, ⟨kLg, nLg⟩, kCe, nCe⟩ := id hl
  obtain ⟨g1, g2, g3, g4, g5, ⟨g6, g6'⟩, g7, g8⟩ := id hv
  obtain ⟨y1, y2, y3, y4, y5, y6, y7, y8, y9⟩ := g8 p hp
  have hki := q_kindOf h M hl hv hp
  generalize (d_pn d p).1 = kd at *
  generalize (d_pn d p).2.2.2 = w at *
  obtain ⟨z1, z2⟩ := y9 i hi
  have n1 : ∀ a : Nat, Int32.ofNat a = nI a := fun _ => rfl
  unfold dB
  by_cases cl : w.getD i 0 + m < 26
  · have e1 : ¬ nI 26 ≤ nI (w.getD i 0 + m) := nI_ge cl (by decide)
    have hco := q_counts (l := w.getD i 0 + m) (i := i) (kind := kd) h M hl hv cl (by omega) (by omega)
    have hsb := rS_b (kind := kd) (w := w) (i := i) (m := m) hv cl (by omega)
    have hsh : a_w d.2.2.1 kd (w.getD i 0 + m) i * d.1 (w.getD i 0 + m) = rQ d kd w i m := rfl
    rw [hsh] at hco
    by_cases cs : rQ d kd w i m ≤ s
    · rw [if_pos ⟨(rC_m z2 hm).mpr cl, cs⟩]
      have e2 : nI s - nI (rQ d kd w i m) = nI (s - rQ d kd w i m) := i_sub cs
      have e3 : 0 ≤ nI (s - rQ d kd w i m) := nI_pos' (by omega)
      have hv2 := hr (s - rQ d kd w i m) (by omega)
      rw [show w.length - (i + 1) = w.length - i - 1 by omega] at hv2
      have c8401 : (8401 : Int32) = nI 8401 := rfl
      refine pr_seq (pc' := 22) 15 rfl ⟨⟨⟨⟨⟨⟨⟨⟨⟨⟨⟨⟨⟨⟨⟨trivial, (by first | decide | assumption)⟩, (by assumption)⟩, trivial⟩, trivial⟩, trivial⟩, trivial⟩, trivial⟩, trivial⟩, trivial⟩, (by (try simp (disch := omega) only [c4, c26, z1, e2, c8401, hv2, rS, rLt, rI_mul, nI_add, nI_1, nI_clamp, c24, pr_16_8401, pr_8_24, pr_8_26, pr_i_1, pr_i_4, pr_i_m1]); exact ⟨Or.inl (by assumption), rvin (by assumption) (by omega) (by decide)⟩)⟩, trivial⟩, trivial⟩, trivial⟩, trivial⟩, trivial⟩ ?_
      try simp (disch := omega) only [c4, c26, z1, e2, c8401, hv2, rS, rLt, rI_mul, nI_add, nI_1, nI_clamp, c24, pr_16_8401, pr_8_24, pr_8_26, pr_i_1, pr_i_4, pr_i_m1]
      refine pr_ic rfl (fun h22 => ?_) (fun h22 => ?_)
      · simp only [ab_cmp, pr_16_8401, pr_8_24, pr_8_26, pr_i_1, pr_i_4, pr_i_m1] at h22
        exact absurd h22 e1
      · simp only [ab_cmp, pr_16_8401, pr_8_24, pr_8_26, pr_i_1, pr_i_4, pr_i_m1] at h22
        first
        | contradiction
        | exact absurd trivial h22
        | exact absurd h22 (by decide)
        | exact absurd (Classical.not_not.mp h22) (by decide)
        | skip
          refine pr_seq (pc' := 32) 6 rfl ⟨⟨⟨⟨⟨⟨trivial, trivial⟩, (by first | decide | assumption)⟩, trivial⟩, trivial⟩, (by first | decide | assumption)⟩, trivial⟩ ?_
          try simp (disch := omega) only [c4, c26, z1, e2, c8401, hv2, rS, rLt, rI_mul, nI_add, nI_1, nI_clamp, c24, pr_16_8401, pr_8_24, pr_8_26, pr_i_1, pr_i_4, pr_i_m1]
          refine pr_cv [_] rfl rfl rfl rfl rfl (Nat.le_of_ble_eq_true rfl) (by first | assumption | decide | (simp (disch := omega) only [c4, c26, z1, e2, c8401, hv2, rS, rLt, rI_mul, nI_add, nI_1, nI_clamp, c24, pr_16_8401, pr_8_24, pr_8_26, pr_i_1, pr_i_4, pr_i_m1]; first | assumption | exact ⟨Or.inl (by assumption), rvin (by assumption) (by omega) (by decide)⟩ | exact ⟨by assumption, rvin (by assumption) (by omega) (by decide)⟩ | exact ⟨⟨by omega, by omega⟩, rvin (by assumption) (by omega) (by decide)⟩ | exact ⟨Or.inr (by assumption), rvin (by assumption) (by omega) (by decide)⟩ | exact ⟨Or.inr ⟨by assumption, (by first | exact Or.inl rfl | exact Or.inr rfl | exact pr_b01 _)⟩, rvin (by assumption) (by omega) (by decide)⟩ | exact ⟨by assumption, by assumption⟩ | decide | omega)) (Nat.le_of_ble_eq_true rfl) (hki) ?_
          refine pr_cv [_, _, _] rfl rfl rfl rfl rfl (Nat.le_of_ble_eq_true rfl) (by first | assumption | decide | (simp (disch := omega) only [c4, c26, z1, e2, c8401, hv2, rS, rLt, rI_mul, nI_add, nI_1, nI_clamp, c24, pr_16_8401, pr_8_24, pr_8_26, pr_i_1, pr_i_4, pr_i_m1]; first | assumption | exact ⟨Or.inl (by assumption), rvin (by assumption) (by omega) (by decide)⟩ | exact ⟨by assumption, rvin (by assumption) (by omega) (by decide)⟩ | exact ⟨⟨by omega, by omega⟩, rvin (by assumption) (by omega) (by decide)⟩ | exact ⟨Or.inr (by assumption), rvin (by assumption) (by omega) (by decide)⟩ | exact ⟨Or.inr ⟨by assumption, (by first | exact Or.inl rfl | exact Or.inr rfl | exact pr_b01 _)⟩, rvin (by assumption) (by omega) (by decide)⟩ | exact ⟨by assumption, by assumption⟩ | decide | omega)) (Nat.le_of_ble_eq_true rfl) (hco) ?_
          refine pr_seq (pc' := 47) 4 rfl ⟨⟨⟨⟨trivial, trivial⟩, trivial⟩, trivial⟩, trivial⟩ ?_
          try simp (disch := omega) only [c4, c26, z1, e2, c8401, hv2, rS, rLt, rI_mul, nI_add, nI_1, nI_clamp, c24, pr_16_8401, pr_8_24, pr_8_26, pr_i_1, pr_i_4, pr_i_m1]
          refine pr_if rfl (fun h47 => ?_) (fun h47 => ?_)
          · simp only [ab_cmp, pr_16_8401, pr_8_24, pr_8_26, pr_i_1, pr_i_4, pr_i_m1] at h47
            first
            | contradiction
            | exact absurd trivial h47
            | exact absurd h47 (by decide)
            | exact absurd (Classical.not_not.mp h47) (by decide)
            | skip
              refine pr_seq (pc' := 73) 12 rfl ⟨⟨⟨⟨⟨⟨⟨⟨⟨⟨⟨⟨trivial, trivial⟩, (by first | decide | assumption)⟩, (by assumption)⟩, trivial⟩, trivial⟩, trivial⟩, trivial⟩, trivial⟩, trivial⟩, trivial⟩, (by (try simp (disch := omega) only [c4, c26, z1, e2, c8401, hv2, rS, rLt, rI_mul, nI_add, nI_1, nI_clamp, c24, pr_16_8401, pr_8_24, pr_8_26, pr_i_1, pr_i_4, pr_i_m1]); exact ⟨Or.inl (by assumption), rvin (by assumption) (by omega) (by decide)⟩)⟩, trivial⟩ ?_
              try simp (disch := omega) only [c4, c26, z1, e2, c8401, hv2, rS, rLt, rI_mul, nI_add, nI_1, nI_clamp, c24, pr_16_8401, pr_8_24, pr_8_26, pr_i_1, pr_i_4, pr_i_m1]
              exact pr_irM rfl (by rfl) trivial (by rfl)
          · simp only [ab_cmp, pr_16_8401, pr_8_24, pr_8_26, pr_i_1, pr_i_4, pr_i_m1] at h47
            exact absurd e3 h47
    · rw [if_neg (fun q => cs q.2)]
      have e3 : ¬ 0 ≤ nI s - nI (rQ d kd w i m) := by
        rw [Int32.le_iff_toInt_le, i_subI (by omega) (by omega)]
        have : (0 : Int32).toInt = 0 := by decide
        omega
      refine pr_seq (pc' := 22) 15 rfl ⟨⟨⟨⟨⟨⟨⟨⟨⟨⟨⟨⟨⟨⟨⟨trivial, (by first | decide | assumption)⟩, (by assumption)⟩, trivial⟩, trivial⟩, trivial⟩, trivial⟩, trivial⟩, trivial⟩, trivial⟩, (by (try simp (disch := omega) only [c4, c26, z1, rS, rLt, rI_mul, nI_add, nI_1, nI_clamp, c24, pr_16_8401, pr_8_24, pr_8_26, pr_i_1, pr_i_4, pr_i_m1]); exact ⟨Or.inl (by assumption), rvin (by assumption) (by omega) (by decide)⟩)⟩, trivial⟩, trivial⟩, trivial⟩, trivial⟩, trivial⟩ ?_
      try simp (disch := omega) only [c4, c26, z1, rS, rLt, rI_mul, nI_add, nI_1, nI_clamp, c24, pr_16_8401, pr_8_24, pr_8_26, pr_i_1, pr_i_4, pr_i_m1]
      refine pr_ic rfl (fun h22 => ?_) (fun h22 => ?_)
      · simp only [ab_cmp, pr_16_8401, pr_8_24, pr_8_26, pr_i_1, pr_i_4, pr_i_m1] at h22
        exact absurd h22 e1
      · simp only [ab_cmp, pr_16_8401, pr_8_24, pr_8_26, pr_i_1, pr_i_4, pr_i_m1] at h22
        first
        | contradiction
        | exact absurd trivial h22
        | exact absurd h22 (by decide)
        | exact absurd (Classical.not_not.mp h22) (by decide)
        | skip
          refine pr_seq (pc' := 32) 6 rfl ⟨⟨⟨⟨⟨⟨trivial, trivial⟩, (by first | decide | assumption)⟩, trivial⟩, trivial⟩, (by first | decide | assumption)⟩, trivial⟩ ?_
          try simp (disch := omega) only [c4, c26, z1, rS, rLt, rI_mul, nI_add, nI_1, nI_clamp, c24, pr_16_8401, pr_8_24, pr_8_26, pr_i_1, pr_i_4, pr_i_m1]
          refine pr_cv [_] rfl rfl rfl rfl rfl (Nat.le_of_ble_eq_true rfl) (by first | assumption | decide | (simp (disch := omega) only [c4, c26, z1, rS, rLt, rI_mul, nI_add, nI_1, nI_clamp, c24, pr_16_8401, pr_8_24, pr_8_26, pr_i_1, pr_i_4, pr_i_m1]; first | assumption | exact ⟨Or.inl (by assumption), rvin (by assumption) (by omega) (by decide)⟩ | exact ⟨by assumption, rvin (by assumption) (by omega) (by decide)⟩ | exact ⟨⟨by omega, by omega⟩, rvin (by assumption) (by omega) (by decide)⟩ | exact ⟨Or.inr (by assumption), rvin (by assumption) (by omega) (by decide)⟩ | exact ⟨Or.inr ⟨by assumption, (by first | exact Or.inl rfl | exact Or.inr rfl | exact pr_b01 _)⟩, rvin (by assumption) (by omega) (by decide)⟩ | exact ⟨by assumption, by assumption⟩ | decide | omega)) (Nat.le_of_ble_eq_true rfl) (hki) ?_
          refine pr_cv [_, _, _] rfl rfl rfl rfl rfl (Nat.le_of_ble_eq_true rfl) (by first | assumption | decide | (simp (disch := omega) only [c4, c26, z1, rS, rLt, rI_mul, nI_add, nI_1, nI_clamp, c24, pr_16_8401, pr_8_24, pr_8_26, pr_i_1, pr_i_4, pr_i_m1]; first | assumption | exact ⟨Or.inl (by assumption), rvin (by assumption) (by omega) (by decide)⟩ | exact ⟨by assumption, rvin (by assumption) (by omega) (by decide)⟩ | exact ⟨⟨by omega, by omega⟩, rvin (by assumption) (by omega) (by decide)⟩ | exact ⟨Or.inr (by assumption), rvin (by assumption) (by omega) (by decide)⟩ | exact ⟨Or.inr ⟨by assumption, (by first | exact Or.inl rfl | exact Or.inr rfl | exact pr_b01 _)⟩, rvin (by assumption) (by omega) (by decide)⟩ | exact ⟨by assumption, by assumption⟩ | decide | omega)) (Nat.le_of_ble_eq_true rfl) (hco) ?_
          refine pr_seq (pc' := 47) 4 rfl ⟨⟨⟨⟨trivial, trivial⟩, trivial⟩, trivial⟩, trivial⟩ ?_
          try simp (disch := omega) only [c4, c26, z1, rS, rLt, rI_mul, nI_add, nI_1, nI_clamp, c24, pr_16_8401, pr_8_24, pr_8_26, pr_i_1, pr_i_4, pr_i_m1]
          refine pr_if rfl (fun h47 => ?_) (fun h47 => ?_)
          · simp only [ab_cmp, pr_16_8401, pr_8_24, pr_8_26, pr_i_1, pr_i_4, pr_i_m1] at h47
            exact absurd h47 e3
          · simp only [ab_cmp, pr_16_8401, pr_8_24, pr_8_26, pr_i_1, pr_i_4, pr_i_m1] at h47
            first
            | contradiction
            | exact absurd trivial h47
            | exact absurd h47 (by decide)
            | exact absurd (Classical.not_not.mp h47) (by decide)
            | skip
              refine pr_seq (pc' := 73) 2 rfl ⟨⟨trivial, trivial⟩, trivial⟩ ?_
              try simp (disch := omega) only [c4, c26, z1, rS, rLt, rI_mul, nI_add, nI_1, nI_clamp, c24, pr_16_8401, pr_8_24, pr_8_26, pr_i_1, pr_i_4, pr_i_m1]
              exact pr_irM rfl (by rfl) trivial (by rfl)
  · rw [if_neg (fun q => cl ((rC_m z2 hm).mp q.1))]
    have e1 : nI 26 ≤ nI (w.getD i 0 + m) := nI_le (by omega) (by omega)
    have e3 : ¬ (0 : Int32) ≤ -1 := by decide
    refine pr_seq (pc' := 22) 15 rfl ⟨⟨⟨⟨⟨⟨⟨⟨⟨⟨⟨⟨⟨⟨⟨trivial, (by first | decide | assumption)⟩, (by assumption)⟩, trivial⟩, trivial⟩, trivial⟩, trivial⟩, trivial⟩, trivial⟩, trivial⟩, (by (try simp (disch := omega) only [c4, c26, z1, rS, rLt, rI_mul, nI_add, nI_1, nI_clamp, c24, pr_16_8401, pr_8_24, pr_8_26, pr_i_1, pr_i_4, pr_i_m1]); exact ⟨Or.inl (by assumption), rvin (by assumption) (by omega) (by decide)⟩)⟩, trivial⟩, trivial⟩, trivial⟩, trivial⟩, trivial⟩ ?_
    try simp (disch := omega) only [c4, c26, z1, rS, rLt, rI_mul, nI_add, nI_1, nI_clamp, c24, pr_16_8401, pr_8_24, pr_8_26, pr_i_1, pr_i_4, pr_i_m1]
    refine pr_ic rfl (fun h22 => ?_) (fun h22 => ?_)
    · simp only [ab_cmp, pr_16_8401, pr_8_24, pr_8_26, pr_i_1, pr_i_4, pr_i_m1] at h22
      first
      | contradiction
      | exact absurd trivial h22
      | exact absurd h22 (by decide)
      | exact absurd (Classical.not_not.mp h22) (by decide)
      | skip
        refine pr_seq (pc' := 47) 3 rfl ⟨⟨⟨trivial, trivial⟩, trivial⟩, trivial⟩ ?_
        try simp (disch := omega) only [c4, c26, z1, rS, rLt, rI_mul, nI_add, nI_1, nI_clamp, c24, pr_16_8401, pr_8_24, pr_8_26, pr_i_1, pr_i_4, pr_i_m1]
        refine pr_if rfl (fun h47 => ?_) (fun h47 => ?_)
        · simp only [ab_cmp, pr_16_8401, pr_8_24, pr_8_26, pr_i_1, pr_i_4, pr_i_m1] at h47
          exact absurd h47 e3
        · simp only [ab_cmp, pr_16_8401, pr_8_24, pr_8_26, pr_i_1, pr_i_4, pr_i_m1] at h47
          first
          | contradiction
          | exact absurd trivial h47
          | exact absurd h47 (by decide)
          | exact absurd (Classical.not_not.mp h47) (by decide)
          | skip
            refine pr_seq (pc' := 73) 2 rfl ⟨⟨trivial, trivial⟩, trivial⟩ ?_
            try simp (disch := omega) only [c4, c26, z1, rS, rLt, rI_mul, nI_add, nI_1, nI_clamp, c24, pr_16_8401, pr_8_24, pr_8_26, pr_i_1, pr_i_4, pr_i_m1]
            exact pr_irM rfl (by rfl) trivial (by rfl)
    · simp only [ab_cmp, pr_16_8401, pr_8_24, pr_8_26, pr_i_1, pr_i_4, pr_i_m1] at h22
      exact absurd e1 h22
/-- the least of the first k -/
def mnk (f : Nat → Nat) : Nat → Nat
  | 0 => 100000
  | k + 1 => mn (mnk f k) (f k)
theorem mnk_le (f : Nat → Nat) : ∀ k, mnk f k ≤ 100000
  | 0 => Nat.le_refl _
  | k + 1 => Nat.le_trans mn_le.1 (mnk_le f k)
theorem dB_le {c : Nat → Nat} {sh : Nat → Nat → Nat} {d i s m : Nat} (hm : m < 4) : dB c sh (dL c sh d) i s m ≤ 100003 := by
  unfold dB
  split
  · have := dL_b c sh d (i + 1) (s - sh i m); omega
  · omega
def ly_p (M : ab_M) (c : Nat → Nat) (sh : Nat → Nat → Nat) (n : Nat) (r : Option Value) (M' : ab_M) : Prop := r = none ∧ M'.2 = M.2 ∧ (∀ a, a ≠ 182 → M'.1 a = M.1 a) ∧ ∀ j, j ≤ n → lv_r M'.1 c sh n j
theorem q_lay {d : Ld} {p : Nat} (h : ab_H) (M : ab_M) (hl : rL h M.2.2) (hv : pg_r (M.1 173) d) (hp : p < d.2.1.length) : pr_X pX11_layChanges [.ref 172, .int (nI p)] h M (ly_p M (rC (d_pn d p).2.2.2) (rQ d (d_pn d p).1 (d_pn d p).2.2.2) (d_pn d p).2.2.2.length) := by
  obtain ⟨k172, rS, rLs, rKn, rPg, rRl, rRk, rTp, rCu, rLe, rLt, rSm, rIk, rLn, rLg, rCe, ⟨kS, nS⟩, ⟨kLs, nLs⟩, ⟨kKn, nKn⟩, ⟨kPg, nPg⟩, ⟨kRl, nRl⟩, ⟨kRk, nRk⟩, ⟨kTp, nTp⟩, ⟨kCu, nCu⟩, ⟨kLe, nLe⟩, ⟨kLt, nLt⟩, ⟨kSm, nSm⟩, ⟨kIk, nIk⟩, ⟨kLn, nLn⟩, ⟨kLg, nLg⟩, kCe, nCe⟩ := id hl
  have hlo := q_longOf h M hl hv hp
  have h20 := (hv.2.2.2.2.2.2.2 p hp).2.2.2.2.2.2.2.1
  have hlb : ∀ i s m, i < (d_pn d p).2.2.2.length → s < 8401 → m < 4 → ∀ I : Nat → Nat → Int32, (∀ a, a ≠ 182 → I a = M.1 a) → lv_r I (rC (d_pn d p).2.2.2) (rQ d (d_pn d p).1 (d_pn d p).2.2.2) (d_pn d p).2.2.2.length (i + 1) → pr_C pX11_leastBy [.ref 172, .int (nI p), .int (nI i), .int (nI s), .int (nI m)] h (I, M.2) (some (.int (nI (dB (rC (d_pn d p).2.2.2) (rQ d (d_pn d p).1 (d_pn d p).2.2.2) (dL (rC (d_pn d p).2.2.2) (rQ d (d_pn d p).1 (d_pn d p).2.2.2) ((d_pn d p).2.2.2.length - i - 1)) i s m)))) h (I, M.2) := fun i s m hi hs hm I hI hr => q_leastBy h (I, M.2) hl (by show pg_r (I 173) d; rw [hI 173 (by decide)]; exact hv) hp hi hs hm hr
  generalize rC (d_pn d p).2.2.2 = c at *
  generalize rQ d (d_pn d p).1 (d_pn d p).2.2.2 = sh at *
  generalize (d_pn d p).2.2.2.length = n at *
  have c8401 : (8401 : Int32) = nI 8401 := rfl
  have n100 : Int32.ofNat 100000 = nI 100000 := rfl
  have loop2 : ∀ m, m ≤ n → ∀ (I : Nat → Nat → Int32) z4 z5 z6 z7, (∀ a, a ≠ 182 → I a = M.1 a) → (∀ j, m ≤ j → j ≤ n → lv_r I c sh n j) → pr_T pX11_layChanges 47 [some (.ref 172), some (.int (nI p)), some (.int (nI n)), some (.int (nI m - 1)), z4, z5, z6, z7] [] h (I, M.2) (ly_p M c sh n) := by
    intro m
    induction m with
    | zero =>
      intro hm I z4 z5 z6 z7 f1 f2
      have e1 : nI 0 - 1 < 0 := by decide
      refine pr_seqT (pc' := 48) 1 rfl ⟨trivial, trivial⟩ ?_
      try simp (disch := omega) only [rLt, rI_mul, nI_add, nI_1, nI_clamp, pr_16_8401, pr_i_0, pr_i_1, pr_i_4, pr_i_m1]
      refine pr_ifT rfl (fun h48 => ?_) (fun h48 => ?_)
      · simp only [ab_cmp, pr_16_8401, pr_i_0, pr_i_1, pr_i_4, pr_i_m1] at h48
        first
        | contradiction
        | exact absurd trivial h48
        | exact absurd h48 (by decide)
        | exact absurd (Classical.not_not.mp h48) (by decide)
        | skip
          exact pr_vrT rfl rfl (by exact ⟨rfl, rfl, f1, fun j hj => f2 j (Nat.zero_le _) hj⟩)
      · simp only [ab_cmp, pr_16_8401, pr_i_0, pr_i_1, pr_i_4, pr_i_m1] at h48
        exact absurd e1 h48
    | succ i ih =>
      intro hm I z4 z5 z6 z7 f1 f2
      have e1 : ¬ nI i < 0 := nI_pos (by omega)
      rw [nI_pred]
      have inner : ∀ ee s, s + ee = 8401 → ∀ (I : Nat → Nat → Int32) z5 z6 z7, (∀ a, a ≠ 182 → I a = M.1 a) → (∀ j, i + 1 ≤ j → j ≤ n → lv_r I c sh n j) → (∀ s', s' < s → I 182 (8401 * i + s') = nI (dL c sh (n - i) i s')) → pr_T pX11_layChanges 54 [some (.ref 172), some (.int (nI p)), some (.int (nI n)), some (.int (nI i)), some (.int (nI s)), z5, z6, z7] [] h (I, M.2) (ly_p M c sh n) := by
        intro ee
        induction ee with
        | zero =>
          intro s hs I z5 z6 z7 f1 f2 f3
          obtain rfl : s = 8401 := by omega
          have e2 : nI 8401 ≤ nI 8401 := nI_le (Nat.le_refl _) (by decide)
          have hh := ih (by omega) I (some (.int (nI 8401))) z5 z6 z7 f1 (fun j j1 j2 => by
            by_cases e : j = i
            · subst e; exact f3
            · exact f2 j (by omega) j2)
          rw [show nI i - 1 = nI i + -1 by grind] at hh
          refine pr_seqT (pc' := 59) 2 rfl ⟨⟨trivial, trivial⟩, trivial⟩ ?_
          try simp (disch := omega) only [c8401, rLt, rI_mul, nI_add, nI_1, nI_clamp, pr_16_8401, pr_i_0, pr_i_1, pr_i_4, pr_i_m1]
          refine pr_icT rfl (fun h59 => ?_) (fun h59 => ?_)
          · simp only [ab_cmp, pr_16_8401, pr_i_0, pr_i_1, pr_i_4, pr_i_m1] at h59
            first
            | contradiction
            | exact absurd trivial h59
            | exact absurd h59 (by decide)
            | exact absurd (Classical.not_not.mp h59) (by decide)
            | skip
              refine pr_seqT (pc' := 47) 2 rfl ⟨⟨trivial, trivial⟩, trivial⟩ ?_
              try simp (disch := omega) only [c8401, rLt, rI_mul, nI_add, nI_1, nI_clamp, pr_16_8401, pr_i_0, pr_i_1, pr_i_4, pr_i_m1]
              exact hh
          · simp only [ab_cmp, pr_16_8401, pr_i_0, pr_i_1, pr_i_4, pr_i_m1] at h59
            exact absurd e2 h59
        | succ ee ih2 =>
          intro s hs I z5 z6 z7 f1 f2 f3
          have e2 : ¬ nI 8401 ≤ nI s := nI_ge (by omega) (by decide)
          have hdl : dL c sh (n - i) i s = mnk (dB c sh (dL c sh (n - i - 1)) i s) 4 := by
            obtain ⟨q, hq⟩ : ∃ q, n - i = q + 1 := ⟨n - i - 1, by omega⟩
            rw [show n - i - 1 = q by omega, hq]
            rfl
          have more : ∀ gg k, k + gg = 4 → ∀ z7, pr_T pX11_layChanges 69 [some (.ref 172), some (.int (nI p)), some (.int (nI n)), some (.int (nI i)), some (.int (nI s)), some (.int (nI (mnk (dB c sh (dL c sh (n - i - 1)) i s) k))), some (.int (nI k)), z7] [] h (I, M.2) (ly_p M c sh n) := by
            intro gg
            induction gg with
            | zero =>
              intro k hk z7
              obtain rfl : k = 4 := by omega
              have e3 : nI 4 ≤ nI 4 := nI_le (Nat.le_refl _) (by decide)
              have hh := ih2 (s + 1) (by omega) (ab_u I 182 (8401 * i + s) (nI (mnk (dB c sh (dL c sh (n - i - 1)) i s) 4))) (some (.int (nI (mnk (dB c sh (dL c sh (n - i - 1)) i s) 4)))) (some (.int (nI 4))) z7 (fun a ha => by rw [ab_u_ne ha]; exact f1 a ha) (fun j j1 j2 s' hs' => by rw [ab_u_j (by omega)]; exact f2 j j1 j2 s' hs') (fun s' hs' => by
                by_cases e : s' = s
                · rw [e, ab_u_at, hdl]
                · rw [ab_u_j (by omega)]; exact f3 s' (by omega))
              refine pr_seqT (pc' := 72) 2 rfl ⟨⟨trivial, trivial⟩, trivial⟩ ?_
              try simp (disch := omega) only [c4, c8401, rLt, rI_mul, nI_add, nI_1, nI_clamp, pr_16_8401, pr_i_0, pr_i_1, pr_i_4, pr_i_m1]
              refine pr_icT rfl (fun h72 => ?_) (fun h72 => ?_)
              · simp only [ab_cmp, pr_16_8401, pr_i_0, pr_i_1, pr_i_4, pr_i_m1] at h72
                first
                | contradiction
                | exact absurd trivial h72
                | exact absurd h72 (by decide)
                | exact absurd (Classical.not_not.mp h72) (by decide)
                | skip
                  refine pr_seqT (pc' := 54) 11 rfl ⟨⟨⟨⟨⟨⟨⟨⟨⟨⟨⟨trivial, (by first | decide | assumption)⟩, (by assumption)⟩, trivial⟩, trivial⟩, trivial⟩, trivial⟩, trivial⟩, trivial⟩, (by (try simp (disch := omega) only [c4, c8401, rLt, rI_mul, nI_add, nI_1, nI_clamp, pr_16_8401, pr_i_0, pr_i_1, pr_i_4, pr_i_m1]); exact ⟨by assumption, rvin (by assumption) (by omega) (by decide)⟩)⟩, trivial⟩, trivial⟩ ?_
                  try simp (disch := omega) only [c4, c8401, rLt, rI_mul, nI_add, nI_1, nI_clamp, pr_16_8401, pr_i_0, pr_i_1, pr_i_4, pr_i_m1]
                  exact hh
              · simp only [ab_cmp, pr_16_8401, pr_i_0, pr_i_1, pr_i_4, pr_i_m1] at h72
                exact absurd e3 h72
            | succ gg ih3 =>
              intro k hk z7
              have e3 : ¬ nI 4 ≤ nI k := nI_ge (by omega) (by decide)
              have hb := hlb i s k (by omega) (by omega) (by omega) I f1 (f2 (i + 1) (Nat.le_refl _) (by omega))
              have b1 := mnk_le (dB c sh (dL c sh (n - i - 1)) i s) k
              have b2 := dB_le (c := c) (sh := sh) (d := n - i - 1) (i := i) (s := s) (m := k) (by omega)
              have hh := ih3 (k + 1) (by omega) (some (.int (nI (dB c sh (dL c sh (n - i - 1)) i s k))))
              rw [show mnk (dB c sh (dL c sh (n - i - 1)) i s) (k + 1) = mn (mnk (dB c sh (dL c sh (n - i - 1)) i s) k) (dB c sh (dL c sh (n - i - 1)) i s k) from rfl] at hh
              unfold mn at hh
              by_cases cc : dB c sh (dL c sh (n - i - 1)) i s k < mnk (dB c sh (dL c sh (n - i - 1)) i s) k
              · rw [if_pos cc] at hh
                have e4 : ¬ nI (mnk (dB c sh (dL c sh (n - i - 1)) i s) k) ≤ nI (dB c sh (dL c sh (n - i - 1)) i s k) := nI_ge cc (by omega)
                refine pr_seqT (pc' := 72) 2 rfl ⟨⟨trivial, trivial⟩, trivial⟩ ?_
                try simp (disch := omega) only [c4, rLt, rI_mul, nI_add, nI_1, nI_clamp, pr_16_8401, pr_i_0, pr_i_1, pr_i_4, pr_i_m1]
                refine pr_icT rfl (fun h72 => ?_) (fun h72 => ?_)
                · simp only [ab_cmp, pr_16_8401, pr_i_0, pr_i_1, pr_i_4, pr_i_m1] at h72
                  exact absurd h72 e3
                · simp only [ab_cmp, pr_16_8401, pr_i_0, pr_i_1, pr_i_4, pr_i_m1] at h72
                  first
                  | contradiction
                  | exact absurd trivial h72
                  | exact absurd h72 (by decide)
                  | exact absurd (Classical.not_not.mp h72) (by decide)
                  | skip
                    refine pr_seqT (pc' := 82) 5 rfl ⟨⟨⟨⟨⟨trivial, (by first | decide | assumption)⟩, trivial⟩, trivial⟩, trivial⟩, trivial⟩ ?_
                    try simp (disch := omega) only [c4, rLt, rI_mul, nI_add, nI_1, nI_clamp, pr_16_8401, pr_i_0, pr_i_1, pr_i_4, pr_i_m1]
                    refine pr_cvT [_, _, _, _] rfl rfl rfl rfl rfl (Nat.le_of_ble_eq_true rfl) (by first | assumption | decide | (simp (disch := omega) only [c4, rLt, rI_mul, nI_add, nI_1, nI_clamp, pr_16_8401, pr_i_0, pr_i_1, pr_i_4, pr_i_m1]; first | assumption | exact ⟨Or.inl (by assumption), rvin (by assumption) (by omega) (by decide)⟩ | exact ⟨by assumption, rvin (by assumption) (by omega) (by decide)⟩ | exact ⟨⟨by omega, by omega⟩, rvin (by assumption) (by omega) (by decide)⟩ | exact ⟨Or.inr (by assumption), rvin (by assumption) (by omega) (by decide)⟩ | exact ⟨Or.inr ⟨by assumption, (by first | exact Or.inl rfl | exact Or.inr rfl | exact pr_b01 _)⟩, rvin (by assumption) (by omega) (by decide)⟩ | exact ⟨by assumption, by assumption⟩ | decide | omega)) (Nat.le_of_ble_eq_true rfl) (hb) ?_
                    refine pr_seqT (pc' := 91) 3 rfl ⟨⟨⟨trivial, trivial⟩, trivial⟩, trivial⟩ ?_
                    try simp (disch := omega) only [c4, rLt, rI_mul, nI_add, nI_1, nI_clamp, pr_16_8401, pr_i_0, pr_i_1, pr_i_4, pr_i_m1]
                    refine pr_icT rfl (fun h91 => ?_) (fun h91 => ?_)
                    · simp only [ab_cmp, pr_16_8401, pr_i_0, pr_i_1, pr_i_4, pr_i_m1] at h91
                      exact absurd h91 e4
                    · simp only [ab_cmp, pr_16_8401, pr_i_0, pr_i_1, pr_i_4, pr_i_m1] at h91
                      first
                      | contradiction
                      | exact absurd trivial h91
                      | exact absurd h91 (by decide)
                      | exact absurd (Classical.not_not.mp h91) (by decide)
                      | skip
                        refine pr_seqT (pc' := 69) 5 rfl ⟨⟨⟨⟨⟨trivial, trivial⟩, trivial⟩, trivial⟩, trivial⟩, trivial⟩ ?_
                        try simp (disch := omega) only [c4, rLt, rI_mul, nI_add, nI_1, nI_clamp, pr_16_8401, pr_i_0, pr_i_1, pr_i_4, pr_i_m1]
                        exact hh
              · rw [if_neg cc] at hh
                have e4 : nI (mnk (dB c sh (dL c sh (n - i - 1)) i s) k) ≤ nI (dB c sh (dL c sh (n - i - 1)) i s k) := nI_le (by omega) (by omega)
                refine pr_seqT (pc' := 72) 2 rfl ⟨⟨trivial, trivial⟩, trivial⟩ ?_
                try simp (disch := omega) only [c4, rLt, rI_mul, nI_add, nI_1, nI_clamp, pr_16_8401, pr_i_0, pr_i_1, pr_i_4, pr_i_m1]
                refine pr_icT rfl (fun h72 => ?_) (fun h72 => ?_)
                · simp only [ab_cmp, pr_16_8401, pr_i_0, pr_i_1, pr_i_4, pr_i_m1] at h72
                  exact absurd h72 e3
                · simp only [ab_cmp, pr_16_8401, pr_i_0, pr_i_1, pr_i_4, pr_i_m1] at h72
                  first
                  | contradiction
                  | exact absurd trivial h72
                  | exact absurd h72 (by decide)
                  | exact absurd (Classical.not_not.mp h72) (by decide)
                  | skip
                    refine pr_seqT (pc' := 82) 5 rfl ⟨⟨⟨⟨⟨trivial, (by first | decide | assumption)⟩, trivial⟩, trivial⟩, trivial⟩, trivial⟩ ?_
                    try simp (disch := omega) only [c4, rLt, rI_mul, nI_add, nI_1, nI_clamp, pr_16_8401, pr_i_0, pr_i_1, pr_i_4, pr_i_m1]
                    refine pr_cvT [_, _, _, _] rfl rfl rfl rfl rfl (Nat.le_of_ble_eq_true rfl) (by first | assumption | decide | (simp (disch := omega) only [c4, rLt, rI_mul, nI_add, nI_1, nI_clamp, pr_16_8401, pr_i_0, pr_i_1, pr_i_4, pr_i_m1]; first | assumption | exact ⟨Or.inl (by assumption), rvin (by assumption) (by omega) (by decide)⟩ | exact ⟨by assumption, rvin (by assumption) (by omega) (by decide)⟩ | exact ⟨⟨by omega, by omega⟩, rvin (by assumption) (by omega) (by decide)⟩ | exact ⟨Or.inr (by assumption), rvin (by assumption) (by omega) (by decide)⟩ | exact ⟨Or.inr ⟨by assumption, (by first | exact Or.inl rfl | exact Or.inr rfl | exact pr_b01 _)⟩, rvin (by assumption) (by omega) (by decide)⟩ | exact ⟨by assumption, by assumption⟩ | decide | omega)) (Nat.le_of_ble_eq_true rfl) (hb) ?_
                    refine pr_seqT (pc' := 91) 3 rfl ⟨⟨⟨trivial, trivial⟩, trivial⟩, trivial⟩ ?_
                    try simp (disch := omega) only [c4, rLt, rI_mul, nI_add, nI_1, nI_clamp, pr_16_8401, pr_i_0, pr_i_1, pr_i_4, pr_i_m1]
                    refine pr_icT rfl (fun h91 => ?_) (fun h91 => ?_)
                    · simp only [ab_cmp, pr_16_8401, pr_i_0, pr_i_1, pr_i_4, pr_i_m1] at h91
                      first
                      | contradiction
                      | exact absurd trivial h91
                      | exact absurd h91 (by decide)
                      | exact absurd (Classical.not_not.mp h91) (by decide)
                      | skip
                        refine pr_seqT (pc' := 69) 4 rfl ⟨⟨⟨⟨trivial, trivial⟩, trivial⟩, trivial⟩, trivial⟩ ?_
                        try simp (disch := omega) only [c4, rLt, rI_mul, nI_add, nI_1, nI_clamp, pr_16_8401, pr_i_0, pr_i_1, pr_i_4, pr_i_m1]
                        exact hh
                    · simp only [ab_cmp, pr_16_8401, pr_i_0, pr_i_1, pr_i_4, pr_i_m1] at h91
                      exact absurd e4 h91
          have h0 := more 4 0 (by omega) z7
          refine pr_seqT (pc' := 59) 2 rfl ⟨⟨trivial, trivial⟩, trivial⟩ ?_
          try simp (disch := omega) only [c8401, n100, rLt, rI_mul, nI_add, nI_1, nI_clamp, pr_16_8401, pr_i_0, pr_i_1, pr_i_4, pr_i_m1]
          refine pr_icT rfl (fun h59 => ?_) (fun h59 => ?_)
          · simp only [ab_cmp, pr_16_8401, pr_i_0, pr_i_1, pr_i_4, pr_i_m1] at h59
            exact absurd h59 e2
          · simp only [ab_cmp, pr_16_8401, pr_i_0, pr_i_1, pr_i_4, pr_i_m1] at h59
            first
            | contradiction
            | exact absurd trivial h59
            | exact absurd h59 (by decide)
            | exact absurd (Classical.not_not.mp h59) (by decide)
            | skip
              refine pr_seqT (pc' := 69) 4 rfl ⟨⟨⟨⟨trivial, trivial⟩, trivial⟩, trivial⟩, trivial⟩ ?_
              try simp (disch := omega) only [c8401, n100, rLt, rI_mul, nI_add, nI_1, nI_clamp, pr_16_8401, pr_i_0, pr_i_1, pr_i_4, pr_i_m1]
              exact h0
      refine pr_seqT (pc' := 48) 1 rfl ⟨trivial, trivial⟩ ?_
      try simp (disch := omega) only [rLt, rI_mul, nI_add, nI_1, nI_clamp, pr_16_8401, pr_i_0, pr_i_1, pr_i_4, pr_i_m1]
      refine pr_ifT rfl (fun h48 => ?_) (fun h48 => ?_)
      · simp only [ab_cmp, pr_16_8401, pr_i_0, pr_i_1, pr_i_4, pr_i_m1] at h48
        exact absurd h48 e1
      · simp only [ab_cmp, pr_16_8401, pr_i_0, pr_i_1, pr_i_4, pr_i_m1] at h48
        first
        | contradiction
        | exact absurd trivial h48
        | exact absurd h48 (by decide)
        | exact absurd (Classical.not_not.mp h48) (by decide)
        | skip
          refine pr_seqT (pc' := 54) 2 rfl ⟨⟨trivial, trivial⟩, trivial⟩ ?_
          try simp (disch := omega) only [rLt, rI_mul, nI_add, nI_1, nI_clamp, pr_16_8401, pr_i_0, pr_i_1, pr_i_4, pr_i_m1]
          exact inner 8401 0 (by omega) I _ _ _ f1 (fun j j1 j2 => f2 j j1 j2) (fun s' hs' => absurd hs' (by omega))
  have loop1 : ∀ dd s, s + dd = 8401 → ∀ (I : Nat → Nat → Int32) z4 z5 z6 z7, (∀ a, a ≠ 182 → I a = M.1 a) → (∀ s', s' < s → I 182 (8401 * n + s') = nI (dL c sh 0 n s')) → pr_T pX11_layChanges 8 [some (.ref 172), some (.int (nI p)), some (.int (nI n)), some (.int (nI s)), z4, z5, z6, z7] [] h (I, M.2) (ly_p M c sh n) := by
    intro dd
    induction dd with
    | zero =>
      intro s hs I z4 z5 z6 z7 f1 f2
      obtain rfl : s = 8401 := by omega
      have e2 : nI 8401 ≤ nI 8401 := nI_le (Nat.le_refl _) (by decide)
      have h0 := loop2 n (Nat.le_refl _) I z4 z5 z6 z7 f1 (fun j j1 j2 s' hs' => by
        obtain rfl : j = n := by omega
        rw [Nat.sub_self]; exact f2 s' hs')
      refine pr_seqT (pc' := 12) 2 rfl ⟨⟨trivial, trivial⟩, trivial⟩ ?_
      try simp (disch := omega) only [c8401, rLt, rI_mul, nI_add, nI_1, nI_clamp, pr_16_8401, pr_i_0, pr_i_1, pr_i_4, pr_i_m1]
      refine pr_icT rfl (fun h12 => ?_) (fun h12 => ?_)
      · simp only [ab_cmp, pr_16_8401, pr_i_0, pr_i_1, pr_i_4, pr_i_m1] at h12
        first
        | contradiction
        | exact absurd trivial h12
        | exact absurd h12 (by decide)
        | exact absurd (Classical.not_not.mp h12) (by decide)
        | skip
          refine pr_seqT (pc' := 47) 4 rfl ⟨⟨⟨⟨trivial, trivial⟩, trivial⟩, trivial⟩, trivial⟩ ?_
          try simp (disch := omega) only [c8401, rLt, rI_mul, nI_add, nI_1, nI_clamp, pr_16_8401, pr_i_0, pr_i_1, pr_i_4, pr_i_m1]
          exact h0
      · simp only [ab_cmp, pr_16_8401, pr_i_0, pr_i_1, pr_i_4, pr_i_m1] at h12
        exact absurd e2 h12
    | succ dd ih =>
      intro s hs I z4 z5 z6 z7 f1 f2
      have e2 : ¬ nI 8401 ≤ nI s := nI_ge (by omega) (by decide)
      have hst : ∀ v : Int32, v = nI (dL c sh 0 n s) → pr_T pX11_layChanges 8 [some (.ref 172), some (.int (nI p)), some (.int (nI n)), some (.int (nI (s + 1))), z4, z5, z6, z7] [] h (ab_u I 182 (8401 * n + s) v, M.2) (ly_p M c sh n) := fun v hvv => ih (s + 1) (by omega) (ab_u I 182 (8401 * n + s) v) z4 z5 z6 z7 (fun a ha => by rw [ab_u_ne ha]; exact f1 a ha) (fun s' hs' => by
        by_cases e : s' = s
        · rw [e, ab_u_at, hvv]
        · rw [ab_u_j (by omega)]; exact f2 s' (by omega))
      by_cases s0 : s = 0
      · have z : nI s = 0 := by rw [s0]; rfl
        have hh := hst 0 (by rw [s0]; rfl)
        refine pr_seqT (pc' := 12) 2 rfl ⟨⟨trivial, trivial⟩, trivial⟩ ?_
        try simp (disch := omega) only [c8401, n100, rLt, rI_mul, nI_add, nI_1, nI_clamp, pr_16_8401, pr_i_0, pr_i_1, pr_i_4, pr_i_m1]
        refine pr_icT rfl (fun h12 => ?_) (fun h12 => ?_)
        · simp only [ab_cmp, pr_16_8401, pr_i_0, pr_i_1, pr_i_4, pr_i_m1] at h12
          exact absurd h12 e2
        · simp only [ab_cmp, pr_16_8401, pr_i_0, pr_i_1, pr_i_4, pr_i_m1] at h12
          first
          | contradiction
          | exact absurd trivial h12
          | exact absurd h12 (by decide)
          | exact absurd (Classical.not_not.mp h12) (by decide)
          | skip
            refine pr_seqT (pc' := 27) 8 rfl ⟨⟨⟨⟨⟨⟨⟨⟨trivial, (by first | decide | assumption)⟩, (by assumption)⟩, trivial⟩, trivial⟩, trivial⟩, trivial⟩, trivial⟩, trivial⟩ ?_
            try simp (disch := omega) only [c8401, n100, rLt, rI_mul, nI_add, nI_1, nI_clamp, pr_16_8401, pr_i_0, pr_i_1, pr_i_4, pr_i_m1]
            refine pr_ifT rfl (fun h27 => ?_) (fun h27 => ?_)
            · simp only [ab_cmp, pr_16_8401, pr_i_0, pr_i_1, pr_i_4, pr_i_m1] at h27
              exact absurd z h27
            · simp only [ab_cmp, pr_16_8401, pr_i_0, pr_i_1, pr_i_4, pr_i_m1] at h27
              first
              | contradiction
              | exact absurd trivial h27
              | exact absurd h27 (by decide)
              | exact absurd (Classical.not_not.mp h27) (by decide)
              | skip
                refine pr_seqT (pc' := 8) 5 rfl ⟨⟨⟨⟨⟨trivial, trivial⟩, trivial⟩, (by (try simp (disch := omega) only [c8401, n100, rLt, rI_mul, nI_add, nI_1, nI_clamp, pr_16_8401, pr_i_0, pr_i_1, pr_i_4, pr_i_m1]); exact ⟨by assumption, rvin (by assumption) (by omega) (by decide)⟩)⟩, trivial⟩, trivial⟩ ?_
                try simp (disch := omega) only [c8401, n100, rLt, rI_mul, nI_add, nI_1, nI_clamp, pr_16_8401, pr_i_0, pr_i_1, pr_i_4, pr_i_m1]
                exact hh
      · have z : ¬ nI s = 0 := nI_ne0 (by omega) (by omega)
        have hh := hst (nI 100000) (by show _ = nI (if s = 0 then 0 else 100000); rw [if_neg s0])
        refine pr_seqT (pc' := 12) 2 rfl ⟨⟨trivial, trivial⟩, trivial⟩ ?_
        try simp (disch := omega) only [c8401, n100, rLt, rI_mul, nI_add, nI_1, nI_clamp, pr_16_8401, pr_i_0, pr_i_1, pr_i_4, pr_i_m1]
        refine pr_icT rfl (fun h12 => ?_) (fun h12 => ?_)
        · simp only [ab_cmp, pr_16_8401, pr_i_0, pr_i_1, pr_i_4, pr_i_m1] at h12
          exact absurd h12 e2
        · simp only [ab_cmp, pr_16_8401, pr_i_0, pr_i_1, pr_i_4, pr_i_m1] at h12
          first
          | contradiction
          | exact absurd trivial h12
          | exact absurd h12 (by decide)
          | exact absurd (Classical.not_not.mp h12) (by decide)
          | skip
            refine pr_seqT (pc' := 27) 8 rfl ⟨⟨⟨⟨⟨⟨⟨⟨trivial, (by first | decide | assumption)⟩, (by assumption)⟩, trivial⟩, trivial⟩, trivial⟩, trivial⟩, trivial⟩, trivial⟩ ?_
            try simp (disch := omega) only [c8401, n100, rLt, rI_mul, nI_add, nI_1, nI_clamp, pr_16_8401, pr_i_0, pr_i_1, pr_i_4, pr_i_m1]
            refine pr_ifT rfl (fun h27 => ?_) (fun h27 => ?_)
            · simp only [ab_cmp, pr_16_8401, pr_i_0, pr_i_1, pr_i_4, pr_i_m1] at h27
              first
              | contradiction
              | exact absurd trivial h27
              | exact absurd h27 (by decide)
              | exact absurd (Classical.not_not.mp h27) (by decide)
              | skip
                refine pr_seqT (pc' := 8) 4 rfl ⟨⟨⟨⟨trivial, trivial⟩, (by (try simp (disch := omega) only [c8401, n100, rLt, rI_mul, nI_add, nI_1, nI_clamp, pr_16_8401, pr_i_0, pr_i_1, pr_i_4, pr_i_m1]); exact ⟨by assumption, rvin (by assumption) (by omega) (by decide)⟩)⟩, trivial⟩, trivial⟩ ?_
                try simp (disch := omega) only [c8401, n100, rLt, rI_mul, nI_add, nI_1, nI_clamp, pr_16_8401, pr_i_0, pr_i_1, pr_i_4, pr_i_m1]
                exact hh
            · simp only [ab_cmp, pr_16_8401, pr_i_0, pr_i_1, pr_i_4, pr_i_m1] at h27
              exact absurd (Classical.not_not.mp h27) z
  refine pr_seqT (pc' := 2) 2 rfl ⟨⟨trivial, (by first | decide | assumption)⟩, trivial⟩ ?_
  try simp (disch := omega) only [rLt, rI_mul, nI_add, nI_1, nI_clamp, pr_16_8401, pr_i_0, pr_i_1, pr_i_4, pr_i_m1]
  refine pr_cvT [_] rfl rfl rfl rfl rfl (Nat.le_of_ble_eq_true rfl) (by first | assumption | decide | (simp (disch := omega) only [rLt, rI_mul, nI_add, nI_1, nI_clamp, pr_16_8401, pr_i_0, pr_i_1, pr_i_4, pr_i_m1]; first | assumption | exact ⟨Or.inl (by assumption), rvin (by assumption) (by omega) (by decide)⟩ | exact ⟨by assumption, rvin (by assumption) (by omega) (by decide)⟩ | exact ⟨⟨by omega, by omega⟩, rvin (by assumption) (by omega) (by decide)⟩ | exact ⟨Or.inr (by assumption), rvin (by assumption) (by omega) (by decide)⟩ | exact ⟨Or.inr ⟨by assumption, (by first | exact Or.inl rfl | exact Or.inr rfl | exact pr_b01 _)⟩, rvin (by assumption) (by omega) (by decide)⟩ | exact ⟨by assumption, by assumption⟩ | decide | omega)) (Nat.le_of_ble_eq_true rfl) (hlo) ?_
  refine pr_seqT (pc' := 8) 3 rfl ⟨⟨⟨trivial, trivial⟩, trivial⟩, trivial⟩ ?_
  try simp (disch := omega) only [rLt, rI_mul, nI_add, nI_1, nI_clamp, pr_16_8401, pr_i_0, pr_i_1, pr_i_4, pr_i_m1]
  exact loop1 8401 0 (by omega) M.1 _ _ _ _ (fun _ _ => rfl) (fun s' hs' => absurd hs' (by omega))
