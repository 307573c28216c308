
/-! ===== Raises: entries as longs; reach, leastFor, atPlace, leastEntry ===== -/
abbrev jN (n : Nat) : Int64 := Int64.ofNat n
def eL : Option Nat → Int64
  | none => jN 18446744073709551615
  | some x => jN x
theorem jN_toInt {x : Nat} (h : x < 2 ^ 63) : (jN x).toInt = x := Int64.toInt_ofNat_of_lt h
theorem jN_ne {x : Nat} (h : x < 2 ^ 47) : ¬ jN x = jN 18446744073709551615 := by
  intro e
  have := congrArg Int64.toInt e
  rw [jN_toInt (by omega), show (jN 18446744073709551615).toInt = -1 by decide] at this
  omega
theorem jN_lt {x y : Nat} (hx : x < 2 ^ 47) (hy : y < 2 ^ 47) : jN x < jN y ↔ x < y := by
  rw [Int64.lt_iff_toInt_lt, jN_toInt (by omega), jN_toInt (by omega)]
  omega
theorem jN_add (x y : Nat) : jN x + jN y = jN (x + y) := (Int64.ofNat_add x y).symm
theorem jN_mul (x y : Nat) : jN x * jN y = jN (x * y) := (Int64.ofNat_mul x y).symm
theorem jN_i {r : Nat} (h : r < 2 ^ 31) : (nI r).toInt64 = jN r := by
  apply Int64.toInt_inj.mp
  rw [jN_toInt (by omega), Int32.toInt_toInt64, nI_toInt h]
theorem jN_shl (j : Nat) (h : j < 20) : jN 1 <<< ((nI (2 * (19 - j))).toInt64 &&& 63) = jN (4 ^ (19 - j)) := by
  have : ∀ m : Fin 20, jN 1 <<< ((nI (2 * (19 - m.val))).toInt64 &&& 63) = jN (4 ^ (19 - m.val)) := by decide
  exact this ⟨j, h⟩
theorem jN_shr {x k : Nat} (hx : x < 2 ^ 47) (hk : k < 64) : jN x >>> ((nI k).toInt64 &&& 63) = jN (x / 2 ^ k) := by
  have e : ∀ m : Fin 64, (nI m.val).toInt64 &&& 63 = jN m.val := by decide
  rw [e ⟨k, hk⟩]
  apply Int64.toBitVec_inj.mp
  show (BitVec.ofNat 64 x).sshiftRight' ((BitVec.ofNat 64 k).smod 64#64) = BitVec.ofNat 64 (x / 2 ^ k)
  have hk2 : (BitVec.ofNat 64 k).smod 64#64 = BitVec.ofNat 64 k := by
    have : ∀ m : Fin 64, (BitVec.ofNat 64 m.val).smod 64#64 = BitVec.ofNat 64 m.val := by decide
    exact this ⟨k, hk⟩
  rw [hk2]
  show (BitVec.ofNat 64 x).sshiftRight (BitVec.ofNat 64 k).toNat = _
  have msb : (BitVec.ofNat 64 x).msb = false := by
    rw [BitVec.msb_eq_false_iff_two_mul_lt, BitVec.toNat_ofNat, Nat.mod_eq_of_lt (by omega)]
    omega
  rw [BitVec.sshiftRight_eq_of_msb_false msb]
  apply BitVec.eq_of_toNat_eq
  have hd : x / 2 ^ k < 2 ^ 64 := Nat.lt_of_le_of_lt (Nat.div_le_self _ _) (by omega)
  rw [BitVec.toNat_ushiftRight, BitVec.toNat_ofNat, BitVec.toNat_ofNat, BitVec.toNat_ofNat, Nat.mod_eq_of_lt (show x < 2 ^ 64 by omega), Nat.mod_eq_of_lt (show k < 2 ^ 64 by omega), Nat.shiftRight_eq_div_pow, Nat.mod_eq_of_lt hd]
theorem jN_32 (x : Nat) : (jN x).toInt32 = nI x := by show (Int64.ofNat x).toInt32 = Int32.ofNat x; simp
theorem cmp_ne {x y : Int64} (h : ¬ x = y) : ¬ lg_cmp x y = 0 := by
  unfold lg_cmp
  by_cases q : x > y
  · rw [if_pos q]; decide
  · rw [if_neg q, if_neg h]; decide
theorem cmp_eq (x : Int64) : lg_cmp x x = 0 := by
  unfold lg_cmp
  rw [if_neg (fun q => Int64.lt_irrefl q), if_pos rfl]
def pr_Ra (h : ab_H) (R : Nat → Nat → Nat) : Prop := ab_k h 55 = 6 ∧ R 55 0 = 56 ∧ R 55 1 = 57 ∧ ab_k h 56 = 23 ∧ ab_n h 56 = 8401 ∧ ab_k h 57 = 20 ∧ ab_n h 57 = 4
def ra_v (I : Nat → Nat → Int32) (J : Nat → Nat → Int64) (low high lim : Nat) (E : Nat → Option Nat) : Prop := I 55 3 = nI low ∧ I 55 4 = nI high ∧ low ≤ high ∧ high ≤ 8400 ∧ (∀ s, low ≤ s → s ≤ high → s ≤ lim → J 56 s = eL (E s)) ∧ (∀ s, (s < low ∨ high < s) → E s = none) ∧ ∀ s x, E s = some x → x < 2 ^ 47
def rch (E : Nat → Option Nat) (x : Int32) : Bool := !decide (x < 0) && (E x.toNatClampNeg).isSome
theorem rch_n {E : Nat → Option Nat} {s : Nat} (h : s < 2 ^ 31) : rch E (nI s) = (E s).isSome := by
  unfold rch
  rw [nI_clamp h, decide_eq_false (nI_pos h)]
  rfl
theorem c_reach {low high lim : Nat} {E : Nat → Option Nat} (x : Int32) (h : ab_H) (M : ab_M) (hp : pr_Ra h M.2.2) (hv : ra_v M.1 M.2.1 low high lim E) (hx : ∀ s, s < 2 ^ 31 → s ≤ high → x = nI s → s ≤ lim) : pr_C pX5_reach [.ref 55, .int x] h M (some (.int (pr_b (rch E x)))) h M := by
  obtain ⟨k1, r0, r1, a1, a2, b1, b2⟩ := id hp
  obtain ⟨v1, v2, v3, v4, v5, v6, v7⟩ := id hv
  have n55 : (55 : Nat) ≠ 0 := by decide
  by_cases x0 : x < 0
  · have e : rch E x = false := by unfold rch; rw [decide_eq_true x0]; rfl
    rw [e]
    refine pr_seq (pc' := 5) 3 rfl ⟨⟨⟨trivial, trivial⟩, (by first | assumption | (simp only [v1, v2, pr_16_8400, pr_i_0, pr_i_1]; first | assumption | decide | exact ⟨by assumption, by assumption⟩ | exact ⟨Or.inl (by assumption), by assumption⟩ | omega) | decide | exact ⟨Or.inl (by assumption), by assumption⟩ | exact ⟨by assumption, by assumption⟩ | omega)⟩, (by first | assumption | (simp only [v1, v2, pr_16_8400, pr_i_0, pr_i_1]; first | assumption | decide | exact ⟨by assumption, by assumption⟩ | exact ⟨Or.inl (by assumption), by assumption⟩ | omega) | decide | exact ⟨Or.inl (by assumption), by assumption⟩ | exact ⟨by assumption, by assumption⟩ | omega)⟩ ?_
    try simp only [v1, v2, pr_16_8400, pr_i_0, pr_i_1]
    refine pr_ic rfl (fun h5 => ?_) (fun h5 => ?_)
    · simp only [ab_cmp, pr_16_8400, pr_i_0, pr_i_1] at h5
      first
      | contradiction
      | exact absurd trivial h5
      | exact absurd h5 (by decide)
      | exact absurd (Classical.not_not.mp h5) (by decide)
      | skip
        refine pr_seq (pc' := 45) 1 rfl ⟨trivial, trivial⟩ ?_
        try simp only [v1, v2, pr_16_8400, pr_i_0, pr_i_1]
        exact pr_irM rfl (by first | rfl | (simp only [v1, v2, pr_16_8400, pr_i_0, pr_i_1]; done) | (simp [pr_b, pr_16_8400, pr_i_0, pr_i_1, *]; done) | (simp_all [pr_b, pr_16_8400, pr_i_0, pr_i_1]; done)) (by first | exact Or.inl rfl | exact Or.inr rfl | exact pr_b01 _ | assumption) (by rfl)
    · simp only [ab_cmp, pr_16_8400, pr_i_0, pr_i_1] at h5
      first
      | contradiction
      | exact absurd trivial h5
      | exact absurd h5 (by decide)
      | exact absurd (Classical.not_not.mp h5) (by decide)
      | skip
        refine pr_seq (pc' := 13) 3 rfl ⟨⟨⟨trivial, trivial⟩, (by first | assumption | (simp only [v1, v2, pr_16_8400, pr_i_0, pr_i_1]; first | assumption | decide | exact ⟨by assumption, by assumption⟩ | exact ⟨Or.inl (by assumption), by assumption⟩ | omega) | decide | exact ⟨Or.inl (by assumption), by assumption⟩ | exact ⟨by assumption, by assumption⟩ | omega)⟩, (by first | assumption | (simp only [v1, v2, pr_16_8400, pr_i_0, pr_i_1]; first | assumption | decide | exact ⟨by assumption, by assumption⟩ | exact ⟨Or.inl (by assumption), by assumption⟩ | omega) | decide | exact ⟨Or.inl (by assumption), by assumption⟩ | exact ⟨by assumption, by assumption⟩ | omega)⟩ ?_
        try simp only [v1, v2, pr_16_8400, pr_i_0, pr_i_1]
        refine pr_ic rfl (fun h13 => ?_) (fun h13 => ?_)
        · simp only [ab_cmp, pr_16_8400, pr_i_0, pr_i_1] at h13
          first
          | contradiction
          | exact absurd trivial h13
          | exact absurd h13 (by decide)
          | exact absurd (Classical.not_not.mp h13) (by decide)
          | skip
            refine pr_seq (pc' := 45) 1 rfl ⟨trivial, trivial⟩ ?_
            try simp only [v1, v2, pr_16_8400, pr_i_0, pr_i_1]
            exact pr_irM rfl (by first | rfl | (simp only [v1, v2, pr_16_8400, pr_i_0, pr_i_1]; done) | (simp [pr_b, pr_16_8400, pr_i_0, pr_i_1, *]; done) | (simp_all [pr_b, pr_16_8400, pr_i_0, pr_i_1]; done)) (by first | exact Or.inl rfl | exact Or.inr rfl | exact pr_b01 _ | assumption) (by rfl)
        · simp only [ab_cmp, pr_16_8400, pr_i_0, pr_i_1] at h13
          first
          | contradiction
          | exact absurd trivial h13
          | exact absurd h13 (by decide)
          | exact absurd (Classical.not_not.mp h13) (by decide)
          | skip
            refine pr_seq (pc' := 17) 1 rfl ⟨trivial, trivial⟩ ?_
            try simp only [v1, v2, pr_16_8400, pr_i_0, pr_i_1]
            refine pr_if rfl (fun h17 => ?_) (fun h17 => ?_)
            · simp only [ab_cmp, pr_16_8400, pr_i_0, pr_i_1] at h17
              first
              | contradiction
              | exact absurd trivial h17
              | exact absurd h17 (by decide)
              | exact absurd (Classical.not_not.mp h17) (by decide)
              | skip
                refine pr_seq (pc' := 45) 1 rfl ⟨trivial, trivial⟩ ?_
                try simp only [v1, v2, pr_16_8400, pr_i_0, pr_i_1]
                exact pr_irM rfl (by first | rfl | (simp only [v1, v2, pr_16_8400, pr_i_0, pr_i_1]; done) | (simp [pr_b, pr_16_8400, pr_i_0, pr_i_1, *]; done) | (simp_all [pr_b, pr_16_8400, pr_i_0, pr_i_1]; done)) (by first | exact Or.inl rfl | exact Or.inr rfl | exact pr_b01 _ | assumption) (by rfl)
            · simp only [ab_cmp, pr_16_8400, pr_i_0, pr_i_1] at h17
              first
              | contradiction
              | exact absurd trivial h17
              | exact absurd h17 (by decide)
              | exact absurd (Classical.not_not.mp h17) (by decide)
              | skip
                refine pr_seq (pc' := 24) 2 rfl ⟨⟨trivial, trivial⟩, trivial⟩ ?_
                try simp only [v1, v2, pr_16_8400, pr_i_0, pr_i_1]
                refine pr_ic rfl (fun h24 => ?_) (fun h24 => ?_)
                · simp only [ab_cmp, pr_16_8400, pr_i_0, pr_i_1] at h24
                  first
                  | contradiction
                  | exact absurd trivial h24
                  | exact absurd h24 (by decide)
                  | exact absurd (Classical.not_not.mp h24) (by decide)
                  | skip
                    refine pr_seq (pc' := 45) 1 rfl ⟨trivial, trivial⟩ ?_
                    try simp only [v1, v2, pr_16_8400, pr_i_0, pr_i_1]
                    exact pr_irM rfl (by first | rfl | (simp only [v1, v2, pr_16_8400, pr_i_0, pr_i_1]; done) | (simp [pr_b, pr_16_8400, pr_i_0, pr_i_1, *]; done) | (simp_all [pr_b, pr_16_8400, pr_i_0, pr_i_1]; done)) (by first | exact Or.inl rfl | exact Or.inr rfl | exact pr_b01 _ | assumption) (by rfl)
                · simp only [ab_cmp, pr_16_8400, pr_i_0, pr_i_1] at h24
                  first
                  | contradiction
                  | exact absurd trivial h24
                  | exact absurd h24 (by decide)
                  | exact absurd (Classical.not_not.mp h24) (by decide)
                  | skip
                    refine pr_seq (pc' := 37) 6 rfl ⟨⟨⟨⟨⟨⟨trivial, (by first | assumption | (simp only [v1, v2, pr_16_8400, pr_i_0, pr_i_1]; first | assumption | decide | exact ⟨by assumption, by assumption⟩ | exact ⟨Or.inl (by assumption), by assumption⟩ | omega) | decide | exact ⟨Or.inl (by assumption), by assumption⟩ | exact ⟨by assumption, by assumption⟩ | omega)⟩, (by first | assumption | (simp only [v1, v2, pr_16_8400, pr_i_0, pr_i_1]; first | assumption | decide | exact ⟨by assumption, by assumption⟩ | exact ⟨Or.inl (by assumption), by assumption⟩ | omega) | decide | exact ⟨Or.inl (by assumption), by assumption⟩ | exact ⟨by assumption, by assumption⟩ | omega)⟩, trivial⟩, (by first | assumption | (simp only [v1, v2, pr_16_8400, pr_i_0, pr_i_1]; first | assumption | decide | exact ⟨by assumption, by assumption⟩ | exact ⟨Or.inl (by assumption), by assumption⟩ | omega) | decide | exact ⟨Or.inl (by assumption), by assumption⟩ | exact ⟨by assumption, by assumption⟩ | omega)⟩, trivial⟩, trivial⟩ ?_
                    try simp only [v1, v2, pr_16_8400, pr_i_0, pr_i_1]
                    refine pr_if rfl (fun h37 => ?_) (fun h37 => ?_)
                    · simp only [ab_cmp, pr_16_8400, pr_i_0, pr_i_1] at h37
                      first
                      | contradiction
                      | exact absurd trivial h37
                      | exact absurd h37 (by decide)
                      | exact absurd (Classical.not_not.mp h37) (by decide)
                      | skip
                        refine pr_seq (pc' := 45) 1 rfl ⟨trivial, trivial⟩ ?_
                        try simp only [v1, v2, pr_16_8400, pr_i_0, pr_i_1]
                        exact pr_irM rfl (by first | rfl | (simp only [v1, v2, pr_16_8400, pr_i_0, pr_i_1]; done) | (simp [pr_b, pr_16_8400, pr_i_0, pr_i_1, *]; done) | (simp_all [pr_b, pr_16_8400, pr_i_0, pr_i_1]; done)) (by first | exact Or.inl rfl | exact Or.inr rfl | exact pr_b01 _ | assumption) (by rfl)
                    · simp only [ab_cmp, pr_16_8400, pr_i_0, pr_i_1] at h37
                      first
                      | contradiction
                      | exact absurd trivial h37
                      | exact absurd h37 (by decide)
                      | exact absurd (Classical.not_not.mp h37) (by decide)
                      | skip
                        refine pr_seq (pc' := 45) 2 rfl ⟨⟨trivial, trivial⟩, trivial⟩ ?_
                        try simp only [v1, v2, pr_16_8400, pr_i_0, pr_i_1]
                        exact pr_irM rfl (by first | rfl | (simp only [v1, v2, pr_16_8400, pr_i_0, pr_i_1]; done) | (simp [pr_b, pr_16_8400, pr_i_0, pr_i_1, *]; done) | (simp_all [pr_b, pr_16_8400, pr_i_0, pr_i_1]; done)) (by first | exact Or.inl rfl | exact Or.inr rfl | exact pr_b01 _ | assumption) (by rfl)
  · obtain ⟨s, hs, rfl⟩ := nI_of x0
    rw [rch_n hs]
    by_cases c1 : s < low
    · rw [v6 s (Or.inl c1)]
      have e1 : nI s < nI low := (nI_ltI (by omega) (by omega)).mpr c1
      refine pr_seq (pc' := 5) 3 rfl ⟨⟨⟨trivial, trivial⟩, (by first | assumption | (simp only [v1, v2, pr_16_8400, pr_i_0, pr_i_1]; first | assumption | decide | exact ⟨by assumption, by assumption⟩ | exact ⟨Or.inl (by assumption), by assumption⟩ | omega) | decide | exact ⟨Or.inl (by assumption), by assumption⟩ | exact ⟨by assumption, by assumption⟩ | omega)⟩, (by first | assumption | (simp only [v1, v2, pr_16_8400, pr_i_0, pr_i_1]; first | assumption | decide | exact ⟨by assumption, by assumption⟩ | exact ⟨Or.inl (by assumption), by assumption⟩ | omega) | decide | exact ⟨Or.inl (by assumption), by assumption⟩ | exact ⟨by assumption, by assumption⟩ | omega)⟩ ?_
      try simp only [v1, v2, pr_16_8400, pr_i_0, pr_i_1]
      refine pr_ic rfl (fun h5 => ?_) (fun h5 => ?_)
      · simp only [ab_cmp, pr_16_8400, pr_i_0, pr_i_1] at h5
        first
        | contradiction
        | exact absurd trivial h5
        | exact absurd h5 (by decide)
        | exact absurd (Classical.not_not.mp h5) (by decide)
        | skip
          refine pr_seq (pc' := 45) 1 rfl ⟨trivial, trivial⟩ ?_
          try simp only [v1, v2, pr_16_8400, pr_i_0, pr_i_1]
          exact pr_irM rfl (by first | rfl | (simp only [v1, v2, pr_16_8400, pr_i_0, pr_i_1]; done) | (simp [pr_b, pr_16_8400, pr_i_0, pr_i_1, *]; done) | (simp_all [pr_b, pr_16_8400, pr_i_0, pr_i_1]; done)) (by first | exact Or.inl rfl | exact Or.inr rfl | exact pr_b01 _ | assumption) (by rfl)
      · simp only [ab_cmp, pr_16_8400, pr_i_0, pr_i_1] at h5
        first
        | contradiction
        | exact absurd trivial h5
        | exact absurd h5 (by decide)
        | exact absurd (Classical.not_not.mp h5) (by decide)
        | skip
          fail
    · have e1 : ¬ nI s < nI low := fun q => c1 ((nI_ltI (by omega) (by omega)).mp q)
      by_cases c2 : high < s
      · rw [v6 s (Or.inr c2)]
        have e2 : nI high < nI s := (nI_ltI (by omega) (by omega)).mpr c2
        refine pr_seq (pc' := 5) 3 rfl ⟨⟨⟨trivial, trivial⟩, (by first | assumption | (simp only [v1, v2, pr_16_8400, pr_i_0, pr_i_1]; first | assumption | decide | exact ⟨by assumption, by assumption⟩ | exact ⟨Or.inl (by assumption), by assumption⟩ | omega) | decide | exact ⟨Or.inl (by assumption), by assumption⟩ | exact ⟨by assumption, by assumption⟩ | omega)⟩, (by first | assumption | (simp only [v1, v2, pr_16_8400, pr_i_0, pr_i_1]; first | assumption | decide | exact ⟨by assumption, by assumption⟩ | exact ⟨Or.inl (by assumption), by assumption⟩ | omega) | decide | exact ⟨Or.inl (by assumption), by assumption⟩ | exact ⟨by assumption, by assumption⟩ | omega)⟩ ?_
        try simp only [v1, v2, pr_16_8400, pr_i_0, pr_i_1]
        refine pr_ic rfl (fun h5 => ?_) (fun h5 => ?_)
        · simp only [ab_cmp, pr_16_8400, pr_i_0, pr_i_1] at h5
          first
          | contradiction
          | exact absurd trivial h5
          | exact absurd h5 (by decide)
          | exact absurd (Classical.not_not.mp h5) (by decide)
          | skip
            refine pr_seq (pc' := 45) 1 rfl ⟨trivial, trivial⟩ ?_
            try simp only [v1, v2, pr_16_8400, pr_i_0, pr_i_1]
            exact pr_irM rfl (by first | rfl | (simp only [v1, v2, pr_16_8400, pr_i_0, pr_i_1]; done) | (simp [pr_b, pr_16_8400, pr_i_0, pr_i_1, *]; done) | (simp_all [pr_b, pr_16_8400, pr_i_0, pr_i_1]; done)) (by first | exact Or.inl rfl | exact Or.inr rfl | exact pr_b01 _ | assumption) (by rfl)
        · simp only [ab_cmp, pr_16_8400, pr_i_0, pr_i_1] at h5
          first
          | contradiction
          | exact absurd trivial h5
          | exact absurd h5 (by decide)
          | exact absurd (Classical.not_not.mp h5) (by decide)
          | skip
            refine pr_seq (pc' := 13) 3 rfl ⟨⟨⟨trivial, trivial⟩, (by first | assumption | (simp only [v1, v2, pr_16_8400, pr_i_0, pr_i_1]; first | assumption | decide | exact ⟨by assumption, by assumption⟩ | exact ⟨Or.inl (by assumption), by assumption⟩ | omega) | decide | exact ⟨Or.inl (by assumption), by assumption⟩ | exact ⟨by assumption, by assumption⟩ | omega)⟩, (by first | assumption | (simp only [v1, v2, pr_16_8400, pr_i_0, pr_i_1]; first | assumption | decide | exact ⟨by assumption, by assumption⟩ | exact ⟨Or.inl (by assumption), by assumption⟩ | omega) | decide | exact ⟨Or.inl (by assumption), by assumption⟩ | exact ⟨by assumption, by assumption⟩ | omega)⟩ ?_
            try simp only [v1, v2, pr_16_8400, pr_i_0, pr_i_1]
            refine pr_ic rfl (fun h13 => ?_) (fun h13 => ?_)
            · simp only [ab_cmp, pr_16_8400, pr_i_0, pr_i_1] at h13
              first
              | contradiction
              | exact absurd trivial h13
              | exact absurd h13 (by decide)
              | exact absurd (Classical.not_not.mp h13) (by decide)
              | skip
                refine pr_seq (pc' := 45) 1 rfl ⟨trivial, trivial⟩ ?_
                try simp only [v1, v2, pr_16_8400, pr_i_0, pr_i_1]
                exact pr_irM rfl (by first | rfl | (simp only [v1, v2, pr_16_8400, pr_i_0, pr_i_1]; done) | (simp [pr_b, pr_16_8400, pr_i_0, pr_i_1, *]; done) | (simp_all [pr_b, pr_16_8400, pr_i_0, pr_i_1]; done)) (by first | exact Or.inl rfl | exact Or.inr rfl | exact pr_b01 _ | assumption) (by rfl)
            · simp only [ab_cmp, pr_16_8400, pr_i_0, pr_i_1] at h13
              first
              | contradiction
              | exact absurd trivial h13
              | exact absurd h13 (by decide)
              | exact absurd (Classical.not_not.mp h13) (by decide)
              | skip
                fail
      · have e2 : ¬ nI high < nI s := fun q => c2 ((nI_ltI (by omega) (by omega)).mp q)
        have e3 : ¬ (8400 : Int32) < nI s := fun q => by
          have := (nI_ltI (a := 8400) (b := s) (by omega) (by omega)).mp q
          omega
        have e4 : (nI s).toNatClampNeg = s := nI_clamp hs
        have w1 : vp_in (nI s) (ab_n h 56) := by rw [a2]; exact vp_in_nI (by omega) (by decide)
        have u1 := v5 s (by omega) (by omega) (hx s hs (by omega) rfl)
        cases hE : E s with
        | none =>
          rw [hE] at u1
          have u1 : M.2.1 56 s = jN 18446744073709551615 := u1
          have u2 : lg_cmp (jN 18446744073709551615) (jN 18446744073709551615) = 0 := by decide
          refine pr_seq (pc' := 5) 3 rfl ⟨⟨⟨trivial, trivial⟩, (by first | assumption | (simp only [v1, v2, r0, e4, u1, u2, pr_16_8400, pr_i_0, pr_i_1]; first | assumption | decide | exact ⟨by assumption, by assumption⟩ | exact ⟨Or.inl (by assumption), by assumption⟩ | omega) | decide | exact ⟨Or.inl (by assumption), by assumption⟩ | exact ⟨by assumption, by assumption⟩ | omega)⟩, (by first | assumption | (simp only [v1, v2, r0, e4, u1, u2, pr_16_8400, pr_i_0, pr_i_1]; first | assumption | decide | exact ⟨by assumption, by assumption⟩ | exact ⟨Or.inl (by assumption), by assumption⟩ | omega) | decide | exact ⟨Or.inl (by assumption), by assumption⟩ | exact ⟨by assumption, by assumption⟩ | omega)⟩ ?_
          try simp only [v1, v2, r0, e4, u1, u2, pr_16_8400, pr_i_0, pr_i_1]
          refine pr_ic rfl (fun h5 => ?_) (fun h5 => ?_)
          · simp only [ab_cmp, pr_16_8400, pr_i_0, pr_i_1] at h5
            first
            | contradiction
            | exact absurd trivial h5
            | exact absurd h5 (by decide)
            | exact absurd (Classical.not_not.mp h5) (by decide)
            | skip
              refine pr_seq (pc' := 45) 1 rfl ⟨trivial, trivial⟩ ?_
              try simp only [v1, v2, r0, e4, u1, u2, pr_16_8400, pr_i_0, pr_i_1]
              exact pr_irM rfl (by first | rfl | (simp only [v1, v2, r0, e4, u1, u2, pr_16_8400, pr_i_0, pr_i_1]; done) | (simp [pr_b, pr_16_8400, pr_i_0, pr_i_1, *]; done) | (simp_all [pr_b, pr_16_8400, pr_i_0, pr_i_1]; done)) (by first | exact Or.inl rfl | exact Or.inr rfl | exact pr_b01 _ | assumption) (by rfl)
          · simp only [ab_cmp, pr_16_8400, pr_i_0, pr_i_1] at h5
            first
            | contradiction
            | exact absurd trivial h5
            | exact absurd h5 (by decide)
            | exact absurd (Classical.not_not.mp h5) (by decide)
            | skip
              refine pr_seq (pc' := 13) 3 rfl ⟨⟨⟨trivial, trivial⟩, (by first | assumption | (simp only [v1, v2, r0, e4, u1, u2, pr_16_8400, pr_i_0, pr_i_1]; first | assumption | decide | exact ⟨by assumption, by assumption⟩ | exact ⟨Or.inl (by assumption), by assumption⟩ | omega) | decide | exact ⟨Or.inl (by assumption), by assumption⟩ | exact ⟨by assumption, by assumption⟩ | omega)⟩, (by first | assumption | (simp only [v1, v2, r0, e4, u1, u2, pr_16_8400, pr_i_0, pr_i_1]; first | assumption | decide | exact ⟨by assumption, by assumption⟩ | exact ⟨Or.inl (by assumption), by assumption⟩ | omega) | decide | exact ⟨Or.inl (by assumption), by assumption⟩ | exact ⟨by assumption, by assumption⟩ | omega)⟩ ?_
              try simp only [v1, v2, r0, e4, u1, u2, pr_16_8400, pr_i_0, pr_i_1]
              refine pr_ic rfl (fun h13 => ?_) (fun h13 => ?_)
              · simp only [ab_cmp, pr_16_8400, pr_i_0, pr_i_1] at h13
                first
                | contradiction
                | exact absurd trivial h13
                | exact absurd h13 (by decide)
                | exact absurd (Classical.not_not.mp h13) (by decide)
                | skip
                  refine pr_seq (pc' := 45) 1 rfl ⟨trivial, trivial⟩ ?_
                  try simp only [v1, v2, r0, e4, u1, u2, pr_16_8400, pr_i_0, pr_i_1]
                  exact pr_irM rfl (by first | rfl | (simp only [v1, v2, r0, e4, u1, u2, pr_16_8400, pr_i_0, pr_i_1]; done) | (simp [pr_b, pr_16_8400, pr_i_0, pr_i_1, *]; done) | (simp_all [pr_b, pr_16_8400, pr_i_0, pr_i_1]; done)) (by first | exact Or.inl rfl | exact Or.inr rfl | exact pr_b01 _ | assumption) (by rfl)
              · simp only [ab_cmp, pr_16_8400, pr_i_0, pr_i_1] at h13
                first
                | contradiction
                | exact absurd trivial h13
                | exact absurd h13 (by decide)
                | exact absurd (Classical.not_not.mp h13) (by decide)
                | skip
                  refine pr_seq (pc' := 17) 1 rfl ⟨trivial, trivial⟩ ?_
                  try simp only [v1, v2, r0, e4, u1, u2, pr_16_8400, pr_i_0, pr_i_1]
                  refine pr_if rfl (fun h17 => ?_) (fun h17 => ?_)
                  · simp only [ab_cmp, pr_16_8400, pr_i_0, pr_i_1] at h17
                    first
                    | contradiction
                    | exact absurd trivial h17
                    | exact absurd h17 (by decide)
                    | exact absurd (Classical.not_not.mp h17) (by decide)
                    | skip
                      refine pr_seq (pc' := 45) 1 rfl ⟨trivial, trivial⟩ ?_
                      try simp only [v1, v2, r0, e4, u1, u2, pr_16_8400, pr_i_0, pr_i_1]
                      exact pr_irM rfl (by first | rfl | (simp only [v1, v2, r0, e4, u1, u2, pr_16_8400, pr_i_0, pr_i_1]; done) | (simp [pr_b, pr_16_8400, pr_i_0, pr_i_1, *]; done) | (simp_all [pr_b, pr_16_8400, pr_i_0, pr_i_1]; done)) (by first | exact Or.inl rfl | exact Or.inr rfl | exact pr_b01 _ | assumption) (by rfl)
                  · simp only [ab_cmp, pr_16_8400, pr_i_0, pr_i_1] at h17
                    first
                    | contradiction
                    | exact absurd trivial h17
                    | exact absurd h17 (by decide)
                    | exact absurd (Classical.not_not.mp h17) (by decide)
                    | skip
                      refine pr_seq (pc' := 24) 2 rfl ⟨⟨trivial, trivial⟩, trivial⟩ ?_
                      try simp only [v1, v2, r0, e4, u1, u2, pr_16_8400, pr_i_0, pr_i_1]
                      refine pr_ic rfl (fun h24 => ?_) (fun h24 => ?_)
                      · simp only [ab_cmp, pr_16_8400, pr_i_0, pr_i_1] at h24
                        first
                        | contradiction
                        | exact absurd trivial h24
                        | exact absurd h24 (by decide)
                        | exact absurd (Classical.not_not.mp h24) (by decide)
                        | skip
                          refine pr_seq (pc' := 45) 1 rfl ⟨trivial, trivial⟩ ?_
                          try simp only [v1, v2, r0, e4, u1, u2, pr_16_8400, pr_i_0, pr_i_1]
                          exact pr_irM rfl (by first | rfl | (simp only [v1, v2, r0, e4, u1, u2, pr_16_8400, pr_i_0, pr_i_1]; done) | (simp [pr_b, pr_16_8400, pr_i_0, pr_i_1, *]; done) | (simp_all [pr_b, pr_16_8400, pr_i_0, pr_i_1]; done)) (by first | exact Or.inl rfl | exact Or.inr rfl | exact pr_b01 _ | assumption) (by rfl)
                      · simp only [ab_cmp, pr_16_8400, pr_i_0, pr_i_1] at h24
                        first
                        | contradiction
                        | exact absurd trivial h24
                        | exact absurd h24 (by decide)
                        | exact absurd (Classical.not_not.mp h24) (by decide)
                        | skip
                          refine pr_seq (pc' := 37) 6 rfl ⟨⟨⟨⟨⟨⟨trivial, (by first | assumption | (simp only [v1, v2, r0, e4, u1, u2, pr_16_8400, pr_i_0, pr_i_1]; first | assumption | decide | exact ⟨by assumption, by assumption⟩ | exact ⟨Or.inl (by assumption), by assumption⟩ | omega) | decide | exact ⟨Or.inl (by assumption), by assumption⟩ | exact ⟨by assumption, by assumption⟩ | omega)⟩, (by first | assumption | (simp only [v1, v2, r0, e4, u1, u2, pr_16_8400, pr_i_0, pr_i_1]; first | assumption | decide | exact ⟨by assumption, by assumption⟩ | exact ⟨Or.inl (by assumption), by assumption⟩ | omega) | decide | exact ⟨Or.inl (by assumption), by assumption⟩ | exact ⟨by assumption, by assumption⟩ | omega)⟩, trivial⟩, (by first | assumption | (simp only [v1, v2, r0, e4, u1, u2, pr_16_8400, pr_i_0, pr_i_1]; first | assumption | decide | exact ⟨by assumption, by assumption⟩ | exact ⟨Or.inl (by assumption), by assumption⟩ | omega) | decide | exact ⟨Or.inl (by assumption), by assumption⟩ | exact ⟨by assumption, by assumption⟩ | omega)⟩, trivial⟩, trivial⟩ ?_
                          try simp only [v1, v2, r0, e4, u1, u2, pr_16_8400, pr_i_0, pr_i_1]
                          refine pr_if rfl (fun h37 => ?_) (fun h37 => ?_)
                          · simp only [ab_cmp, pr_16_8400, pr_i_0, pr_i_1] at h37
                            first
                            | contradiction
                            | exact absurd trivial h37
                            | exact absurd h37 (by decide)
                            | exact absurd (Classical.not_not.mp h37) (by decide)
                            | skip
                              refine pr_seq (pc' := 45) 1 rfl ⟨trivial, trivial⟩ ?_
                              try simp only [v1, v2, r0, e4, u1, u2, pr_16_8400, pr_i_0, pr_i_1]
                              exact pr_irM rfl (by first | rfl | (simp only [v1, v2, r0, e4, u1, u2, pr_16_8400, pr_i_0, pr_i_1]; done) | (simp [pr_b, pr_16_8400, pr_i_0, pr_i_1, *]; done) | (simp_all [pr_b, pr_16_8400, pr_i_0, pr_i_1]; done)) (by first | exact Or.inl rfl | exact Or.inr rfl | exact pr_b01 _ | assumption) (by rfl)
                          · simp only [ab_cmp, pr_16_8400, pr_i_0, pr_i_1] at h37
                            first
                            | contradiction
                            | exact absurd trivial h37
                            | exact absurd h37 (by decide)
                            | exact absurd (Classical.not_not.mp h37) (by decide)
                            | skip
                              refine pr_seq (pc' := 45) 2 rfl ⟨⟨trivial, trivial⟩, trivial⟩ ?_
                              try simp only [v1, v2, r0, e4, u1, u2, pr_16_8400, pr_i_0, pr_i_1]
                              exact pr_irM rfl (by first | rfl | (simp only [v1, v2, r0, e4, u1, u2, pr_16_8400, pr_i_0, pr_i_1]; done) | (simp [pr_b, pr_16_8400, pr_i_0, pr_i_1, *]; done) | (simp_all [pr_b, pr_16_8400, pr_i_0, pr_i_1]; done)) (by first | exact Or.inl rfl | exact Or.inr rfl | exact pr_b01 _ | assumption) (by rfl)
        | some y =>
          rw [hE] at u1
          have u1 : M.2.1 56 s = jN y := u1
          have u2 : ¬ lg_cmp (jN y) (jN 18446744073709551615) = 0 := cmp_ne (jN_ne (v7 s y hE))
          refine pr_seq (pc' := 5) 3 rfl ⟨⟨⟨trivial, trivial⟩, (by first | assumption | (simp only [v1, v2, r0, e4, u1, pr_16_8400, pr_i_0, pr_i_1]; first | assumption | decide | exact ⟨by assumption, by assumption⟩ | exact ⟨Or.inl (by assumption), by assumption⟩ | omega) | decide | exact ⟨Or.inl (by assumption), by assumption⟩ | exact ⟨by assumption, by assumption⟩ | omega)⟩, (by first | assumption | (simp only [v1, v2, r0, e4, u1, pr_16_8400, pr_i_0, pr_i_1]; first | assumption | decide | exact ⟨by assumption, by assumption⟩ | exact ⟨Or.inl (by assumption), by assumption⟩ | omega) | decide | exact ⟨Or.inl (by assumption), by assumption⟩ | exact ⟨by assumption, by assumption⟩ | omega)⟩ ?_
          try simp only [v1, v2, r0, e4, u1, pr_16_8400, pr_i_0, pr_i_1]
          refine pr_ic rfl (fun h5 => ?_) (fun h5 => ?_)
          · simp only [ab_cmp, pr_16_8400, pr_i_0, pr_i_1] at h5
            first
            | contradiction
            | exact absurd trivial h5
            | exact absurd h5 (by decide)
            | exact absurd (Classical.not_not.mp h5) (by decide)
            | skip
              refine pr_seq (pc' := 45) 1 rfl ⟨trivial, trivial⟩ ?_
              try simp only [v1, v2, r0, e4, u1, pr_16_8400, pr_i_0, pr_i_1]
              exact pr_irM rfl (by first | rfl | (simp only [v1, v2, r0, e4, u1, pr_16_8400, pr_i_0, pr_i_1]; done) | (simp [pr_b, pr_16_8400, pr_i_0, pr_i_1, *]; done) | (simp_all [pr_b, pr_16_8400, pr_i_0, pr_i_1]; done)) (by first | exact Or.inl rfl | exact Or.inr rfl | exact pr_b01 _ | assumption) (by rfl)
          · simp only [ab_cmp, pr_16_8400, pr_i_0, pr_i_1] at h5
            first
            | contradiction
            | exact absurd trivial h5
            | exact absurd h5 (by decide)
            | exact absurd (Classical.not_not.mp h5) (by decide)
            | skip
              refine pr_seq (pc' := 13) 3 rfl ⟨⟨⟨trivial, trivial⟩, (by first | assumption | (simp only [v1, v2, r0, e4, u1, pr_16_8400, pr_i_0, pr_i_1]; first | assumption | decide | exact ⟨by assumption, by assumption⟩ | exact ⟨Or.inl (by assumption), by assumption⟩ | omega) | decide | exact ⟨Or.inl (by assumption), by assumption⟩ | exact ⟨by assumption, by assumption⟩ | omega)⟩, (by first | assumption | (simp only [v1, v2, r0, e4, u1, pr_16_8400, pr_i_0, pr_i_1]; first | assumption | decide | exact ⟨by assumption, by assumption⟩ | exact ⟨Or.inl (by assumption), by assumption⟩ | omega) | decide | exact ⟨Or.inl (by assumption), by assumption⟩ | exact ⟨by assumption, by assumption⟩ | omega)⟩ ?_
              try simp only [v1, v2, r0, e4, u1, pr_16_8400, pr_i_0, pr_i_1]
              refine pr_ic rfl (fun h13 => ?_) (fun h13 => ?_)
              · simp only [ab_cmp, pr_16_8400, pr_i_0, pr_i_1] at h13
                first
                | contradiction
                | exact absurd trivial h13
                | exact absurd h13 (by decide)
                | exact absurd (Classical.not_not.mp h13) (by decide)
                | skip
                  refine pr_seq (pc' := 45) 1 rfl ⟨trivial, trivial⟩ ?_
                  try simp only [v1, v2, r0, e4, u1, pr_16_8400, pr_i_0, pr_i_1]
                  exact pr_irM rfl (by first | rfl | (simp only [v1, v2, r0, e4, u1, pr_16_8400, pr_i_0, pr_i_1]; done) | (simp [pr_b, pr_16_8400, pr_i_0, pr_i_1, *]; done) | (simp_all [pr_b, pr_16_8400, pr_i_0, pr_i_1]; done)) (by first | exact Or.inl rfl | exact Or.inr rfl | exact pr_b01 _ | assumption) (by rfl)
              · simp only [ab_cmp, pr_16_8400, pr_i_0, pr_i_1] at h13
                first
                | contradiction
                | exact absurd trivial h13
                | exact absurd h13 (by decide)
                | exact absurd (Classical.not_not.mp h13) (by decide)
                | skip
                  refine pr_seq (pc' := 17) 1 rfl ⟨trivial, trivial⟩ ?_
                  try simp only [v1, v2, r0, e4, u1, pr_16_8400, pr_i_0, pr_i_1]
                  refine pr_if rfl (fun h17 => ?_) (fun h17 => ?_)
                  · simp only [ab_cmp, pr_16_8400, pr_i_0, pr_i_1] at h17
                    first
                    | contradiction
                    | exact absurd trivial h17
                    | exact absurd h17 (by decide)
                    | exact absurd (Classical.not_not.mp h17) (by decide)
                    | skip
                      refine pr_seq (pc' := 45) 1 rfl ⟨trivial, trivial⟩ ?_
                      try simp only [v1, v2, r0, e4, u1, pr_16_8400, pr_i_0, pr_i_1]
                      exact pr_irM rfl (by first | rfl | (simp only [v1, v2, r0, e4, u1, pr_16_8400, pr_i_0, pr_i_1]; done) | (simp [pr_b, pr_16_8400, pr_i_0, pr_i_1, *]; done) | (simp_all [pr_b, pr_16_8400, pr_i_0, pr_i_1]; done)) (by first | exact Or.inl rfl | exact Or.inr rfl | exact pr_b01 _ | assumption) (by rfl)
                  · simp only [ab_cmp, pr_16_8400, pr_i_0, pr_i_1] at h17
                    first
                    | contradiction
                    | exact absurd trivial h17
                    | exact absurd h17 (by decide)
                    | exact absurd (Classical.not_not.mp h17) (by decide)
                    | skip
                      refine pr_seq (pc' := 24) 2 rfl ⟨⟨trivial, trivial⟩, trivial⟩ ?_
                      try simp only [v1, v2, r0, e4, u1, pr_16_8400, pr_i_0, pr_i_1]
                      refine pr_ic rfl (fun h24 => ?_) (fun h24 => ?_)
                      · simp only [ab_cmp, pr_16_8400, pr_i_0, pr_i_1] at h24
                        first
                        | contradiction
                        | exact absurd trivial h24
                        | exact absurd h24 (by decide)
                        | exact absurd (Classical.not_not.mp h24) (by decide)
                        | skip
                          refine pr_seq (pc' := 45) 1 rfl ⟨trivial, trivial⟩ ?_
                          try simp only [v1, v2, r0, e4, u1, pr_16_8400, pr_i_0, pr_i_1]
                          exact pr_irM rfl (by first | rfl | (simp only [v1, v2, r0, e4, u1, pr_16_8400, pr_i_0, pr_i_1]; done) | (simp [pr_b, pr_16_8400, pr_i_0, pr_i_1, *]; done) | (simp_all [pr_b, pr_16_8400, pr_i_0, pr_i_1]; done)) (by first | exact Or.inl rfl | exact Or.inr rfl | exact pr_b01 _ | assumption) (by rfl)
                      · simp only [ab_cmp, pr_16_8400, pr_i_0, pr_i_1] at h24
                        first
                        | contradiction
                        | exact absurd trivial h24
                        | exact absurd h24 (by decide)
                        | exact absurd (Classical.not_not.mp h24) (by decide)
                        | skip
                          refine pr_seq (pc' := 37) 6 rfl ⟨⟨⟨⟨⟨⟨trivial, (by first | assumption | (simp only [v1, v2, r0, e4, u1, pr_16_8400, pr_i_0, pr_i_1]; first | assumption | decide | exact ⟨by assumption, by assumption⟩ | exact ⟨Or.inl (by assumption), by assumption⟩ | omega) | decide | exact ⟨Or.inl (by assumption), by assumption⟩ | exact ⟨by assumption, by assumption⟩ | omega)⟩, (by first | assumption | (simp only [v1, v2, r0, e4, u1, pr_16_8400, pr_i_0, pr_i_1]; first | assumption | decide | exact ⟨by assumption, by assumption⟩ | exact ⟨Or.inl (by assumption), by assumption⟩ | omega) | decide | exact ⟨Or.inl (by assumption), by assumption⟩ | exact ⟨by assumption, by assumption⟩ | omega)⟩, trivial⟩, (by first | assumption | (simp only [v1, v2, r0, e4, u1, pr_16_8400, pr_i_0, pr_i_1]; first | assumption | decide | exact ⟨by assumption, by assumption⟩ | exact ⟨Or.inl (by assumption), by assumption⟩ | omega) | decide | exact ⟨Or.inl (by assumption), by assumption⟩ | exact ⟨by assumption, by assumption⟩ | omega)⟩, trivial⟩, trivial⟩ ?_
                          try simp only [v1, v2, r0, e4, u1, pr_16_8400, pr_i_0, pr_i_1]
                          refine pr_if rfl (fun h37 => ?_) (fun h37 => ?_)
                          · simp only [ab_cmp, pr_16_8400, pr_i_0, pr_i_1] at h37
                            first
                            | contradiction
                            | exact absurd trivial h37
                            | exact absurd h37 (by decide)
                            | exact absurd (Classical.not_not.mp h37) (by decide)
                            | skip
                              refine pr_seq (pc' := 45) 1 rfl ⟨trivial, trivial⟩ ?_
                              try simp only [v1, v2, r0, e4, u1, pr_16_8400, pr_i_0, pr_i_1]
                              exact pr_irM rfl (by first | rfl | (simp only [v1, v2, r0, e4, u1, pr_16_8400, pr_i_0, pr_i_1]; done) | (simp [pr_b, pr_16_8400, pr_i_0, pr_i_1, *]; done) | (simp_all [pr_b, pr_16_8400, pr_i_0, pr_i_1]; done)) (by first | exact Or.inl rfl | exact Or.inr rfl | exact pr_b01 _ | assumption) (by rfl)
                          · simp only [ab_cmp, pr_16_8400, pr_i_0, pr_i_1] at h37
                            first
                            | contradiction
                            | exact absurd trivial h37
                            | exact absurd h37 (by decide)
                            | exact absurd (Classical.not_not.mp h37) (by decide)
                            | skip
                              refine pr_seq (pc' := 45) 2 rfl ⟨⟨trivial, trivial⟩, trivial⟩ ?_
                              try simp only [v1, v2, r0, e4, u1, pr_16_8400, pr_i_0, pr_i_1]
                              exact pr_irM rfl (by first | rfl | (simp only [v1, v2, r0, e4, u1, pr_16_8400, pr_i_0, pr_i_1]; done) | (simp [pr_b, pr_16_8400, pr_i_0, pr_i_1, *]; done) | (simp_all [pr_b, pr_16_8400, pr_i_0, pr_i_1]; done)) (by first | exact Or.inl rfl | exact Or.inr rfl | exact pr_b01 _ | assumption) (by rfl)
theorem c_leastFor {low high s x : Nat} {E : Nat → Option Nat} (h : ab_H) (M : ab_M) (hp : pr_Ra h M.2.2) (hv : ra_v M.1 M.2.1 low high high E) (hE : E s = some x) : pr_C pX5_leastFor [.ref 55, .int (nI s)] h M (some (.int (nI (x / 2 ^ 40)))) h M := by
  obtain ⟨k1, r0, r1, a1, a2, b1, b2⟩ := id hp
  obtain ⟨v1, v2, v3, v4, v5, v6, v7⟩ := id hv
  have n55 : (55 : Nat) ≠ 0 := by decide
  have hs : low ≤ s ∧ s ≤ high := by
    by_cases q : s < low ∨ high < s
    · rw [v6 s q] at hE; cases hE
    · omega
  have hr := c_reach (nI s) h M hp hv (fun t ht h1 h2 => h1)
  rw [rch_n (by omega), hE, show (some x).isSome = true from rfl] at hr
  have e4 : (nI s).toNatClampNeg = s := nI_clamp (by omega)
  have w1 : vp_in (nI s) (ab_n h 56) := by rw [a2]; exact vp_in_nI (by omega) (by decide)
  have u1 := v5 s hs.1 hs.2 hs.2
  rw [hE] at u1
  have u1 : M.2.1 56 s = jN x := u1
  have u2 : jN x >>> ((40 : Int32).toInt64 &&& 63) = jN (x / 2 ^ 40) := jN_shr (k := 40) (v7 s x hE) (by decide)
  refine pr_seq (pc' := 2) 2 rfl ⟨⟨trivial, (by first | assumption | (simp only [r0, e4, u1, u2, jN_32, pr_8_40, pr_i_0]; first | assumption | decide | exact ⟨by assumption, by assumption⟩ | exact ⟨Or.inl (by assumption), by assumption⟩ | omega) | decide | exact ⟨Or.inl (by assumption), by assumption⟩ | exact ⟨by assumption, by assumption⟩ | omega)⟩, trivial⟩ ?_
  try simp only [r0, e4, u1, u2, jN_32, pr_8_40, pr_i_0]
  refine pr_cv [_] rfl rfl rfl rfl rfl (Nat.le_of_ble_eq_true rfl) (by first | assumption | (simp only [r0, e4, u1, u2, jN_32, pr_8_40, pr_i_0]; first | assumption | decide | exact ⟨by assumption, by assumption⟩ | exact ⟨Or.inl (by assumption), by assumption⟩ | omega) | decide | exact ⟨Or.inl (by assumption), by assumption⟩ | exact ⟨by assumption, by assumption⟩ | omega) (Nat.le_of_ble_eq_true rfl) (hr) ?_
  refine pr_if rfl (fun h5 => ?_) (fun h5 => ?_)
  · simp only [ab_cmp, pr_8_40, pr_i_0] at h5
    first
    | contradiction
    | exact absurd trivial h5
    | exact absurd h5 (by decide)
    | exact absurd (Classical.not_not.mp h5) (by decide)
    | skip
      fail
  · simp only [ab_cmp, pr_8_40, pr_i_0] at h5
    first
    | contradiction
    | exact absurd trivial h5
    | exact absurd h5 (by decide)
    | exact absurd (Classical.not_not.mp h5) (by decide)
    | skip
      refine pr_seq (pc' := 22) 8 rfl ⟨⟨⟨⟨⟨⟨⟨⟨trivial, (by first | assumption | (simp only [r0, e4, u1, u2, jN_32, pr_8_40, pr_i_0]; first | assumption | decide | exact ⟨by assumption, by assumption⟩ | exact ⟨Or.inl (by assumption), by assumption⟩ | omega) | decide | exact ⟨Or.inl (by assumption), by assumption⟩ | exact ⟨by assumption, by assumption⟩ | omega)⟩, (by first | assumption | (simp only [r0, e4, u1, u2, jN_32, pr_8_40, pr_i_0]; first | assumption | decide | exact ⟨by assumption, by assumption⟩ | exact ⟨Or.inl (by assumption), by assumption⟩ | omega) | decide | exact ⟨Or.inl (by assumption), by assumption⟩ | exact ⟨by assumption, by assumption⟩ | omega)⟩, trivial⟩, (by first | assumption | (simp only [r0, e4, u1, u2, jN_32, pr_8_40, pr_i_0]; first | assumption | decide | exact ⟨by assumption, by assumption⟩ | exact ⟨Or.inl (by assumption), by assumption⟩ | omega) | decide | exact ⟨Or.inl (by assumption), by assumption⟩ | exact ⟨by assumption, by assumption⟩ | omega)⟩, trivial⟩, trivial⟩, trivial⟩, trivial⟩ ?_
      try simp only [r0, e4, u1, u2, jN_32, pr_8_40, pr_i_0]
      exact pr_irM rfl (by rfl) trivial (by rfl)
theorem c_shiftOf {j : Nat} (hj : j < 20) (h : ab_H) (M : ab_M) : pr_C pX5_shiftOf [.int (nI j)] h M (some (.int (nI (2 * (19 - j))))) h M := by
  have e : (2 : Int32) * (19 - nI j) = nI (2 * (19 - j)) := by
    rw [show (19 : Int32) = nI 19 from rfl, i_sub (by omega), show (2 : Int32) = nI 2 from rfl, nI_mul]
  refine pr_seq (pc' := 6) 5 rfl ⟨⟨⟨⟨⟨trivial, trivial⟩, trivial⟩, trivial⟩, trivial⟩, trivial⟩ ?_
  try simp only [e, pr_8_19, pr_i_2]
  exact pr_irM rfl (by rfl) trivial (by rfl)
theorem c_unit {j : Nat} (hj : j < 20) (h : ab_H) (M : ab_M) : pr_C pX5_unit [.int (nI j)] h M (some (.long (jN (un j)))) h M := by
  have e : jN 1099511627776 + jN 1 <<< ((nI (2 * (19 - j))).toInt64 &&& 63) = jN (un j) := by
    rw [jN_shl j hj, jN_add]
    rfl
  refine pr_seq (pc' := 5) 3 rfl ⟨⟨⟨trivial, trivial⟩, trivial⟩, trivial⟩ ?_
  try simp only [e]
  refine pr_cs [_] rfl rfl rfl rfl rfl (Nat.le_of_ble_eq_true rfl) (Nat.le_of_ble_eq_true rfl) (c_shiftOf hj h M) ?_
  refine pr_seq (pc' := 10) 2 rfl ⟨⟨trivial, trivial⟩, trivial⟩ ?_
  try simp only [e]
  exact pr_lrM rfl (by exact congrArg (fun z => some (Value.long z)) e.symm) trivial (by rfl)
theorem c_atPlace {low high s x j : Nat} {E : Nat → Option Nat} (h : ab_H) (M : ab_M) (hp : pr_Ra h M.2.2) (hv : ra_v M.1 M.2.1 low high high E) (hE : E s = some x) (hj : j < 20) : pr_C pX5_atPlace [.ref 55, .int (nI s), .int (nI j)] h M (some (.int (nI (x / 4 ^ (19 - j) % 4)))) h M := by
  obtain ⟨k1, r0, r1, a1, a2, b1, b2⟩ := id hp
  obtain ⟨v1, v2, v3, v4, v5, v6, v7⟩ := id hv
  have n55 : (55 : Nat) ≠ 0 := by decide
  have hs : low ≤ s ∧ s ≤ high := by
    by_cases q : s < low ∨ high < s
    · rw [v6 s q] at hE; cases hE
    · omega
  have hr := c_reach (nI s) h M hp hv (fun t ht h1 h2 => h1)
  rw [rch_n (by omega), hE, show (some x).isSome = true from rfl] at hr
  have e4 : (nI s).toNatClampNeg = s := nI_clamp (by omega)
  have w1 : vp_in (nI s) (ab_n h 56) := by rw [a2]; exact vp_in_nI (by omega) (by decide)
  have u1 := v5 s hs.1 hs.2 hs.2
  rw [hE] at u1
  have u1 : M.2.1 56 s = jN x := u1
  have u2 : jN x >>> ((nI (2 * (19 - j))).toInt64 &&& 63) = jN (x / 4 ^ (19 - j)) := by
    rw [jN_shr (v7 s x hE) (by omega), Nat.pow_mul]
  have u3 : nI (x / 4 ^ (19 - j)) &&& 3 = nI (x / 4 ^ (19 - j) % 4) := by
    rw [show (3 : Int32) = nI 3 from rfl, i_and, show (3 : Nat) = 2 ^ 2 - 1 from rfl, Nat.and_two_pow_sub_one_eq_mod]
  refine pr_seq (pc' := 2) 2 rfl ⟨⟨trivial, (by first | assumption | (simp only [r0, e4, u1, u2, jN_32, u3, pr_i_0, pr_i_3]; first | assumption | decide | exact ⟨by assumption, by assumption⟩ | exact ⟨Or.inl (by assumption), by assumption⟩ | omega) | decide | exact ⟨Or.inl (by assumption), by assumption⟩ | exact ⟨by assumption, by assumption⟩ | omega)⟩, trivial⟩ ?_
  try simp only [r0, e4, u1, u2, jN_32, u3, pr_i_0, pr_i_3]
  refine pr_cv [_] rfl rfl rfl rfl rfl (Nat.le_of_ble_eq_true rfl) (by first | assumption | (simp only [r0, e4, u1, u2, jN_32, u3, pr_i_0, pr_i_3]; first | assumption | decide | exact ⟨by assumption, by assumption⟩ | exact ⟨Or.inl (by assumption), by assumption⟩ | omega) | decide | exact ⟨Or.inl (by assumption), by assumption⟩ | exact ⟨by assumption, by assumption⟩ | omega) (Nat.le_of_ble_eq_true rfl) (hr) ?_
  refine pr_if rfl (fun h5 => ?_) (fun h5 => ?_)
  · simp only [ab_cmp, pr_i_0, pr_i_3] at h5
    first
    | contradiction
    | exact absurd trivial h5
    | exact absurd h5 (by decide)
    | exact absurd (Classical.not_not.mp h5) (by decide)
    | skip
      fail
  · simp only [ab_cmp, pr_i_0, pr_i_3] at h5
    first
    | contradiction
    | exact absurd trivial h5
    | exact absurd h5 (by decide)
    | exact absurd (Classical.not_not.mp h5) (by decide)
    | skip
      refine pr_seq (pc' := 15) 5 rfl ⟨⟨⟨⟨⟨trivial, (by first | assumption | (simp only [r0, e4, u1, u2, jN_32, u3, pr_i_0, pr_i_3]; first | assumption | decide | exact ⟨by assumption, by assumption⟩ | exact ⟨Or.inl (by assumption), by assumption⟩ | omega) | decide | exact ⟨Or.inl (by assumption), by assumption⟩ | exact ⟨by assumption, by assumption⟩ | omega)⟩, (by first | assumption | (simp only [r0, e4, u1, u2, jN_32, u3, pr_i_0, pr_i_3]; first | assumption | decide | exact ⟨by assumption, by assumption⟩ | exact ⟨Or.inl (by assumption), by assumption⟩ | omega) | decide | exact ⟨Or.inl (by assumption), by assumption⟩ | exact ⟨by assumption, by assumption⟩ | omega)⟩, trivial⟩, (by first | assumption | (simp only [r0, e4, u1, u2, jN_32, u3, pr_i_0, pr_i_3]; first | assumption | decide | exact ⟨by assumption, by assumption⟩ | exact ⟨Or.inl (by assumption), by assumption⟩ | omega) | decide | exact ⟨Or.inl (by assumption), by assumption⟩ | exact ⟨by assumption, by assumption⟩ | omega)⟩, trivial⟩ ?_
      try simp only [r0, e4, u1, u2, jN_32, u3, pr_i_0, pr_i_3]
      refine pr_cs [_] rfl rfl rfl rfl rfl (Nat.le_of_ble_eq_true rfl) (Nat.le_of_ble_eq_true rfl) (c_shiftOf hj h M) ?_
      refine pr_seq (pc' := 26) 5 rfl ⟨⟨⟨⟨⟨trivial, trivial⟩, trivial⟩, trivial⟩, trivial⟩, trivial⟩ ?_
      try simp only [r0, e4, u1, u2, jN_32, u3, pr_i_0, pr_i_3]
      exact pr_irM rfl (by rfl) trivial (by rfl)
/-- the shares of a place -/
def ss_v (I : Nat → Nat → Int32) (c : Nat) (g : Nat → Nat) : Prop := I 55 2 = nI c ∧ c ≤ 4 ∧ ∀ r, r < c → I 57 r = nI (g r)
theorem dGo_lt {F : Nat → Option Nat} {g : Nat → Nat} {u s b : Nat} (hF : ∀ s x, F s = some x → x ≤ b) : ∀ c x, dGo F g u s c = some x → x ≤ b + (c - 1) * u := by
  intro c
  induction c with
  | zero => intro x h; cases h
  | succ r ih =>
    intro x h
    unfold dGo at h
    rcases oMin_some h with h1 | h1
    · have := ih x h1
      have : (r - 1) * u ≤ (r + 1 - 1) * u := Nat.mul_le_mul_right _ (by omega)
      omega
    · by_cases q : g r ≤ s
      · rw [if_pos q] at h1
        cases hE : F (s - g r) with
        | none => rw [hE] at h1; cases h1
        | some y =>
          rw [hE] at h1
          cases h1
          have := hF _ _ hE
          rw [Nat.add_sub_cancel]
          show y + r * u ≤ _
          omega
      · rw [if_neg q] at h1
        cases h1
theorem c_leastEntry {low high lim s c u : Nat} {E : Nat → Option Nat} {g : Nat → Nat} (h : ab_H) (M : ab_M) (hp : pr_Ra h M.2.2) (hv : ra_v M.1 M.2.1 low high lim E) (hlim : s ≤ lim) (hs : ss_v M.1 c g) (hg : ∀ r, r < c → g r ≤ 8400) (hs8 : s ≤ 8400) (hu : u ≤ 2 ^ 41) (hb : ∀ s x, E s = some x → x ≤ 2 ^ 46 + 2 ^ 45) : pr_C pX5_leastEntry [.ref 55, .int (nI s), .long (jN u)] h M (some (.long (eL (dGo E g u s c)))) h M := by
  obtain ⟨k1, r0, r1, a1, a2, b1, b2⟩ := id hp
  obtain ⟨v1, v2, v3, v4, v5, v6, v7⟩ := id hv
  obtain ⟨z1, z2, z3⟩ := id hs
  have n55 : (55 : Nat) ≠ 0 := by decide
  have loop : ∀ dd r, r + dd = c → ∀ (o7 o8 : Option Value), (o8 = none ∨ ∃ z, o8 = some (.long z)) → pr_E pX5_leastEntry 8 [some (.ref 55), some (.int (nI s)), some (.long (jN u)), none, some (.long (eL (dGo E g u s r))), none, some (.int (nI r)), o7, o8, none] [] h M (some (.long (eL (dGo E g u s c)))) h M := by
    intro dd
    induction dd with
    | zero =>
      intro r hr o7 o8 ho8
      obtain rfl : r = c := by omega
      have e1 : nI r ≤ nI r := nI_le (Nat.le_refl _) (by omega)
      refine pr_seq (pc' := 14) 3 rfl ⟨⟨⟨trivial, trivial⟩, (by first | assumption | (simp only [z1, pr_i_0, pr_i_1]; first | assumption | decide | exact ⟨by assumption, by assumption⟩ | exact ⟨Or.inl (by assumption), by assumption⟩ | omega) | decide | exact ⟨Or.inl (by assumption), by assumption⟩ | exact ⟨by assumption, by assumption⟩ | omega)⟩, (by first | assumption | (simp only [z1, pr_i_0, pr_i_1]; first | assumption | decide | exact ⟨by assumption, by assumption⟩ | exact ⟨Or.inl (by assumption), by assumption⟩ | omega) | decide | exact ⟨Or.inl (by assumption), by assumption⟩ | exact ⟨by assumption, by assumption⟩ | omega)⟩ ?_
      try simp only [z1, pr_i_0, pr_i_1]
      refine pr_ic rfl (fun h14 => ?_) (fun h14 => ?_)
      · simp only [ab_cmp, pr_i_0, pr_i_1] at h14
        first
        | contradiction
        | exact absurd trivial h14
        | exact absurd h14 (by decide)
        | exact absurd (Classical.not_not.mp h14) (by decide)
        | skip
          refine pr_seq (pc' := 83) 1 rfl ⟨trivial, trivial⟩ ?_
          try simp only [z1, pr_i_0, pr_i_1]
          exact pr_lrM rfl (by rfl) trivial (by rfl)
      · simp only [ab_cmp, pr_i_0, pr_i_1] at h14
        first
        | contradiction
        | exact absurd trivial h14
        | exact absurd h14 (by decide)
        | exact absurd (Classical.not_not.mp h14) (by decide)
        | skip
          fail
    | succ dd ih =>
      intro r hr o7 o8 ho8
      have e1 : ¬ nI c ≤ nI r := nI_ge (by omega) (by omega)
      have e3 : (nI r).toNatClampNeg = r := nI_clamp (by omega)
      have w1 : vp_in (nI r) (ab_n h 57) := by rw [b2]; exact vp_in_nI (by omega) (by decide)
      have x1 := z3 r (by omega)
      have hg1 := hg r (by omega)
      have hre := c_reach (nI s - nI (g r)) h M hp hv (fun t ht h1 h2 => by
        by_cases q : g r ≤ s
        · rw [i_sub q] at h2
          have := (nI_eq (by omega) ht).mp h2
          omega
        · exfalso
          have : nI s - nI (g r) < 0 := by
            rw [Int32.lt_iff_toInt_lt, Int32.toInt_sub, nI_toInt (by omega), nI_toInt (by omega), Int.bmod_eq_of_le (by omega) (by omega)]
            show (s : Int) - (g r : Int) < 0
            omega
          rw [h2] at this
          exact nI_pos ht this)
      have hh := ih (r + 1) (by omega)
      rw [← nI_1] at hh
      have edef : dGo E g u s (r + 1) = oMin (dGo E g u s r) (if g r ≤ s then (E (s - g r)).map (· + r * u) else none) := rfl
      by_cases q : g r ≤ s
      · have e5 : nI s - nI (g r) = nI (s - g r) := i_sub q
        have e6 : (nI (s - g r)).toNatClampNeg = s - g r := nI_clamp (by omega)
        rw [e5, rch_n (by omega)] at hre
        cases hE : E (s - g r) with
        | none =>
          rw [hE, show (none : Option Nat).isSome = false from rfl] at hre
          rw [edef, if_pos q, hE, show oMin (dGo E g u s r) (Option.map (· + r * u) none) = dGo E g u s r by cases dGo E g u s r <;> rfl] at hh
          refine pr_seq (pc' := 14) 3 rfl ⟨⟨⟨trivial, trivial⟩, (by first | assumption | (simp only [z1, r1, e3, x1, e5, pr_i_0, pr_i_1]; first | assumption | decide | exact ⟨by assumption, by assumption⟩ | exact ⟨Or.inl (by assumption), by assumption⟩ | omega) | decide | exact ⟨Or.inl (by assumption), by assumption⟩ | exact ⟨by assumption, by assumption⟩ | omega)⟩, (by first | assumption | (simp only [z1, r1, e3, x1, e5, pr_i_0, pr_i_1]; first | assumption | decide | exact ⟨by assumption, by assumption⟩ | exact ⟨Or.inl (by assumption), by assumption⟩ | omega) | decide | exact ⟨Or.inl (by assumption), by assumption⟩ | exact ⟨by assumption, by assumption⟩ | omega)⟩ ?_
          try simp only [z1, r1, e3, x1, e5, pr_i_0, pr_i_1]
          refine pr_ic rfl (fun h14 => ?_) (fun h14 => ?_)
          · simp only [ab_cmp, pr_i_0, pr_i_1] at h14
            first
            | contradiction
            | exact absurd trivial h14
            | exact absurd h14 (by decide)
            | exact absurd (Classical.not_not.mp h14) (by decide)
            | skip
              refine pr_seq (pc' := 83) 1 rfl ⟨trivial, trivial⟩ ?_
              try simp only [z1, r1, e3, x1, e5, pr_i_0, pr_i_1]
              exact pr_lrM rfl (by first | rfl | (simp only [z1, r1, e3, x1, e5, pr_i_0, pr_i_1]; done) | (simp [pr_b, pr_i_0, pr_i_1, *]; done) | (simp_all [pr_b, pr_i_0, pr_i_1]; done)) trivial (by rfl)
          · simp only [ab_cmp, pr_i_0, pr_i_1] at h14
            first
            | contradiction
            | exact absurd trivial h14
            | exact absurd h14 (by decide)
            | exact absurd (Classical.not_not.mp h14) (by decide)
            | skip
              refine pr_seq (pc' := 31) 9 rfl ⟨⟨⟨⟨⟨⟨⟨⟨⟨trivial, trivial⟩, (by first | assumption | (simp only [z1, r1, e3, x1, e5, pr_i_0, pr_i_1]; first | assumption | decide | exact ⟨by assumption, by assumption⟩ | exact ⟨Or.inl (by assumption), by assumption⟩ | omega) | decide | exact ⟨Or.inl (by assumption), by assumption⟩ | exact ⟨by assumption, by assumption⟩ | omega)⟩, (by first | assumption | (simp only [z1, r1, e3, x1, e5, pr_i_0, pr_i_1]; first | assumption | decide | exact ⟨by assumption, by assumption⟩ | exact ⟨Or.inl (by assumption), by assumption⟩ | omega) | decide | exact ⟨Or.inl (by assumption), by assumption⟩ | exact ⟨by assumption, by assumption⟩ | omega)⟩, trivial⟩, (by first | assumption | (simp only [z1, r1, e3, x1, e5, pr_i_0, pr_i_1]; first | assumption | decide | exact ⟨by assumption, by assumption⟩ | exact ⟨Or.inl (by assumption), by assumption⟩ | omega) | decide | exact ⟨Or.inl (by assumption), by assumption⟩ | exact ⟨by assumption, by assumption⟩ | omega)⟩, trivial⟩, trivial⟩, (by first | assumption | (simp only [z1, r1, e3, x1, e5, pr_i_0, pr_i_1]; first | assumption | decide | exact ⟨by assumption, by assumption⟩ | exact ⟨Or.inl (by assumption), by assumption⟩ | omega) | decide | exact ⟨Or.inl (by assumption), by assumption⟩ | exact ⟨by assumption, by assumption⟩ | omega)⟩, trivial⟩ ?_
              try simp only [z1, r1, e3, x1, e5, pr_i_0, pr_i_1]
              refine pr_cv [_] rfl rfl rfl rfl rfl (Nat.le_of_ble_eq_true rfl) (by first | assumption | (simp only [z1, r1, e3, x1, e5, pr_i_0, pr_i_1]; first | assumption | decide | exact ⟨by assumption, by assumption⟩ | exact ⟨Or.inl (by assumption), by assumption⟩ | omega) | decide | exact ⟨Or.inl (by assumption), by assumption⟩ | exact ⟨by assumption, by assumption⟩ | omega) (Nat.le_of_ble_eq_true rfl) (hre) ?_
              refine pr_if rfl (fun h34 => ?_) (fun h34 => ?_)
              · simp only [ab_cmp, pr_i_0, pr_i_1] at h34
                first
                | contradiction
                | exact absurd trivial h34
                | exact absurd h34 (by decide)
                | exact absurd (Classical.not_not.mp h34) (by decide)
                | skip
                  refine pr_seq (pc' := 8) 2 rfl ⟨⟨trivial, trivial⟩, trivial⟩ ?_
                  try simp only [z1, r1, e3, x1, e5, pr_i_0, pr_i_1]
                  exact hh _ _ ho8
              · simp only [ab_cmp, pr_i_0, pr_i_1] at h34
                first
                | contradiction
                | exact absurd trivial h34
                | exact absurd h34 (by decide)
                | exact absurd (Classical.not_not.mp h34) (by decide)
                | skip
                  fail
        | some y =>
          rw [hE, show (some y).isSome = true from rfl] at hre
          have hin : low ≤ s - g r ∧ s - g r ≤ high := by
            by_cases q : s - g r < low ∨ high < s - g r
            · rw [v6 _ q] at hE; cases hE
            · omega
          have w2 : vp_in (nI (s - g r)) (ab_n h 56) := by rw [a2]; exact vp_in_nI (by omega) (by decide)
          have u1 := v5 _ hin.1 hin.2 (by omega)
          rw [hE] at u1
          have u1 : M.2.1 56 (s - g r) = jN y := u1
          have u2 : jN y + (nI r).toInt64 * jN u = jN (y + r * u) := by rw [jN_i (by omega), jN_mul, jN_add]
          rw [edef, if_pos q, hE] at hh
          have hy := hb _ _ hE
          have hru : r * u ≤ 3 * 2 ^ 41 := Nat.mul_le_mul (by omega) hu
          cases hd : dGo E g u s r with
          | none =>
            rw [hd] at hh
            have u3 : lg_cmp (jN 18446744073709551615) (jN 18446744073709551615) = 0 := cmp_eq _
            have hh : ∀ o7 o8, (o8 = none ∨ ∃ z, o8 = some (.long z)) → pr_E pX5_leastEntry 8 [some (.ref 55), some (.int (nI s)), some (.long (jN u)), none, some (.long (jN (y + r * u))), none, some (.int (nI r + 1)), o7, o8, none] [] h M (some (.long (eL (dGo E g u s c)))) h M := hh
            show pr_E pX5_leastEntry 8 [some (.ref 55), some (.int (nI s)), some (.long (jN u)), none, some (.long (jN 18446744073709551615)), none, some (.int (nI r)), o7, o8, none] [] h M (some (.long (eL (dGo E g u s c)))) h M
            rcases ho8 with rfl | ⟨z8, rfl⟩
            all_goals
              refine pr_seq (pc' := 14) 3 rfl ⟨⟨⟨trivial, trivial⟩, (by first | assumption | (simp only [z1, r0, r1, e3, x1, e5, e6, u1, u2, u3, pr_i_0, pr_i_1]; first | assumption | decide | exact ⟨by assumption, by assumption⟩ | exact ⟨Or.inl (by assumption), by assumption⟩ | omega) | decide | exact ⟨Or.inl (by assumption), by assumption⟩ | exact ⟨by assumption, by assumption⟩ | omega)⟩, (by first | assumption | (simp only [z1, r0, r1, e3, x1, e5, e6, u1, u2, u3, pr_i_0, pr_i_1]; first | assumption | decide | exact ⟨by assumption, by assumption⟩ | exact ⟨Or.inl (by assumption), by assumption⟩ | omega) | decide | exact ⟨Or.inl (by assumption), by assumption⟩ | exact ⟨by assumption, by assumption⟩ | omega)⟩ ?_
              try simp only [z1, r0, r1, e3, x1, e5, e6, u1, u2, u3, pr_i_0, pr_i_1]
              refine pr_ic rfl (fun h14 => ?_) (fun h14 => ?_)
              · simp only [ab_cmp, pr_i_0, pr_i_1] at h14
                first
                | contradiction
                | exact absurd trivial h14
                | exact absurd h14 (by decide)
                | exact absurd (Classical.not_not.mp h14) (by decide)
                | skip
                  refine pr_seq (pc' := 83) 1 rfl ⟨trivial, trivial⟩ ?_
                  try simp only [z1, r0, r1, e3, x1, e5, e6, u1, u2, u3, pr_i_0, pr_i_1]
                  exact pr_lrM rfl (by first | rfl | (simp only [z1, r0, r1, e3, x1, e5, e6, u1, u2, u3, pr_i_0, pr_i_1]; done) | (simp [pr_b, pr_i_0, pr_i_1, *]; done) | (simp_all [pr_b, pr_i_0, pr_i_1]; done)) trivial (by rfl)
              · simp only [ab_cmp, pr_i_0, pr_i_1] at h14
                first
                | contradiction
                | exact absurd trivial h14
                | exact absurd h14 (by decide)
                | exact absurd (Classical.not_not.mp h14) (by decide)
                | skip
                  refine pr_seq (pc' := 31) 9 rfl ⟨⟨⟨⟨⟨⟨⟨⟨⟨trivial, trivial⟩, (by first | assumption | (simp only [z1, r0, r1, e3, x1, e5, e6, u1, u2, u3, pr_i_0, pr_i_1]; first | assumption | decide | exact ⟨by assumption, by assumption⟩ | exact ⟨Or.inl (by assumption), by assumption⟩ | omega) | decide | exact ⟨Or.inl (by assumption), by assumption⟩ | exact ⟨by assumption, by assumption⟩ | omega)⟩, (by first | assumption | (simp only [z1, r0, r1, e3, x1, e5, e6, u1, u2, u3, pr_i_0, pr_i_1]; first | assumption | decide | exact ⟨by assumption, by assumption⟩ | exact ⟨Or.inl (by assumption), by assumption⟩ | omega) | decide | exact ⟨Or.inl (by assumption), by assumption⟩ | exact ⟨by assumption, by assumption⟩ | omega)⟩, trivial⟩, (by first | assumption | (simp only [z1, r0, r1, e3, x1, e5, e6, u1, u2, u3, pr_i_0, pr_i_1]; first | assumption | decide | exact ⟨by assumption, by assumption⟩ | exact ⟨Or.inl (by assumption), by assumption⟩ | omega) | decide | exact ⟨Or.inl (by assumption), by assumption⟩ | exact ⟨by assumption, by assumption⟩ | omega)⟩, trivial⟩, trivial⟩, (by first | assumption | (simp only [z1, r0, r1, e3, x1, e5, e6, u1, u2, u3, pr_i_0, pr_i_1]; first | assumption | decide | exact ⟨by assumption, by assumption⟩ | exact ⟨Or.inl (by assumption), by assumption⟩ | omega) | decide | exact ⟨Or.inl (by assumption), by assumption⟩ | exact ⟨by assumption, by assumption⟩ | omega)⟩, trivial⟩ ?_
                  try simp only [z1, r0, r1, e3, x1, e5, e6, u1, u2, u3, pr_i_0, pr_i_1]
                  refine pr_cv [_] rfl rfl rfl rfl rfl (Nat.le_of_ble_eq_true rfl) (by first | assumption | (simp only [z1, r0, r1, e3, x1, e5, e6, u1, u2, u3, pr_i_0, pr_i_1]; first | assumption | decide | exact ⟨by assumption, by assumption⟩ | exact ⟨Or.inl (by assumption), by assumption⟩ | omega) | decide | exact ⟨Or.inl (by assumption), by assumption⟩ | exact ⟨by assumption, by assumption⟩ | omega) (Nat.le_of_ble_eq_true rfl) (hre) ?_
                  refine pr_if rfl (fun h34 => ?_) (fun h34 => ?_)
                  · simp only [ab_cmp, pr_i_0, pr_i_1] at h34
                    first
                    | contradiction
                    | exact absurd trivial h34
                    | exact absurd h34 (by decide)
                    | exact absurd (Classical.not_not.mp h34) (by decide)
                    | skip
                      refine pr_seq (pc' := 8) 2 rfl ⟨⟨trivial, trivial⟩, trivial⟩ ?_
                      try simp only [z1, r0, r1, e3, x1, e5, e6, u1, u2, u3, pr_i_0, pr_i_1]
                      exact hh _ _ (Or.inr ⟨_, rfl⟩)
                  · simp only [ab_cmp, pr_i_0, pr_i_1] at h34
                    first
                    | contradiction
                    | exact absurd trivial h34
                    | exact absurd h34 (by decide)
                    | exact absurd (Classical.not_not.mp h34) (by decide)
                    | skip
                      refine pr_seq (pc' := 58) 13 rfl ⟨⟨⟨⟨⟨⟨⟨⟨⟨⟨⟨⟨⟨trivial, (by first | assumption | (simp only [z1, r0, r1, e3, x1, e5, e6, u1, u2, u3, pr_i_0, pr_i_1]; first | assumption | decide | exact ⟨by assumption, by assumption⟩ | exact ⟨Or.inl (by assumption), by assumption⟩ | omega) | decide | exact ⟨Or.inl (by assumption), by assumption⟩ | exact ⟨by assumption, by assumption⟩ | omega)⟩, (by first | assumption | (simp only [z1, r0, r1, e3, x1, e5, e6, u1, u2, u3, pr_i_0, pr_i_1]; first | assumption | decide | exact ⟨by assumption, by assumption⟩ | exact ⟨Or.inl (by assumption), by assumption⟩ | omega) | decide | exact ⟨Or.inl (by assumption), by assumption⟩ | exact ⟨by assumption, by assumption⟩ | omega)⟩, trivial⟩, (by first | assumption | (simp only [z1, r0, r1, e3, x1, e5, e6, u1, u2, u3, pr_i_0, pr_i_1]; first | assumption | decide | exact ⟨by assumption, by assumption⟩ | exact ⟨Or.inl (by assumption), by assumption⟩ | omega) | decide | exact ⟨Or.inl (by assumption), by assumption⟩ | exact ⟨by assumption, by assumption⟩ | omega)⟩, trivial⟩, trivial⟩, trivial⟩, trivial⟩, trivial⟩, trivial⟩, trivial⟩, trivial⟩, trivial⟩ ?_
                      try simp only [z1, r0, r1, e3, x1, e5, e6, u1, u2, u3, pr_i_0, pr_i_1]
                      refine pr_if rfl (fun h58 => ?_) (fun h58 => ?_)
                      · simp only [ab_cmp, pr_i_0, pr_i_1] at h58
                        first
                        | contradiction
                        | exact absurd trivial h58
                        | exact absurd h58 (by decide)
                        | exact absurd (Classical.not_not.mp h58) (by decide)
                        | skip
                          fail
                      · simp only [ab_cmp, pr_i_0, pr_i_1] at h58
                        first
                        | contradiction
                        | exact absurd trivial h58
                        | exact absurd h58 (by decide)
                        | exact absurd (Classical.not_not.mp h58) (by decide)
                        | skip
                          refine pr_seq (pc' := 8) 5 rfl ⟨⟨⟨⟨⟨trivial, trivial⟩, trivial⟩, trivial⟩, trivial⟩, trivial⟩ ?_
                          try simp only [z1, r0, r1, e3, x1, e5, e6, u1, u2, u3, pr_i_0, pr_i_1]
                          exact hh _ _ (Or.inr ⟨_, rfl⟩)
          | some w =>
            have hw : w ≤ 2 ^ 46 + 2 ^ 45 + (r - 1) * u := dGo_lt hb r w hd
            have hw2 : (r - 1) * u ≤ 3 * 2 ^ 41 := Nat.mul_le_mul (by omega) hu
            rw [hd] at hh
            have u3 : ¬ lg_cmp (jN w) (jN 18446744073709551615) = 0 := cmp_ne (jN_ne (by omega))
            have hmin : (if jN (y + r * u) < jN w then jN (y + r * u) else jN w) = jN (if y + r * u < w then y + r * u else w) := by
              by_cases q2 : y + r * u < w
              · rw [if_pos ((jN_lt (by omega) (by omega)).mpr q2), if_pos q2]
              · rw [if_neg (fun z => q2 ((jN_lt (by omega) (by omega)).mp z)), if_neg q2]
            have hh : ∀ o7 o8, (o8 = none ∨ ∃ z, o8 = some (.long z)) → pr_E pX5_leastEntry 8 [some (.ref 55), some (.int (nI s)), some (.long (jN u)), none, some (.long (jN (if y + r * u < w then y + r * u else w))), none, some (.int (nI r + 1)), o7, o8, none] [] h M (some (.long (eL (dGo E g u s c)))) h M := hh
            show pr_E pX5_leastEntry 8 [some (.ref 55), some (.int (nI s)), some (.long (jN u)), none, some (.long (jN w)), none, some (.int (nI r)), o7, o8, none] [] h M (some (.long (eL (dGo E g u s c)))) h M
            rcases ho8 with rfl | ⟨z8, rfl⟩
            all_goals
              refine pr_seq (pc' := 14) 3 rfl ⟨⟨⟨trivial, trivial⟩, (by first | assumption | (simp only [z1, r0, r1, e3, x1, e5, e6, u1, u2, hmin, pr_i_0, pr_i_1]; first | assumption | decide | exact ⟨by assumption, by assumption⟩ | exact ⟨Or.inl (by assumption), by assumption⟩ | omega) | decide | exact ⟨Or.inl (by assumption), by assumption⟩ | exact ⟨by assumption, by assumption⟩ | omega)⟩, (by first | assumption | (simp only [z1, r0, r1, e3, x1, e5, e6, u1, u2, hmin, pr_i_0, pr_i_1]; first | assumption | decide | exact ⟨by assumption, by assumption⟩ | exact ⟨Or.inl (by assumption), by assumption⟩ | omega) | decide | exact ⟨Or.inl (by assumption), by assumption⟩ | exact ⟨by assumption, by assumption⟩ | omega)⟩ ?_
              try simp only [z1, r0, r1, e3, x1, e5, e6, u1, u2, hmin, pr_i_0, pr_i_1]
              refine pr_ic rfl (fun h14 => ?_) (fun h14 => ?_)
              · simp only [ab_cmp, pr_i_0, pr_i_1] at h14
                first
                | contradiction
                | exact absurd trivial h14
                | exact absurd h14 (by decide)
                | exact absurd (Classical.not_not.mp h14) (by decide)
                | skip
                  refine pr_seq (pc' := 83) 1 rfl ⟨trivial, trivial⟩ ?_
                  try simp only [z1, r0, r1, e3, x1, e5, e6, u1, u2, hmin, pr_i_0, pr_i_1]
                  exact pr_lrM rfl (by first | rfl | (simp only [z1, r0, r1, e3, x1, e5, e6, u1, u2, hmin, pr_i_0, pr_i_1]; done) | (simp [pr_b, pr_i_0, pr_i_1, *]; done) | (simp_all [pr_b, pr_i_0, pr_i_1]; done)) trivial (by rfl)
              · simp only [ab_cmp, pr_i_0, pr_i_1] at h14
                first
                | contradiction
                | exact absurd trivial h14
                | exact absurd h14 (by decide)
                | exact absurd (Classical.not_not.mp h14) (by decide)
                | skip
                  refine pr_seq (pc' := 31) 9 rfl ⟨⟨⟨⟨⟨⟨⟨⟨⟨trivial, trivial⟩, (by first | assumption | (simp only [z1, r0, r1, e3, x1, e5, e6, u1, u2, hmin, pr_i_0, pr_i_1]; first | assumption | decide | exact ⟨by assumption, by assumption⟩ | exact ⟨Or.inl (by assumption), by assumption⟩ | omega) | decide | exact ⟨Or.inl (by assumption), by assumption⟩ | exact ⟨by assumption, by assumption⟩ | omega)⟩, (by first | assumption | (simp only [z1, r0, r1, e3, x1, e5, e6, u1, u2, hmin, pr_i_0, pr_i_1]; first | assumption | decide | exact ⟨by assumption, by assumption⟩ | exact ⟨Or.inl (by assumption), by assumption⟩ | omega) | decide | exact ⟨Or.inl (by assumption), by assumption⟩ | exact ⟨by assumption, by assumption⟩ | omega)⟩, trivial⟩, (by first | assumption | (simp only [z1, r0, r1, e3, x1, e5, e6, u1, u2, hmin, pr_i_0, pr_i_1]; first | assumption | decide | exact ⟨by assumption, by assumption⟩ | exact ⟨Or.inl (by assumption), by assumption⟩ | omega) | decide | exact ⟨Or.inl (by assumption), by assumption⟩ | exact ⟨by assumption, by assumption⟩ | omega)⟩, trivial⟩, trivial⟩, (by first | assumption | (simp only [z1, r0, r1, e3, x1, e5, e6, u1, u2, hmin, pr_i_0, pr_i_1]; first | assumption | decide | exact ⟨by assumption, by assumption⟩ | exact ⟨Or.inl (by assumption), by assumption⟩ | omega) | decide | exact ⟨Or.inl (by assumption), by assumption⟩ | exact ⟨by assumption, by assumption⟩ | omega)⟩, trivial⟩ ?_
                  try simp only [z1, r0, r1, e3, x1, e5, e6, u1, u2, hmin, pr_i_0, pr_i_1]
                  refine pr_cv [_] rfl rfl rfl rfl rfl (Nat.le_of_ble_eq_true rfl) (by first | assumption | (simp only [z1, r0, r1, e3, x1, e5, e6, u1, u2, hmin, pr_i_0, pr_i_1]; first | assumption | decide | exact ⟨by assumption, by assumption⟩ | exact ⟨Or.inl (by assumption), by assumption⟩ | omega) | decide | exact ⟨Or.inl (by assumption), by assumption⟩ | exact ⟨by assumption, by assumption⟩ | omega) (Nat.le_of_ble_eq_true rfl) (hre) ?_
                  refine pr_if rfl (fun h34 => ?_) (fun h34 => ?_)
                  · simp only [ab_cmp, pr_i_0, pr_i_1] at h34
                    first
                    | contradiction
                    | exact absurd trivial h34
                    | exact absurd h34 (by decide)
                    | exact absurd (Classical.not_not.mp h34) (by decide)
                    | skip
                      refine pr_seq (pc' := 8) 2 rfl ⟨⟨trivial, trivial⟩, trivial⟩ ?_
                      try simp only [z1, r0, r1, e3, x1, e5, e6, u1, u2, hmin, pr_i_0, pr_i_1]
                      exact hh _ _ (Or.inr ⟨_, rfl⟩)
                  · simp only [ab_cmp, pr_i_0, pr_i_1] at h34
                    first
                    | contradiction
                    | exact absurd trivial h34
                    | exact absurd h34 (by decide)
                    | exact absurd (Classical.not_not.mp h34) (by decide)
                    | skip
                      refine pr_seq (pc' := 58) 13 rfl ⟨⟨⟨⟨⟨⟨⟨⟨⟨⟨⟨⟨⟨trivial, (by first | assumption | (simp only [z1, r0, r1, e3, x1, e5, e6, u1, u2, hmin, pr_i_0, pr_i_1]; first | assumption | decide | exact ⟨by assumption, by assumption⟩ | exact ⟨Or.inl (by assumption), by assumption⟩ | omega) | decide | exact ⟨Or.inl (by assumption), by assumption⟩ | exact ⟨by assumption, by assumption⟩ | omega)⟩, (by first | assumption | (simp only [z1, r0, r1, e3, x1, e5, e6, u1, u2, hmin, pr_i_0, pr_i_1]; first | assumption | decide | exact ⟨by assumption, by assumption⟩ | exact ⟨Or.inl (by assumption), by assumption⟩ | omega) | decide | exact ⟨Or.inl (by assumption), by assumption⟩ | exact ⟨by assumption, by assumption⟩ | omega)⟩, trivial⟩, (by first | assumption | (simp only [z1, r0, r1, e3, x1, e5, e6, u1, u2, hmin, pr_i_0, pr_i_1]; first | assumption | decide | exact ⟨by assumption, by assumption⟩ | exact ⟨Or.inl (by assumption), by assumption⟩ | omega) | decide | exact ⟨Or.inl (by assumption), by assumption⟩ | exact ⟨by assumption, by assumption⟩ | omega)⟩, trivial⟩, trivial⟩, trivial⟩, trivial⟩, trivial⟩, trivial⟩, trivial⟩, trivial⟩, trivial⟩ ?_
                      try simp only [z1, r0, r1, e3, x1, e5, e6, u1, u2, hmin, pr_i_0, pr_i_1]
                      refine pr_if rfl (fun h58 => ?_) (fun h58 => ?_)
                      · simp only [ab_cmp, pr_i_0, pr_i_1] at h58
                        first
                        | contradiction
                        | exact absurd trivial h58
                        | exact absurd h58 (by decide)
                        | exact absurd (Classical.not_not.mp h58) (by decide)
                        | skip
                          refine pr_seq (pc' := 8) 6 rfl ⟨⟨⟨⟨⟨⟨trivial, trivial⟩, trivial⟩, (by exact (Nat.le_of_ble_eq_true rfl))⟩, trivial⟩, trivial⟩, trivial⟩ ?_
                          try simp only [z1, r0, r1, e3, x1, e5, e6, u1, u2, hmin, pr_i_0, pr_i_1]
                          exact hh _ _ (Or.inr ⟨_, rfl⟩)
                      · simp only [ab_cmp, pr_i_0, pr_i_1] at h58
                        first
                        | contradiction
                        | exact absurd trivial h58
                        | exact absurd h58 (by decide)
                        | exact absurd (Classical.not_not.mp h58) (by decide)
                        | skip
                          fail
      · have e5 : rch E (nI s - nI (g r)) = false := by
          have : nI s - nI (g r) < 0 := by
            rw [Int32.lt_iff_toInt_lt, Int32.toInt_sub, nI_toInt (by omega), nI_toInt (by omega), Int.bmod_eq_of_le (by omega) (by omega)]
            show (s : Int) - (g r : Int) < 0
            omega
          unfold rch
          rw [decide_eq_true this]; rfl
        rw [e5] at hre
        rw [edef, if_neg q, show oMin (dGo E g u s r) none = dGo E g u s r by cases dGo E g u s r <;> rfl] at hh
        refine pr_seq (pc' := 14) 3 rfl ⟨⟨⟨trivial, trivial⟩, (by first | assumption | (simp only [z1, r1, e3, x1, pr_i_0, pr_i_1]; first | assumption | decide | exact ⟨by assumption, by assumption⟩ | exact ⟨Or.inl (by assumption), by assumption⟩ | omega) | decide | exact ⟨Or.inl (by assumption), by assumption⟩ | exact ⟨by assumption, by assumption⟩ | omega)⟩, (by first | assumption | (simp only [z1, r1, e3, x1, pr_i_0, pr_i_1]; first | assumption | decide | exact ⟨by assumption, by assumption⟩ | exact ⟨Or.inl (by assumption), by assumption⟩ | omega) | decide | exact ⟨Or.inl (by assumption), by assumption⟩ | exact ⟨by assumption, by assumption⟩ | omega)⟩ ?_
        try simp only [z1, r1, e3, x1, pr_i_0, pr_i_1]
        refine pr_ic rfl (fun h14 => ?_) (fun h14 => ?_)
        · simp only [ab_cmp, pr_i_0, pr_i_1] at h14
          first
          | contradiction
          | exact absurd trivial h14
          | exact absurd h14 (by decide)
          | exact absurd (Classical.not_not.mp h14) (by decide)
          | skip
            refine pr_seq (pc' := 83) 1 rfl ⟨trivial, trivial⟩ ?_
            try simp only [z1, r1, e3, x1, pr_i_0, pr_i_1]
            exact pr_lrM rfl (by first | rfl | (simp only [z1, r1, e3, x1, pr_i_0, pr_i_1]; done) | (simp [pr_b, pr_i_0, pr_i_1, *]; done) | (simp_all [pr_b, pr_i_0, pr_i_1]; done)) trivial (by rfl)
        · simp only [ab_cmp, pr_i_0, pr_i_1] at h14
          first
          | contradiction
          | exact absurd trivial h14
          | exact absurd h14 (by decide)
          | exact absurd (Classical.not_not.mp h14) (by decide)
          | skip
            refine pr_seq (pc' := 31) 9 rfl ⟨⟨⟨⟨⟨⟨⟨⟨⟨trivial, trivial⟩, (by first | assumption | (simp only [z1, r1, e3, x1, pr_i_0, pr_i_1]; first | assumption | decide | exact ⟨by assumption, by assumption⟩ | exact ⟨Or.inl (by assumption), by assumption⟩ | omega) | decide | exact ⟨Or.inl (by assumption), by assumption⟩ | exact ⟨by assumption, by assumption⟩ | omega)⟩, (by first | assumption | (simp only [z1, r1, e3, x1, pr_i_0, pr_i_1]; first | assumption | decide | exact ⟨by assumption, by assumption⟩ | exact ⟨Or.inl (by assumption), by assumption⟩ | omega) | decide | exact ⟨Or.inl (by assumption), by assumption⟩ | exact ⟨by assumption, by assumption⟩ | omega)⟩, trivial⟩, (by first | assumption | (simp only [z1, r1, e3, x1, pr_i_0, pr_i_1]; first | assumption | decide | exact ⟨by assumption, by assumption⟩ | exact ⟨Or.inl (by assumption), by assumption⟩ | omega) | decide | exact ⟨Or.inl (by assumption), by assumption⟩ | exact ⟨by assumption, by assumption⟩ | omega)⟩, trivial⟩, trivial⟩, (by first | assumption | (simp only [z1, r1, e3, x1, pr_i_0, pr_i_1]; first | assumption | decide | exact ⟨by assumption, by assumption⟩ | exact ⟨Or.inl (by assumption), by assumption⟩ | omega) | decide | exact ⟨Or.inl (by assumption), by assumption⟩ | exact ⟨by assumption, by assumption⟩ | omega)⟩, trivial⟩ ?_
            try simp only [z1, r1, e3, x1, pr_i_0, pr_i_1]
            refine pr_cv [_] rfl rfl rfl rfl rfl (Nat.le_of_ble_eq_true rfl) (by first | assumption | (simp only [z1, r1, e3, x1, pr_i_0, pr_i_1]; first | assumption | decide | exact ⟨by assumption, by assumption⟩ | exact ⟨Or.inl (by assumption), by assumption⟩ | omega) | decide | exact ⟨Or.inl (by assumption), by assumption⟩ | exact ⟨by assumption, by assumption⟩ | omega) (Nat.le_of_ble_eq_true rfl) (hre) ?_
            refine pr_if rfl (fun h34 => ?_) (fun h34 => ?_)
            · simp only [ab_cmp, pr_i_0, pr_i_1] at h34
              first
              | contradiction
              | exact absurd trivial h34
              | exact absurd h34 (by decide)
              | exact absurd (Classical.not_not.mp h34) (by decide)
              | skip
                refine pr_seq (pc' := 8) 2 rfl ⟨⟨trivial, trivial⟩, trivial⟩ ?_
                try simp only [z1, r1, e3, x1, pr_i_0, pr_i_1]
                exact hh _ _ ho8
            · simp only [ab_cmp, pr_i_0, pr_i_1] at h34
              first
              | contradiction
              | exact absurd trivial h34
              | exact absurd h34 (by decide)
              | exact absurd (Classical.not_not.mp h34) (by decide)
              | skip
                fail
  refine pr_seq (pc' := 8) 4 rfl ⟨⟨⟨⟨trivial, trivial⟩, trivial⟩, trivial⟩, trivial⟩ ?_
  exact loop c 0 (by omega) _ _ (Or.inl rfl)
