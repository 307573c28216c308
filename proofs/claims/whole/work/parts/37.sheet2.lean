/-! ===== Sheet, on; Tape.append ===== -/
theorem c_cellAt {s n : Nat} {th : Bool} (x : Int32) (h : ab_H) (M : ab_M) (hs : pr_Sh h M.2.2 s) (ht : M.1 s 1 = pr_b th) (hn : th = true → M.1 s 3 = nI n) (hn4 : n ≤ 40) : pr_C pX7_cellAt [.ref s, .int x] h M (some (.int (if sh_f th n x = 0 then M.1 (s + 1) x.toNatClampNeg else 0))) h M := by
  obtain ⟨s0, s1, r0, k1, k2⟩ := id hs
  have hf := c_faultAt x h M s0 s1 ht hn
  by_cases c : sh_f th n x = 0
  · rw [if_pos c]
    rw [c] at hf
    have v1 : vp_in x 40 := by
      unfold sh_f at c
      split at c
      · split at c
        · exact absurd c (by decide)
        · split at c
          · exact absurd c (by decide)
          · exact (pr_vin (by assumption) (by assumption) hn4 (by decide)).1
      · exact absurd c (by decide)
    rw [← k2] at v1
    refine pr_seq (pc' := 2) 2 rfl ⟨⟨trivial, (by first | assumption | decide | omega | exact ⟨Or.inl (by assumption), by assumption⟩ | exact ⟨by assumption, by assumption⟩ | (simp only [r0, pr_i_0]; first | assumption | omega | exact ⟨by assumption, by assumption⟩ | exact ⟨Or.inl (by assumption), by assumption⟩))⟩, trivial⟩ ?_
    try simp only [r0, pr_i_0]
    refine pr_cv [_] rfl rfl rfl rfl rfl (Nat.le_of_ble_eq_true rfl) (by first | assumption | decide | omega | exact ⟨Or.inl (by assumption), by assumption⟩ | exact ⟨by assumption, by assumption⟩ | (simp only [r0, pr_i_0]; first | assumption | omega | exact ⟨by assumption, by assumption⟩ | exact ⟨Or.inl (by assumption), by assumption⟩)) (Nat.le_of_ble_eq_true rfl) (hf) ?_
    refine pr_if rfl (fun h5 => ?_) (fun h5 => ?_)
    · simp only [ab_cmp, pr_i_0] at h5
      first
      | contradiction
      | exact absurd trivial h5
      | exact absurd h5 (by decide)
      | exact absurd (Classical.not_not.mp h5) (by decide)
      | skip
        refine pr_seq (pc' := 18) 1 rfl ⟨trivial, trivial⟩ ?_
        try simp only [r0, pr_i_0]
        exact pr_irM rfl (by rfl) trivial (by rfl)
    · simp only [ab_cmp, pr_i_0] at h5
      first
      | contradiction
      | exact absurd trivial h5
      | exact absurd h5 (by decide)
      | exact absurd (Classical.not_not.mp h5) (by decide)
      | skip
        refine pr_seq (pc' := 18) 5 rfl ⟨⟨⟨⟨⟨trivial, (by first | assumption | decide | omega | exact ⟨Or.inl (by assumption), by assumption⟩ | exact ⟨by assumption, by assumption⟩ | (simp only [r0, pr_i_0]; first | assumption | omega | exact ⟨by assumption, by assumption⟩ | exact ⟨Or.inl (by assumption), by assumption⟩))⟩, (by first | assumption | decide | omega | exact ⟨Or.inl (by assumption), by assumption⟩ | exact ⟨by assumption, by assumption⟩ | (simp only [r0, pr_i_0]; first | assumption | omega | exact ⟨by assumption, by assumption⟩ | exact ⟨Or.inl (by assumption), by assumption⟩))⟩, trivial⟩, (by first | assumption | decide | omega | exact ⟨Or.inl (by assumption), by assumption⟩ | exact ⟨by assumption, by assumption⟩ | (simp only [r0, pr_i_0]; first | assumption | omega | exact ⟨by assumption, by assumption⟩ | exact ⟨Or.inl (by assumption), by assumption⟩))⟩, trivial⟩ ?_
        try simp only [r0, pr_i_0]
        exact pr_irM rfl (by rfl) trivial (by rfl)
  · rw [if_neg c]
    refine pr_seq (pc' := 2) 2 rfl ⟨⟨trivial, (by first | assumption | decide | omega | exact ⟨Or.inl (by assumption), by assumption⟩ | exact ⟨by assumption, by assumption⟩ | (simp only [r0, pr_i_0]; first | assumption | omega | exact ⟨by assumption, by assumption⟩ | exact ⟨Or.inl (by assumption), by assumption⟩))⟩, trivial⟩ ?_
    try simp only [r0, pr_i_0]
    refine pr_cv [_] rfl rfl rfl rfl rfl (Nat.le_of_ble_eq_true rfl) (by first | assumption | decide | omega | exact ⟨Or.inl (by assumption), by assumption⟩ | exact ⟨by assumption, by assumption⟩ | (simp only [r0, pr_i_0]; first | assumption | omega | exact ⟨by assumption, by assumption⟩ | exact ⟨Or.inl (by assumption), by assumption⟩)) (Nat.le_of_ble_eq_true rfl) (hf) ?_
    refine pr_if rfl (fun h5 => ?_) (fun h5 => ?_)
    · simp only [ab_cmp, pr_i_0] at h5
      first
      | contradiction
      | exact absurd trivial h5
      | exact absurd h5 (by decide)
      | exact absurd (Classical.not_not.mp h5) (by decide)
      | skip
        refine pr_seq (pc' := 18) 1 rfl ⟨trivial, trivial⟩ ?_
        try simp only [r0, pr_i_0]
        exact pr_irM rfl (by rfl) trivial (by rfl)
    · simp only [ab_cmp, pr_i_0] at h5
      first
      | contradiction
      | exact absurd trivial h5
      | exact absurd h5 (by decide)
      | exact absurd (Classical.not_not.mp h5) (by decide)
      | skip
        refine pr_seq (pc' := 18) 5 rfl ⟨⟨⟨⟨⟨trivial, (by first | assumption | decide | omega | exact ⟨Or.inl (by assumption), by assumption⟩ | exact ⟨by assumption, by assumption⟩ | (simp only [r0, pr_i_0]; first | assumption | omega | exact ⟨by assumption, by assumption⟩ | exact ⟨Or.inl (by assumption), by assumption⟩))⟩, (by first | assumption | decide | omega | exact ⟨Or.inl (by assumption), by assumption⟩ | exact ⟨by assumption, by assumption⟩ | (simp only [r0, pr_i_0]; first | assumption | omega | exact ⟨by assumption, by assumption⟩ | exact ⟨Or.inl (by assumption), by assumption⟩))⟩, trivial⟩, (by first | assumption | decide | omega | exact ⟨Or.inl (by assumption), by assumption⟩ | exact ⟨by assumption, by assumption⟩ | (simp only [r0, pr_i_0]; first | assumption | omega | exact ⟨by assumption, by assumption⟩ | exact ⟨Or.inl (by assumption), by assumption⟩))⟩, trivial⟩ ?_
        try simp only [r0, pr_i_0]
        exact pr_irM rfl (by rfl) trivial (by rfl)
theorem c_firstOfPair {s n : Nat} {th : Bool} (f i : Int32) (h : ab_H) (M : ab_M) (hs : pr_Sh h M.2.2 s) (ht : M.1 s 1 = pr_b th) (hn : th = true → M.1 s 3 = nI n) (hn4 : n ≤ 40) : pr_C pX7_firstOfPair [.ref s, .int f, .int i] h M (some (.int (if sh_f th n (f + 2 * i) = 0 then M.1 (s + 1) (f + 2 * i).toNatClampNeg else 0))) h M := by
  obtain ⟨s0, s1, -⟩ := id hs
  refine pr_seq (pc' := 6) 6 rfl ⟨⟨⟨⟨⟨⟨trivial, (by first | assumption | decide | omega | exact ⟨Or.inl (by assumption), by assumption⟩ | exact ⟨by assumption, by assumption⟩)⟩, trivial⟩, trivial⟩, trivial⟩, trivial⟩, trivial⟩ ?_
  refine pr_cv [_] rfl rfl rfl rfl rfl (Nat.le_of_ble_eq_true rfl) (by first | assumption | decide | omega | exact ⟨Or.inl (by assumption), by assumption⟩ | exact ⟨by assumption, by assumption⟩) (Nat.le_of_ble_eq_true rfl) (c_cellAt _ h M hs ht hn hn4) ?_
  exact pr_irM rfl (by rfl) trivial (by rfl)
theorem c_secondOfPair {s n : Nat} {th : Bool} (f i : Int32) (h : ab_H) (M : ab_M) (hs : pr_Sh h M.2.2 s) (ht : M.1 s 1 = pr_b th) (hn : th = true → M.1 s 3 = nI n) (hn4 : n ≤ 40) : pr_C pX7_secondOfPair [.ref s, .int f, .int i] h M (some (.int (if sh_f th n (f + 2 * i + 1) = 0 then M.1 (s + 1) (f + 2 * i + 1).toNatClampNeg else 0))) h M := by
  obtain ⟨s0, s1, -⟩ := id hs
  refine pr_seq (pc' := 8) 8 rfl ⟨⟨⟨⟨⟨⟨⟨⟨trivial, (by first | assumption | decide | omega | exact ⟨Or.inl (by assumption), by assumption⟩ | exact ⟨by assumption, by assumption⟩)⟩, trivial⟩, trivial⟩, trivial⟩, trivial⟩, trivial⟩, trivial⟩, trivial⟩ ?_
  refine pr_cv [_] rfl rfl rfl rfl rfl (Nat.le_of_ble_eq_true rfl) (by first | assumption | decide | omega | exact ⟨Or.inl (by assumption), by assumption⟩ | exact ⟨by assumption, by assumption⟩) (Nat.le_of_ble_eq_true rfl) (c_cellAt _ h M hs ht hn hn4) ?_
  exact pr_irM rfl (by rfl) trivial (by rfl)
/-- the fault of a pair -/
def sh_fp (th : Bool) (n : Nat) (ln as f i : Int32) : Int32 := if th = true ∧ ¬ ln = as then 3 else if sh_f th n (f + 2 * i) = 0 then sh_f th n (f + 2 * i + 1) else sh_f th n (f + 2 * i)
theorem c_faultOfPair {s n : Nat} {th : Bool} (as f i : Int32) (h : ab_H) (M : ab_M) (hs : pr_Sh h M.2.2 s) (ht : M.1 s 1 = pr_b th) (hn : th = true → M.1 s 3 = nI n) : pr_C pX7_faultOfPair [.ref s, .int as, .int f, .int i] h M (some (.int (sh_fp th n (M.1 s 2) as f i))) h M := by
  obtain ⟨s0, s1, -⟩ := id hs
  have h1 := c_faultAt (f + 2 * i) h M s0 s1 ht hn
  have h2 := c_faultAt (f + 2 * i + 1) h M s0 s1 ht hn
  unfold sh_fp
  cases th with
  | false =>
    have y1 : M.1 s 1 = 0 := ht
    rw [if_neg (by simp)]
    have c : ¬ sh_f false n (f + 2 * i) = 0 := by unfold sh_f; rw [if_neg (by decide)]; decide
    rw [if_neg c]
    refine pr_seq (pc' := 4) 2 rfl ⟨⟨trivial, (by first | assumption | decide | omega | exact ⟨Or.inl (by assumption), by assumption⟩ | exact ⟨by assumption, by assumption⟩ | (simp only [y1, pr_i_1, pr_i_2, pr_i_3]; first | assumption | omega | exact ⟨by assumption, by assumption⟩ | exact ⟨Or.inl (by assumption), by assumption⟩))⟩, (by first | assumption | decide | omega | exact ⟨Or.inl (by assumption), by assumption⟩ | exact ⟨by assumption, by assumption⟩ | (simp only [y1, pr_i_1, pr_i_2, pr_i_3]; first | assumption | omega | exact ⟨by assumption, by assumption⟩ | exact ⟨Or.inl (by assumption), by assumption⟩))⟩ ?_
    try simp only [y1, pr_i_1, pr_i_2, pr_i_3]
    refine pr_if rfl (fun h4 => ?_) (fun h4 => ?_)
    · simp only [ab_cmp, pr_i_1, pr_i_2, pr_i_3] at h4
      first
      | contradiction
      | exact absurd trivial h4
      | exact absurd h4 (by decide)
      | exact absurd (Classical.not_not.mp h4) (by decide)
      | skip
        refine pr_seq (pc' := 23) 6 rfl ⟨⟨⟨⟨⟨⟨trivial, (by first | assumption | decide | omega | exact ⟨Or.inl (by assumption), by assumption⟩ | exact ⟨by assumption, by assumption⟩ | (simp only [y1, pr_i_1, pr_i_2, pr_i_3]; first | assumption | omega | exact ⟨by assumption, by assumption⟩ | exact ⟨Or.inl (by assumption), by assumption⟩))⟩, trivial⟩, trivial⟩, trivial⟩, trivial⟩, trivial⟩ ?_
        try simp only [y1, pr_i_1, pr_i_2, pr_i_3]
        refine pr_cv [_] rfl rfl rfl rfl rfl (Nat.le_of_ble_eq_true rfl) (by first | assumption | decide | omega | exact ⟨Or.inl (by assumption), by assumption⟩ | exact ⟨by assumption, by assumption⟩ | (simp only [y1, pr_i_1, pr_i_2, pr_i_3]; first | assumption | omega | exact ⟨by assumption, by assumption⟩ | exact ⟨Or.inl (by assumption), by assumption⟩)) (Nat.le_of_ble_eq_true rfl) (h1) ?_
        refine pr_seq (pc' := 30) 2 rfl ⟨⟨trivial, trivial⟩, trivial⟩ ?_
        try simp only [y1, pr_i_1, pr_i_2, pr_i_3]
        refine pr_if rfl (fun h30 => ?_) (fun h30 => ?_)
        · simp only [ab_cmp, pr_i_1, pr_i_2, pr_i_3] at h30
          first
          | contradiction
          | exact absurd trivial h30
          | exact absurd h30 (by decide)
          | exact absurd (Classical.not_not.mp h30) (by decide)
          | skip
            refine pr_seq (pc' := 46) 8 rfl ⟨⟨⟨⟨⟨⟨⟨⟨trivial, (by first | assumption | decide | omega | exact ⟨Or.inl (by assumption), by assumption⟩ | exact ⟨by assumption, by assumption⟩ | (simp only [y1, pr_i_1, pr_i_2, pr_i_3]; first | assumption | omega | exact ⟨by assumption, by assumption⟩ | exact ⟨Or.inl (by assumption), by assumption⟩))⟩, trivial⟩, trivial⟩, trivial⟩, trivial⟩, trivial⟩, trivial⟩, trivial⟩ ?_
            try simp only [y1, pr_i_1, pr_i_2, pr_i_3]
            fail "no call@46 yX7_faultAt"
        · simp only [ab_cmp, pr_i_1, pr_i_2, pr_i_3] at h30
          first
          | contradiction
          | exact absurd trivial h30
          | exact absurd h30 (by decide)
          | exact absurd (Classical.not_not.mp h30) (by decide)
          | skip
            refine pr_seq (pc' := 49) 2 rfl ⟨⟨trivial, trivial⟩, trivial⟩ ?_
            try simp only [y1, pr_i_1, pr_i_2, pr_i_3]
            exact pr_irM rfl (by rfl) trivial (by rfl)
    · simp only [ab_cmp, pr_i_1, pr_i_2, pr_i_3] at h4
      first
      | contradiction
      | exact absurd trivial h4
      | exact absurd h4 (by decide)
      | exact absurd (Classical.not_not.mp h4) (by decide)
      | skip
        refine pr_seq (pc' := 12) 3 rfl ⟨⟨⟨trivial, (by first | assumption | decide | omega | exact ⟨Or.inl (by assumption), by assumption⟩ | exact ⟨by assumption, by assumption⟩ | (simp only [y1, pr_i_1, pr_i_2, pr_i_3]; first | assumption | omega | exact ⟨by assumption, by assumption⟩ | exact ⟨Or.inl (by assumption), by assumption⟩))⟩, (by first | assumption | decide | omega | exact ⟨Or.inl (by assumption), by assumption⟩ | exact ⟨by assumption, by assumption⟩ | (simp only [y1, pr_i_1, pr_i_2, pr_i_3]; first | assumption | omega | exact ⟨by assumption, by assumption⟩ | exact ⟨Or.inl (by assumption), by assumption⟩))⟩, trivial⟩ ?_
        try simp only [y1, pr_i_1, pr_i_2, pr_i_3]
        refine pr_ic rfl (fun h12 => ?_) (fun h12 => ?_)
        · simp only [ab_cmp, pr_i_1, pr_i_2, pr_i_3] at h12
          first
          | contradiction
          | exact absurd trivial h12
          | exact absurd h12 (by decide)
          | exact absurd (Classical.not_not.mp h12) (by decide)
          | skip
            refine pr_seq (pc' := 23) 6 rfl ⟨⟨⟨⟨⟨⟨trivial, (by first | assumption | decide | omega | exact ⟨Or.inl (by assumption), by assumption⟩ | exact ⟨by assumption, by assumption⟩ | (simp only [y1, pr_i_1, pr_i_2, pr_i_3]; first | assumption | omega | exact ⟨by assumption, by assumption⟩ | exact ⟨Or.inl (by assumption), by assumption⟩))⟩, trivial⟩, trivial⟩, trivial⟩, trivial⟩, trivial⟩ ?_
            try simp only [y1, pr_i_1, pr_i_2, pr_i_3]
            refine pr_cv [_] rfl rfl rfl rfl rfl (Nat.le_of_ble_eq_true rfl) (by first | assumption | decide | omega | exact ⟨Or.inl (by assumption), by assumption⟩ | exact ⟨by assumption, by assumption⟩ | (simp only [y1, pr_i_1, pr_i_2, pr_i_3]; first | assumption | omega | exact ⟨by assumption, by assumption⟩ | exact ⟨Or.inl (by assumption), by assumption⟩)) (Nat.le_of_ble_eq_true rfl) (h1) ?_
            refine pr_seq (pc' := 30) 2 rfl ⟨⟨trivial, trivial⟩, trivial⟩ ?_
            try simp only [y1, pr_i_1, pr_i_2, pr_i_3]
            refine pr_if rfl (fun h30 => ?_) (fun h30 => ?_)
            · simp only [ab_cmp, pr_i_1, pr_i_2, pr_i_3] at h30
              first
              | contradiction
              | exact absurd trivial h30
              | exact absurd h30 (by decide)
              | exact absurd (Classical.not_not.mp h30) (by decide)
              | skip
                refine pr_seq (pc' := 46) 8 rfl ⟨⟨⟨⟨⟨⟨⟨⟨trivial, (by first | assumption | decide | omega | exact ⟨Or.inl (by assumption), by assumption⟩ | exact ⟨by assumption, by assumption⟩ | (simp only [y1, pr_i_1, pr_i_2, pr_i_3]; first | assumption | omega | exact ⟨by assumption, by assumption⟩ | exact ⟨Or.inl (by assumption), by assumption⟩))⟩, trivial⟩, trivial⟩, trivial⟩, trivial⟩, trivial⟩, trivial⟩, trivial⟩ ?_
                try simp only [y1, pr_i_1, pr_i_2, pr_i_3]
                fail "no call@46 yX7_faultAt"
            · simp only [ab_cmp, pr_i_1, pr_i_2, pr_i_3] at h30
              first
              | contradiction
              | exact absurd trivial h30
              | exact absurd h30 (by decide)
              | exact absurd (Classical.not_not.mp h30) (by decide)
              | skip
                refine pr_seq (pc' := 49) 2 rfl ⟨⟨trivial, trivial⟩, trivial⟩ ?_
                try simp only [y1, pr_i_1, pr_i_2, pr_i_3]
                exact pr_irM rfl (by rfl) trivial (by rfl)
        · simp only [ab_cmp, pr_i_1, pr_i_2, pr_i_3] at h12
          first
          | contradiction
          | exact absurd trivial h12
          | exact absurd h12 (by decide)
          | exact absurd (Classical.not_not.mp h12) (by decide)
          | skip
            refine pr_seq (pc' := 16) 1 rfl ⟨trivial, trivial⟩ ?_
            try simp only [y1, pr_i_1, pr_i_2, pr_i_3]
            exact pr_irM rfl (by first | rfl | (simp only [y1, pr_i_1, pr_i_2, pr_i_3]; done) | (simp [pr_b, pr_i_1, pr_i_2, pr_i_3, *]; done) | (simp_all [pr_b, pr_i_1, pr_i_2, pr_i_3]; done)) trivial (by rfl)
  | true =>
    have y1 : M.1 s 1 = 1 := ht
    by_cases c0 : M.1 s 2 = as
    · rw [if_neg (by simp [c0])]
      by_cases c : sh_f true n (f + 2 * i) = 0
      · rw [if_pos c]
        refine pr_seq (pc' := 4) 2 rfl ⟨⟨trivial, (by first | assumption | decide | omega | exact ⟨Or.inl (by assumption), by assumption⟩ | exact ⟨by assumption, by assumption⟩ | (simp only [y1, pr_i_1, pr_i_2, pr_i_3]; first | assumption | omega | exact ⟨by assumption, by assumption⟩ | exact ⟨Or.inl (by assumption), by assumption⟩))⟩, (by first | assumption | decide | omega | exact ⟨Or.inl (by assumption), by assumption⟩ | exact ⟨by assumption, by assumption⟩ | (simp only [y1, pr_i_1, pr_i_2, pr_i_3]; first | assumption | omega | exact ⟨by assumption, by assumption⟩ | exact ⟨Or.inl (by assumption), by assumption⟩))⟩ ?_
        try simp only [y1, pr_i_1, pr_i_2, pr_i_3]
        refine pr_if rfl (fun h4 => ?_) (fun h4 => ?_)
        · simp only [ab_cmp, pr_i_1, pr_i_2, pr_i_3] at h4
          first
          | contradiction
          | exact absurd trivial h4
          | exact absurd h4 (by decide)
          | exact absurd (Classical.not_not.mp h4) (by decide)
          | skip
            refine pr_seq (pc' := 23) 6 rfl ⟨⟨⟨⟨⟨⟨trivial, (by first | assumption | decide | omega | exact ⟨Or.inl (by assumption), by assumption⟩ | exact ⟨by assumption, by assumption⟩ | (simp only [y1, pr_i_1, pr_i_2, pr_i_3]; first | assumption | omega | exact ⟨by assumption, by assumption⟩ | exact ⟨Or.inl (by assumption), by assumption⟩))⟩, trivial⟩, trivial⟩, trivial⟩, trivial⟩, trivial⟩ ?_
            try simp only [y1, pr_i_1, pr_i_2, pr_i_3]
            refine pr_cv [_] rfl rfl rfl rfl rfl (Nat.le_of_ble_eq_true rfl) (by first | assumption | decide | omega | exact ⟨Or.inl (by assumption), by assumption⟩ | exact ⟨by assumption, by assumption⟩ | (simp only [y1, pr_i_1, pr_i_2, pr_i_3]; first | assumption | omega | exact ⟨by assumption, by assumption⟩ | exact ⟨Or.inl (by assumption), by assumption⟩)) (Nat.le_of_ble_eq_true rfl) (h1) ?_
            refine pr_seq (pc' := 30) 2 rfl ⟨⟨trivial, trivial⟩, trivial⟩ ?_
            try simp only [y1, pr_i_1, pr_i_2, pr_i_3]
            refine pr_if rfl (fun h30 => ?_) (fun h30 => ?_)
            · simp only [ab_cmp, pr_i_1, pr_i_2, pr_i_3] at h30
              first
              | contradiction
              | exact absurd trivial h30
              | exact absurd h30 (by decide)
              | exact absurd (Classical.not_not.mp h30) (by decide)
              | skip
                refine pr_seq (pc' := 46) 8 rfl ⟨⟨⟨⟨⟨⟨⟨⟨trivial, (by first | assumption | decide | omega | exact ⟨Or.inl (by assumption), by assumption⟩ | exact ⟨by assumption, by assumption⟩ | (simp only [y1, pr_i_1, pr_i_2, pr_i_3]; first | assumption | omega | exact ⟨by assumption, by assumption⟩ | exact ⟨Or.inl (by assumption), by assumption⟩))⟩, trivial⟩, trivial⟩, trivial⟩, trivial⟩, trivial⟩, trivial⟩, trivial⟩ ?_
                try simp only [y1, pr_i_1, pr_i_2, pr_i_3]
                refine pr_cv [_] rfl rfl rfl rfl rfl (Nat.le_of_ble_eq_true rfl) (by first | assumption | decide | omega | exact ⟨Or.inl (by assumption), by assumption⟩ | exact ⟨by assumption, by assumption⟩ | (simp only [y1, pr_i_1, pr_i_2, pr_i_3]; first | assumption | omega | exact ⟨by assumption, by assumption⟩ | exact ⟨Or.inl (by assumption), by assumption⟩)) (Nat.le_of_ble_eq_true rfl) (h2) ?_
                exact pr_irM rfl (by rfl) trivial (by rfl)
            · simp only [ab_cmp, pr_i_1, pr_i_2, pr_i_3] at h30
              first
              | contradiction
              | exact absurd trivial h30
              | exact absurd h30 (by decide)
              | exact absurd (Classical.not_not.mp h30) (by decide)
              | skip
                refine pr_seq (pc' := 49) 2 rfl ⟨⟨trivial, trivial⟩, trivial⟩ ?_
                try simp only [y1, pr_i_1, pr_i_2, pr_i_3]
                exact pr_irM rfl (by rfl) trivial (by rfl)
        · simp only [ab_cmp, pr_i_1, pr_i_2, pr_i_3] at h4
          first
          | contradiction
          | exact absurd trivial h4
          | exact absurd h4 (by decide)
          | exact absurd (Classical.not_not.mp h4) (by decide)
          | skip
            refine pr_seq (pc' := 12) 3 rfl ⟨⟨⟨trivial, (by first | assumption | decide | omega | exact ⟨Or.inl (by assumption), by assumption⟩ | exact ⟨by assumption, by assumption⟩ | (simp only [y1, pr_i_1, pr_i_2, pr_i_3]; first | assumption | omega | exact ⟨by assumption, by assumption⟩ | exact ⟨Or.inl (by assumption), by assumption⟩))⟩, (by first | assumption | decide | omega | exact ⟨Or.inl (by assumption), by assumption⟩ | exact ⟨by assumption, by assumption⟩ | (simp only [y1, pr_i_1, pr_i_2, pr_i_3]; first | assumption | omega | exact ⟨by assumption, by assumption⟩ | exact ⟨Or.inl (by assumption), by assumption⟩))⟩, trivial⟩ ?_
            try simp only [y1, pr_i_1, pr_i_2, pr_i_3]
            refine pr_ic rfl (fun h12 => ?_) (fun h12 => ?_)
            · simp only [ab_cmp, pr_i_1, pr_i_2, pr_i_3] at h12
              first
              | contradiction
              | exact absurd trivial h12
              | exact absurd h12 (by decide)
              | exact absurd (Classical.not_not.mp h12) (by decide)
              | skip
                refine pr_seq (pc' := 23) 6 rfl ⟨⟨⟨⟨⟨⟨trivial, (by first | assumption | decide | omega | exact ⟨Or.inl (by assumption), by assumption⟩ | exact ⟨by assumption, by assumption⟩ | (simp only [y1, pr_i_1, pr_i_2, pr_i_3]; first | assumption | omega | exact ⟨by assumption, by assumption⟩ | exact ⟨Or.inl (by assumption), by assumption⟩))⟩, trivial⟩, trivial⟩, trivial⟩, trivial⟩, trivial⟩ ?_
                try simp only [y1, pr_i_1, pr_i_2, pr_i_3]
                refine pr_cv [_] rfl rfl rfl rfl rfl (Nat.le_of_ble_eq_true rfl) (by first | assumption | decide | omega | exact ⟨Or.inl (by assumption), by assumption⟩ | exact ⟨by assumption, by assumption⟩ | (simp only [y1, pr_i_1, pr_i_2, pr_i_3]; first | assumption | omega | exact ⟨by assumption, by assumption⟩ | exact ⟨Or.inl (by assumption), by assumption⟩)) (Nat.le_of_ble_eq_true rfl) (h1) ?_
                refine pr_seq (pc' := 30) 2 rfl ⟨⟨trivial, trivial⟩, trivial⟩ ?_
                try simp only [y1, pr_i_1, pr_i_2, pr_i_3]
                refine pr_if rfl (fun h30 => ?_) (fun h30 => ?_)
                · simp only [ab_cmp, pr_i_1, pr_i_2, pr_i_3] at h30
                  first
                  | contradiction
                  | exact absurd trivial h30
                  | exact absurd h30 (by decide)
                  | exact absurd (Classical.not_not.mp h30) (by decide)
                  | skip
                    refine pr_seq (pc' := 46) 8 rfl ⟨⟨⟨⟨⟨⟨⟨⟨trivial, (by first | assumption | decide | omega | exact ⟨Or.inl (by assumption), by assumption⟩ | exact ⟨by assumption, by assumption⟩ | (simp only [y1, pr_i_1, pr_i_2, pr_i_3]; first | assumption | omega | exact ⟨by assumption, by assumption⟩ | exact ⟨Or.inl (by assumption), by assumption⟩))⟩, trivial⟩, trivial⟩, trivial⟩, trivial⟩, trivial⟩, trivial⟩, trivial⟩ ?_
                    try simp only [y1, pr_i_1, pr_i_2, pr_i_3]
                    refine pr_cv [_] rfl rfl rfl rfl rfl (Nat.le_of_ble_eq_true rfl) (by first | assumption | decide | omega | exact ⟨Or.inl (by assumption), by assumption⟩ | exact ⟨by assumption, by assumption⟩ | (simp only [y1, pr_i_1, pr_i_2, pr_i_3]; first | assumption | omega | exact ⟨by assumption, by assumption⟩ | exact ⟨Or.inl (by assumption), by assumption⟩)) (Nat.le_of_ble_eq_true rfl) (h2) ?_
                    exact pr_irM rfl (by rfl) trivial (by rfl)
                · simp only [ab_cmp, pr_i_1, pr_i_2, pr_i_3] at h30
                  first
                  | contradiction
                  | exact absurd trivial h30
                  | exact absurd h30 (by decide)
                  | exact absurd (Classical.not_not.mp h30) (by decide)
                  | skip
                    refine pr_seq (pc' := 49) 2 rfl ⟨⟨trivial, trivial⟩, trivial⟩ ?_
                    try simp only [y1, pr_i_1, pr_i_2, pr_i_3]
                    exact pr_irM rfl (by rfl) trivial (by rfl)
            · simp only [ab_cmp, pr_i_1, pr_i_2, pr_i_3] at h12
              first
              | contradiction
              | exact absurd trivial h12
              | exact absurd h12 (by decide)
              | exact absurd (Classical.not_not.mp h12) (by decide)
              | skip
                refine pr_seq (pc' := 16) 1 rfl ⟨trivial, trivial⟩ ?_
                try simp only [y1, pr_i_1, pr_i_2, pr_i_3]
                exact pr_irM rfl (by first | rfl | (simp only [y1, pr_i_1, pr_i_2, pr_i_3]; done) | (simp [pr_b, pr_i_1, pr_i_2, pr_i_3, *]; done) | (simp_all [pr_b, pr_i_1, pr_i_2, pr_i_3]; done)) trivial (by rfl)
      · rw [if_neg c]
        refine pr_seq (pc' := 4) 2 rfl ⟨⟨trivial, (by first | assumption | decide | omega | exact ⟨Or.inl (by assumption), by assumption⟩ | exact ⟨by assumption, by assumption⟩ | (simp only [y1, pr_i_1, pr_i_2, pr_i_3]; first | assumption | omega | exact ⟨by assumption, by assumption⟩ | exact ⟨Or.inl (by assumption), by assumption⟩))⟩, (by first | assumption | decide | omega | exact ⟨Or.inl (by assumption), by assumption⟩ | exact ⟨by assumption, by assumption⟩ | (simp only [y1, pr_i_1, pr_i_2, pr_i_3]; first | assumption | omega | exact ⟨by assumption, by assumption⟩ | exact ⟨Or.inl (by assumption), by assumption⟩))⟩ ?_
        try simp only [y1, pr_i_1, pr_i_2, pr_i_3]
        refine pr_if rfl (fun h4 => ?_) (fun h4 => ?_)
        · simp only [ab_cmp, pr_i_1, pr_i_2, pr_i_3] at h4
          first
          | contradiction
          | exact absurd trivial h4
          | exact absurd h4 (by decide)
          | exact absurd (Classical.not_not.mp h4) (by decide)
          | skip
            refine pr_seq (pc' := 23) 6 rfl ⟨⟨⟨⟨⟨⟨trivial, (by first | assumption | decide | omega | exact ⟨Or.inl (by assumption), by assumption⟩ | exact ⟨by assumption, by assumption⟩ | (simp only [y1, pr_i_1, pr_i_2, pr_i_3]; first | assumption | omega | exact ⟨by assumption, by assumption⟩ | exact ⟨Or.inl (by assumption), by assumption⟩))⟩, trivial⟩, trivial⟩, trivial⟩, trivial⟩, trivial⟩ ?_
            try simp only [y1, pr_i_1, pr_i_2, pr_i_3]
            refine pr_cv [_] rfl rfl rfl rfl rfl (Nat.le_of_ble_eq_true rfl) (by first | assumption | decide | omega | exact ⟨Or.inl (by assumption), by assumption⟩ | exact ⟨by assumption, by assumption⟩ | (simp only [y1, pr_i_1, pr_i_2, pr_i_3]; first | assumption | omega | exact ⟨by assumption, by assumption⟩ | exact ⟨Or.inl (by assumption), by assumption⟩)) (Nat.le_of_ble_eq_true rfl) (h1) ?_
            refine pr_seq (pc' := 30) 2 rfl ⟨⟨trivial, trivial⟩, trivial⟩ ?_
            try simp only [y1, pr_i_1, pr_i_2, pr_i_3]
            refine pr_if rfl (fun h30 => ?_) (fun h30 => ?_)
            · simp only [ab_cmp, pr_i_1, pr_i_2, pr_i_3] at h30
              first
              | contradiction
              | exact absurd trivial h30
              | exact absurd h30 (by decide)
              | exact absurd (Classical.not_not.mp h30) (by decide)
              | skip
                refine pr_seq (pc' := 46) 8 rfl ⟨⟨⟨⟨⟨⟨⟨⟨trivial, (by first | assumption | decide | omega | exact ⟨Or.inl (by assumption), by assumption⟩ | exact ⟨by assumption, by assumption⟩ | (simp only [y1, pr_i_1, pr_i_2, pr_i_3]; first | assumption | omega | exact ⟨by assumption, by assumption⟩ | exact ⟨Or.inl (by assumption), by assumption⟩))⟩, trivial⟩, trivial⟩, trivial⟩, trivial⟩, trivial⟩, trivial⟩, trivial⟩ ?_
                try simp only [y1, pr_i_1, pr_i_2, pr_i_3]
                fail "no call@46 yX7_faultAt"
            · simp only [ab_cmp, pr_i_1, pr_i_2, pr_i_3] at h30
              first
              | contradiction
              | exact absurd trivial h30
              | exact absurd h30 (by decide)
              | exact absurd (Classical.not_not.mp h30) (by decide)
              | skip
                refine pr_seq (pc' := 49) 2 rfl ⟨⟨trivial, trivial⟩, trivial⟩ ?_
                try simp only [y1, pr_i_1, pr_i_2, pr_i_3]
                exact pr_irM rfl (by rfl) trivial (by rfl)
        · simp only [ab_cmp, pr_i_1, pr_i_2, pr_i_3] at h4
          first
          | contradiction
          | exact absurd trivial h4
          | exact absurd h4 (by decide)
          | exact absurd (Classical.not_not.mp h4) (by decide)
          | skip
            refine pr_seq (pc' := 12) 3 rfl ⟨⟨⟨trivial, (by first | assumption | decide | omega | exact ⟨Or.inl (by assumption), by assumption⟩ | exact ⟨by assumption, by assumption⟩ | (simp only [y1, pr_i_1, pr_i_2, pr_i_3]; first | assumption | omega | exact ⟨by assumption, by assumption⟩ | exact ⟨Or.inl (by assumption), by assumption⟩))⟩, (by first | assumption | decide | omega | exact ⟨Or.inl (by assumption), by assumption⟩ | exact ⟨by assumption, by assumption⟩ | (simp only [y1, pr_i_1, pr_i_2, pr_i_3]; first | assumption | omega | exact ⟨by assumption, by assumption⟩ | exact ⟨Or.inl (by assumption), by assumption⟩))⟩, trivial⟩ ?_
            try simp only [y1, pr_i_1, pr_i_2, pr_i_3]
            refine pr_ic rfl (fun h12 => ?_) (fun h12 => ?_)
            · simp only [ab_cmp, pr_i_1, pr_i_2, pr_i_3] at h12
              first
              | contradiction
              | exact absurd trivial h12
              | exact absurd h12 (by decide)
              | exact absurd (Classical.not_not.mp h12) (by decide)
              | skip
                refine pr_seq (pc' := 23) 6 rfl ⟨⟨⟨⟨⟨⟨trivial, (by first | assumption | decide | omega | exact ⟨Or.inl (by assumption), by assumption⟩ | exact ⟨by assumption, by assumption⟩ | (simp only [y1, pr_i_1, pr_i_2, pr_i_3]; first | assumption | omega | exact ⟨by assumption, by assumption⟩ | exact ⟨Or.inl (by assumption), by assumption⟩))⟩, trivial⟩, trivial⟩, trivial⟩, trivial⟩, trivial⟩ ?_
                try simp only [y1, pr_i_1, pr_i_2, pr_i_3]
                refine pr_cv [_] rfl rfl rfl rfl rfl (Nat.le_of_ble_eq_true rfl) (by first | assumption | decide | omega | exact ⟨Or.inl (by assumption), by assumption⟩ | exact ⟨by assumption, by assumption⟩ | (simp only [y1, pr_i_1, pr_i_2, pr_i_3]; first | assumption | omega | exact ⟨by assumption, by assumption⟩ | exact ⟨Or.inl (by assumption), by assumption⟩)) (Nat.le_of_ble_eq_true rfl) (h1) ?_
                refine pr_seq (pc' := 30) 2 rfl ⟨⟨trivial, trivial⟩, trivial⟩ ?_
                try simp only [y1, pr_i_1, pr_i_2, pr_i_3]
                refine pr_if rfl (fun h30 => ?_) (fun h30 => ?_)
                · simp only [ab_cmp, pr_i_1, pr_i_2, pr_i_3] at h30
                  first
                  | contradiction
                  | exact absurd trivial h30
                  | exact absurd h30 (by decide)
                  | exact absurd (Classical.not_not.mp h30) (by decide)
                  | skip
                    refine pr_seq (pc' := 46) 8 rfl ⟨⟨⟨⟨⟨⟨⟨⟨trivial, (by first | assumption | decide | omega | exact ⟨Or.inl (by assumption), by assumption⟩ | exact ⟨by assumption, by assumption⟩ | (simp only [y1, pr_i_1, pr_i_2, pr_i_3]; first | assumption | omega | exact ⟨by assumption, by assumption⟩ | exact ⟨Or.inl (by assumption), by assumption⟩))⟩, trivial⟩, trivial⟩, trivial⟩, trivial⟩, trivial⟩, trivial⟩, trivial⟩ ?_
                    try simp only [y1, pr_i_1, pr_i_2, pr_i_3]
                    fail "no call@46 yX7_faultAt"
                · simp only [ab_cmp, pr_i_1, pr_i_2, pr_i_3] at h30
                  first
                  | contradiction
                  | exact absurd trivial h30
                  | exact absurd h30 (by decide)
                  | exact absurd (Classical.not_not.mp h30) (by decide)
                  | skip
                    refine pr_seq (pc' := 49) 2 rfl ⟨⟨trivial, trivial⟩, trivial⟩ ?_
                    try simp only [y1, pr_i_1, pr_i_2, pr_i_3]
                    exact pr_irM rfl (by rfl) trivial (by rfl)
            · simp only [ab_cmp, pr_i_1, pr_i_2, pr_i_3] at h12
              first
              | contradiction
              | exact absurd trivial h12
              | exact absurd h12 (by decide)
              | exact absurd (Classical.not_not.mp h12) (by decide)
              | skip
                refine pr_seq (pc' := 16) 1 rfl ⟨trivial, trivial⟩ ?_
                try simp only [y1, pr_i_1, pr_i_2, pr_i_3]
                exact pr_irM rfl (by first | rfl | (simp only [y1, pr_i_1, pr_i_2, pr_i_3]; done) | (simp [pr_b, pr_i_1, pr_i_2, pr_i_3, *]; done) | (simp_all [pr_b, pr_i_1, pr_i_2, pr_i_3]; done)) trivial (by rfl)
    · rw [if_pos ⟨rfl, c0⟩]
      refine pr_seq (pc' := 4) 2 rfl ⟨⟨trivial, (by first | assumption | decide | omega | exact ⟨Or.inl (by assumption), by assumption⟩ | exact ⟨by assumption, by assumption⟩ | (simp only [y1, pr_i_1, pr_i_2, pr_i_3]; first | assumption | omega | exact ⟨by assumption, by assumption⟩ | exact ⟨Or.inl (by assumption), by assumption⟩))⟩, (by first | assumption | decide | omega | exact ⟨Or.inl (by assumption), by assumption⟩ | exact ⟨by assumption, by assumption⟩ | (simp only [y1, pr_i_1, pr_i_2, pr_i_3]; first | assumption | omega | exact ⟨by assumption, by assumption⟩ | exact ⟨Or.inl (by assumption), by assumption⟩))⟩ ?_
      try simp only [y1, pr_i_1, pr_i_2, pr_i_3]
      refine pr_if rfl (fun h4 => ?_) (fun h4 => ?_)
      · simp only [ab_cmp, pr_i_1, pr_i_2, pr_i_3] at h4
        first
        | contradiction
        | exact absurd trivial h4
        | exact absurd h4 (by decide)
        | exact absurd (Classical.not_not.mp h4) (by decide)
        | skip
          refine pr_seq (pc' := 23) 6 rfl ⟨⟨⟨⟨⟨⟨trivial, (by first | assumption | decide | omega | exact ⟨Or.inl (by assumption), by assumption⟩ | exact ⟨by assumption, by assumption⟩ | (simp only [y1, pr_i_1, pr_i_2, pr_i_3]; first | assumption | omega | exact ⟨by assumption, by assumption⟩ | exact ⟨Or.inl (by assumption), by assumption⟩))⟩, trivial⟩, trivial⟩, trivial⟩, trivial⟩, trivial⟩ ?_
          try simp only [y1, pr_i_1, pr_i_2, pr_i_3]
          fail "no call@23 yX7_faultAt"
      · simp only [ab_cmp, pr_i_1, pr_i_2, pr_i_3] at h4
        first
        | contradiction
        | exact absurd trivial h4
        | exact absurd h4 (by decide)
        | exact absurd (Classical.not_not.mp h4) (by decide)
        | skip
          refine pr_seq (pc' := 12) 3 rfl ⟨⟨⟨trivial, (by first | assumption | decide | omega | exact ⟨Or.inl (by assumption), by assumption⟩ | exact ⟨by assumption, by assumption⟩ | (simp only [y1, pr_i_1, pr_i_2, pr_i_3]; first | assumption | omega | exact ⟨by assumption, by assumption⟩ | exact ⟨Or.inl (by assumption), by assumption⟩))⟩, (by first | assumption | decide | omega | exact ⟨Or.inl (by assumption), by assumption⟩ | exact ⟨by assumption, by assumption⟩ | (simp only [y1, pr_i_1, pr_i_2, pr_i_3]; first | assumption | omega | exact ⟨by assumption, by assumption⟩ | exact ⟨Or.inl (by assumption), by assumption⟩))⟩, trivial⟩ ?_
          try simp only [y1, pr_i_1, pr_i_2, pr_i_3]
          refine pr_ic rfl (fun h12 => ?_) (fun h12 => ?_)
          · simp only [ab_cmp, pr_i_1, pr_i_2, pr_i_3] at h12
            first
            | contradiction
            | exact absurd trivial h12
            | exact absurd h12 (by decide)
            | exact absurd (Classical.not_not.mp h12) (by decide)
            | skip
              refine pr_seq (pc' := 23) 6 rfl ⟨⟨⟨⟨⟨⟨trivial, (by first | assumption | decide | omega | exact ⟨Or.inl (by assumption), by assumption⟩ | exact ⟨by assumption, by assumption⟩ | (simp only [y1, pr_i_1, pr_i_2, pr_i_3]; first | assumption | omega | exact ⟨by assumption, by assumption⟩ | exact ⟨Or.inl (by assumption), by assumption⟩))⟩, trivial⟩, trivial⟩, trivial⟩, trivial⟩, trivial⟩ ?_
              try simp only [y1, pr_i_1, pr_i_2, pr_i_3]
              fail "no call@23 yX7_faultAt"
          · simp only [ab_cmp, pr_i_1, pr_i_2, pr_i_3] at h12
            first
            | contradiction
            | exact absurd trivial h12
            | exact absurd h12 (by decide)
            | exact absurd (Classical.not_not.mp h12) (by decide)
            | skip
              refine pr_seq (pc' := 16) 1 rfl ⟨trivial, trivial⟩ ?_
              try simp only [y1, pr_i_1, pr_i_2, pr_i_3]
              exact pr_irM rfl (by rfl) trivial (by rfl)
/-- what is laid is narrowed to the lane -/
def sh_nar (ln : Nat) (v : Int32) : Int32 := if ln = 0 then v.toInt8.toInt32 else if ln = 1 then v.toInt16.toInt32 else v
theorem c_put {s n ln j : Nat} (v : Int32) (h : ab_H) (M : ab_M) (hs : pr_Sh h M.2.2 s) (ht : M.1 s 1 = 1) (hn : M.1 s 3 = nI n) (hn4 : n ≤ 40) (hln : M.1 s 2 = nI ln) (hl2 : ln ≤ 2) (hj : j < n) : pr_C pX7_put [.ref s, .int (nI j), .int v] h M none h (ab_u M.1 (s + 1) j (sh_nar ln v), M.2) := by
  obtain ⟨s0, s1, r0, k1, k2⟩ := id hs
  have hf := c_faultAt (th := true) (n := n) (nI j) h M s0 s1 ht (fun _ => hn)
  have c : sh_f true n (nI j) = 0 := by
    unfold sh_f
    rw [if_pos rfl, if_neg (nI_pos (by omega)), if_neg (nI_ge hj (by omega))]
  rw [c] at hf
  have e3 : (nI j).toNatClampNeg = j := nI_clamp (by omega)
  have v1 : vp_in (nI j) (ab_n h (s + 1)) := by rw [k2]; exact vp_in_nI (by omega) (by decide)
  unfold sh_nar
  by_cases c0 : ln = 0
  · subst c0
    have z : M.1 s 2 = 0 := hln
    rw [if_pos rfl]
    refine pr_seq (pc' := 2) 2 rfl ⟨⟨trivial, (by first | assumption | decide | omega | exact ⟨Or.inl (by assumption), by assumption⟩ | exact ⟨by assumption, by assumption⟩ | (simp only [r0, z, e3, pr_i_1]; first | assumption | omega | exact ⟨by assumption, by assumption⟩ | exact ⟨Or.inl (by assumption), by assumption⟩))⟩, trivial⟩ ?_
    try simp only [r0, z, e3, pr_i_1]
    refine pr_cv [_] rfl rfl rfl rfl rfl (Nat.le_of_ble_eq_true rfl) (by first | assumption | decide | omega | exact ⟨Or.inl (by assumption), by assumption⟩ | exact ⟨by assumption, by assumption⟩ | (simp only [r0, z, e3, pr_i_1]; first | assumption | omega | exact ⟨by assumption, by assumption⟩ | exact ⟨Or.inl (by assumption), by assumption⟩)) (Nat.le_of_ble_eq_true rfl) (hf) ?_
    refine pr_if rfl (fun h5 => ?_) (fun h5 => ?_)
    · simp only [ab_cmp, pr_i_1] at h5
      first
      | contradiction
      | exact absurd trivial h5
      | exact absurd h5 (by decide)
      | exact absurd (Classical.not_not.mp h5) (by decide)
      | skip
        exact pr_vrM rfl rfl rfl (by rfl)
    · simp only [ab_cmp, pr_i_1] at h5
      first
      | contradiction
      | exact absurd trivial h5
      | exact absurd h5 (by decide)
      | exact absurd (Classical.not_not.mp h5) (by decide)
      | skip
        refine pr_seq (pc' := 17) 5 rfl ⟨⟨⟨⟨⟨trivial, (by first | assumption | decide | omega | exact ⟨Or.inl (by assumption), by assumption⟩ | exact ⟨by assumption, by assumption⟩ | (simp only [r0, z, e3, pr_i_1]; first | assumption | omega | exact ⟨by assumption, by assumption⟩ | exact ⟨Or.inl (by assumption), by assumption⟩))⟩, (by first | assumption | decide | omega | exact ⟨Or.inl (by assumption), by assumption⟩ | exact ⟨by assumption, by assumption⟩ | (simp only [r0, z, e3, pr_i_1]; first | assumption | omega | exact ⟨by assumption, by assumption⟩ | exact ⟨Or.inl (by assumption), by assumption⟩))⟩, trivial⟩, (by first | assumption | decide | omega | exact ⟨Or.inl (by assumption), by assumption⟩ | exact ⟨by assumption, by assumption⟩ | (simp only [r0, z, e3, pr_i_1]; first | assumption | omega | exact ⟨by assumption, by assumption⟩ | exact ⟨Or.inl (by assumption), by assumption⟩))⟩, (by first | assumption | decide | omega | exact ⟨Or.inl (by assumption), by assumption⟩ | exact ⟨by assumption, by assumption⟩ | (simp only [r0, z, e3, pr_i_1]; first | assumption | omega | exact ⟨by assumption, by assumption⟩ | exact ⟨Or.inl (by assumption), by assumption⟩))⟩ ?_
        try simp only [r0, z, e3, pr_i_1]
        refine pr_if rfl (fun h17 => ?_) (fun h17 => ?_)
        · simp only [ab_cmp, pr_i_1] at h17
          first
          | contradiction
          | exact absurd trivial h17
          | exact absurd h17 (by decide)
          | exact absurd (Classical.not_not.mp h17) (by decide)
          | skip
            refine pr_seq (pc' := 30) 3 rfl ⟨⟨⟨trivial, (by first | assumption | decide | omega | exact ⟨Or.inl (by assumption), by assumption⟩ | exact ⟨by assumption, by assumption⟩ | (simp only [r0, z, e3, pr_i_1]; first | assumption | omega | exact ⟨by assumption, by assumption⟩ | exact ⟨Or.inl (by assumption), by assumption⟩))⟩, (by first | assumption | decide | omega | exact ⟨Or.inl (by assumption), by assumption⟩ | exact ⟨by assumption, by assumption⟩ | (simp only [r0, z, e3, pr_i_1]; first | assumption | omega | exact ⟨by assumption, by assumption⟩ | exact ⟨Or.inl (by assumption), by assumption⟩))⟩, trivial⟩ ?_
            try simp only [r0, z, e3, pr_i_1]
            refine pr_ic rfl (fun h30 => ?_) (fun h30 => ?_)
            · simp only [ab_cmp, pr_i_1] at h30
              first
              | contradiction
              | exact absurd trivial h30
              | exact absurd h30 (by decide)
              | exact absurd (Classical.not_not.mp h30) (by decide)
              | skip
                refine pr_seq (pc' := 40) 2 rfl ⟨⟨trivial, trivial⟩, (by first | assumption | decide | omega | exact ⟨Or.inl (by assumption), by assumption⟩ | exact ⟨by assumption, by assumption⟩ | (simp only [r0, z, e3, pr_i_1]; first | assumption | omega | exact ⟨by assumption, by assumption⟩ | exact ⟨Or.inl (by assumption), by assumption⟩))⟩ ?_
                try simp only [r0, z, e3, pr_i_1]
                exact pr_vrM rfl rfl rfl (by rfl)
            · simp only [ab_cmp, pr_i_1] at h30
              first
              | contradiction
              | exact absurd trivial h30
              | exact absurd h30 (by decide)
              | exact absurd (Classical.not_not.mp h30) (by decide)
              | skip
                refine pr_seq (pc' := 40) 4 rfl ⟨⟨⟨⟨trivial, trivial⟩, trivial⟩, trivial⟩, (by first | assumption | decide | omega | exact ⟨Or.inl (by assumption), by assumption⟩ | exact ⟨by assumption, by assumption⟩ | (simp only [r0, z, e3, pr_i_1]; first | assumption | omega | exact ⟨by assumption, by assumption⟩ | exact ⟨Or.inl (by assumption), by assumption⟩))⟩ ?_
                try simp only [r0, z, e3, pr_i_1]
                exact pr_vrM rfl rfl rfl (by rfl)
        · simp only [ab_cmp, pr_i_1] at h17
          first
          | contradiction
          | exact absurd trivial h17
          | exact absurd h17 (by decide)
          | exact absurd (Classical.not_not.mp h17) (by decide)
          | skip
            refine pr_seq (pc' := 40) 4 rfl ⟨⟨⟨⟨trivial, trivial⟩, trivial⟩, trivial⟩, (by first | assumption | decide | omega | exact ⟨Or.inl (by assumption), by assumption⟩ | exact ⟨by assumption, by assumption⟩ | (simp only [r0, z, e3, pr_i_1]; first | assumption | omega | exact ⟨by assumption, by assumption⟩ | exact ⟨Or.inl (by assumption), by assumption⟩))⟩ ?_
            try simp only [r0, z, e3, pr_i_1]
            exact pr_vrM rfl rfl rfl (by rfl)
  · rw [if_neg c0]
    have z0 : ¬ nI ln = 0 := nI_ne c0 (by omega) (by decide)
    by_cases c1 : ln = 1
    · subst c1
      have z : M.1 s 2 = 1 := hln
      rw [if_pos rfl]
      refine pr_seq (pc' := 2) 2 rfl ⟨⟨trivial, (by first | assumption | decide | omega | exact ⟨Or.inl (by assumption), by assumption⟩ | exact ⟨by assumption, by assumption⟩ | (simp only [r0, z, e3, pr_i_1]; first | assumption | omega | exact ⟨by assumption, by assumption⟩ | exact ⟨Or.inl (by assumption), by assumption⟩))⟩, trivial⟩ ?_
      try simp only [r0, z, e3, pr_i_1]
      refine pr_cv [_] rfl rfl rfl rfl rfl (Nat.le_of_ble_eq_true rfl) (by first | assumption | decide | omega | exact ⟨Or.inl (by assumption), by assumption⟩ | exact ⟨by assumption, by assumption⟩ | (simp only [r0, z, e3, pr_i_1]; first | assumption | omega | exact ⟨by assumption, by assumption⟩ | exact ⟨Or.inl (by assumption), by assumption⟩)) (Nat.le_of_ble_eq_true rfl) (hf) ?_
      refine pr_if rfl (fun h5 => ?_) (fun h5 => ?_)
      · simp only [ab_cmp, pr_i_1] at h5
        first
        | contradiction
        | exact absurd trivial h5
        | exact absurd h5 (by decide)
        | exact absurd (Classical.not_not.mp h5) (by decide)
        | skip
          exact pr_vrM rfl rfl rfl (by rfl)
      · simp only [ab_cmp, pr_i_1] at h5
        first
        | contradiction
        | exact absurd trivial h5
        | exact absurd h5 (by decide)
        | exact absurd (Classical.not_not.mp h5) (by decide)
        | skip
          refine pr_seq (pc' := 17) 5 rfl ⟨⟨⟨⟨⟨trivial, (by first | assumption | decide | omega | exact ⟨Or.inl (by assumption), by assumption⟩ | exact ⟨by assumption, by assumption⟩ | (simp only [r0, z, e3, pr_i_1]; first | assumption | omega | exact ⟨by assumption, by assumption⟩ | exact ⟨Or.inl (by assumption), by assumption⟩))⟩, (by first | assumption | decide | omega | exact ⟨Or.inl (by assumption), by assumption⟩ | exact ⟨by assumption, by assumption⟩ | (simp only [r0, z, e3, pr_i_1]; first | assumption | omega | exact ⟨by assumption, by assumption⟩ | exact ⟨Or.inl (by assumption), by assumption⟩))⟩, trivial⟩, (by first | assumption | decide | omega | exact ⟨Or.inl (by assumption), by assumption⟩ | exact ⟨by assumption, by assumption⟩ | (simp only [r0, z, e3, pr_i_1]; first | assumption | omega | exact ⟨by assumption, by assumption⟩ | exact ⟨Or.inl (by assumption), by assumption⟩))⟩, (by first | assumption | decide | omega | exact ⟨Or.inl (by assumption), by assumption⟩ | exact ⟨by assumption, by assumption⟩ | (simp only [r0, z, e3, pr_i_1]; first | assumption | omega | exact ⟨by assumption, by assumption⟩ | exact ⟨Or.inl (by assumption), by assumption⟩))⟩ ?_
          try simp only [r0, z, e3, pr_i_1]
          refine pr_if rfl (fun h17 => ?_) (fun h17 => ?_)
          · simp only [ab_cmp, pr_i_1] at h17
            first
            | contradiction
            | exact absurd trivial h17
            | exact absurd h17 (by decide)
            | exact absurd (Classical.not_not.mp h17) (by decide)
            | skip
              refine pr_seq (pc' := 30) 3 rfl ⟨⟨⟨trivial, (by first | assumption | decide | omega | exact ⟨Or.inl (by assumption), by assumption⟩ | exact ⟨by assumption, by assumption⟩ | (simp only [r0, z, e3, pr_i_1]; first | assumption | omega | exact ⟨by assumption, by assumption⟩ | exact ⟨Or.inl (by assumption), by assumption⟩))⟩, (by first | assumption | decide | omega | exact ⟨Or.inl (by assumption), by assumption⟩ | exact ⟨by assumption, by assumption⟩ | (simp only [r0, z, e3, pr_i_1]; first | assumption | omega | exact ⟨by assumption, by assumption⟩ | exact ⟨Or.inl (by assumption), by assumption⟩))⟩, trivial⟩ ?_
              try simp only [r0, z, e3, pr_i_1]
              refine pr_ic rfl (fun h30 => ?_) (fun h30 => ?_)
              · simp only [ab_cmp, pr_i_1] at h30
                first
                | contradiction
                | exact absurd trivial h30
                | exact absurd h30 (by decide)
                | exact absurd (Classical.not_not.mp h30) (by decide)
                | skip
                  refine pr_seq (pc' := 40) 2 rfl ⟨⟨trivial, trivial⟩, (by first | assumption | decide | omega | exact ⟨Or.inl (by assumption), by assumption⟩ | exact ⟨by assumption, by assumption⟩ | (simp only [r0, z, e3, pr_i_1]; first | assumption | omega | exact ⟨by assumption, by assumption⟩ | exact ⟨Or.inl (by assumption), by assumption⟩))⟩ ?_
                  try simp only [r0, z, e3, pr_i_1]
                  exact pr_vrM rfl rfl rfl (by rfl)
              · simp only [ab_cmp, pr_i_1] at h30
                first
                | contradiction
                | exact absurd trivial h30
                | exact absurd h30 (by decide)
                | exact absurd (Classical.not_not.mp h30) (by decide)
                | skip
                  refine pr_seq (pc' := 40) 4 rfl ⟨⟨⟨⟨trivial, trivial⟩, trivial⟩, trivial⟩, (by first | assumption | decide | omega | exact ⟨Or.inl (by assumption), by assumption⟩ | exact ⟨by assumption, by assumption⟩ | (simp only [r0, z, e3, pr_i_1]; first | assumption | omega | exact ⟨by assumption, by assumption⟩ | exact ⟨Or.inl (by assumption), by assumption⟩))⟩ ?_
                  try simp only [r0, z, e3, pr_i_1]
                  exact pr_vrM rfl rfl rfl (by rfl)
          · simp only [ab_cmp, pr_i_1] at h17
            first
            | contradiction
            | exact absurd trivial h17
            | exact absurd h17 (by decide)
            | exact absurd (Classical.not_not.mp h17) (by decide)
            | skip
              refine pr_seq (pc' := 40) 4 rfl ⟨⟨⟨⟨trivial, trivial⟩, trivial⟩, trivial⟩, (by first | assumption | decide | omega | exact ⟨Or.inl (by assumption), by assumption⟩ | exact ⟨by assumption, by assumption⟩ | (simp only [r0, z, e3, pr_i_1]; first | assumption | omega | exact ⟨by assumption, by assumption⟩ | exact ⟨Or.inl (by assumption), by assumption⟩))⟩ ?_
              try simp only [r0, z, e3, pr_i_1]
              exact pr_vrM rfl rfl rfl (by rfl)
    · rw [if_neg c1]
      have z1 : ¬ nI ln = 1 := nI_ne c1 (by omega) (by decide)
      refine pr_seq (pc' := 2) 2 rfl ⟨⟨trivial, (by first | assumption | decide | omega | exact ⟨Or.inl (by assumption), by assumption⟩ | exact ⟨by assumption, by assumption⟩ | (simp only [r0, hln, e3, pr_i_1]; first | assumption | omega | exact ⟨by assumption, by assumption⟩ | exact ⟨Or.inl (by assumption), by assumption⟩))⟩, trivial⟩ ?_
      try simp only [r0, hln, e3, pr_i_1]
      refine pr_cv [_] rfl rfl rfl rfl rfl (Nat.le_of_ble_eq_true rfl) (by first | assumption | decide | omega | exact ⟨Or.inl (by assumption), by assumption⟩ | exact ⟨by assumption, by assumption⟩ | (simp only [r0, hln, e3, pr_i_1]; first | assumption | omega | exact ⟨by assumption, by assumption⟩ | exact ⟨Or.inl (by assumption), by assumption⟩)) (Nat.le_of_ble_eq_true rfl) (hf) ?_
      refine pr_if rfl (fun h5 => ?_) (fun h5 => ?_)
      · simp only [ab_cmp, pr_i_1] at h5
        first
        | contradiction
        | exact absurd trivial h5
        | exact absurd h5 (by decide)
        | exact absurd (Classical.not_not.mp h5) (by decide)
        | skip
          exact pr_vrM rfl rfl rfl (by rfl)
      · simp only [ab_cmp, pr_i_1] at h5
        first
        | contradiction
        | exact absurd trivial h5
        | exact absurd h5 (by decide)
        | exact absurd (Classical.not_not.mp h5) (by decide)
        | skip
          refine pr_seq (pc' := 17) 5 rfl ⟨⟨⟨⟨⟨trivial, (by first | assumption | decide | omega | exact ⟨Or.inl (by assumption), by assumption⟩ | exact ⟨by assumption, by assumption⟩ | (simp only [r0, hln, e3, pr_i_1]; first | assumption | omega | exact ⟨by assumption, by assumption⟩ | exact ⟨Or.inl (by assumption), by assumption⟩))⟩, (by first | assumption | decide | omega | exact ⟨Or.inl (by assumption), by assumption⟩ | exact ⟨by assumption, by assumption⟩ | (simp only [r0, hln, e3, pr_i_1]; first | assumption | omega | exact ⟨by assumption, by assumption⟩ | exact ⟨Or.inl (by assumption), by assumption⟩))⟩, trivial⟩, (by first | assumption | decide | omega | exact ⟨Or.inl (by assumption), by assumption⟩ | exact ⟨by assumption, by assumption⟩ | (simp only [r0, hln, e3, pr_i_1]; first | assumption | omega | exact ⟨by assumption, by assumption⟩ | exact ⟨Or.inl (by assumption), by assumption⟩))⟩, (by first | assumption | decide | omega | exact ⟨Or.inl (by assumption), by assumption⟩ | exact ⟨by assumption, by assumption⟩ | (simp only [r0, hln, e3, pr_i_1]; first | assumption | omega | exact ⟨by assumption, by assumption⟩ | exact ⟨Or.inl (by assumption), by assumption⟩))⟩ ?_
          try simp only [r0, hln, e3, pr_i_1]
          refine pr_if rfl (fun h17 => ?_) (fun h17 => ?_)
          · simp only [ab_cmp, pr_i_1] at h17
            first
            | contradiction
            | exact absurd trivial h17
            | exact absurd h17 (by decide)
            | exact absurd (Classical.not_not.mp h17) (by decide)
            | skip
              refine pr_seq (pc' := 30) 3 rfl ⟨⟨⟨trivial, (by first | assumption | decide | omega | exact ⟨Or.inl (by assumption), by assumption⟩ | exact ⟨by assumption, by assumption⟩ | (simp only [r0, hln, e3, pr_i_1]; first | assumption | omega | exact ⟨by assumption, by assumption⟩ | exact ⟨Or.inl (by assumption), by assumption⟩))⟩, (by first | assumption | decide | omega | exact ⟨Or.inl (by assumption), by assumption⟩ | exact ⟨by assumption, by assumption⟩ | (simp only [r0, hln, e3, pr_i_1]; first | assumption | omega | exact ⟨by assumption, by assumption⟩ | exact ⟨Or.inl (by assumption), by assumption⟩))⟩, trivial⟩ ?_
              try simp only [r0, hln, e3, pr_i_1]
              refine pr_ic rfl (fun h30 => ?_) (fun h30 => ?_)
              · simp only [ab_cmp, pr_i_1] at h30
                first
                | contradiction
                | exact absurd trivial h30
                | exact absurd h30 (by decide)
                | exact absurd (Classical.not_not.mp h30) (by decide)
                | skip
                  refine pr_seq (pc' := 40) 2 rfl ⟨⟨trivial, trivial⟩, (by first | assumption | decide | omega | exact ⟨Or.inl (by assumption), by assumption⟩ | exact ⟨by assumption, by assumption⟩ | (simp only [r0, hln, e3, pr_i_1]; first | assumption | omega | exact ⟨by assumption, by assumption⟩ | exact ⟨Or.inl (by assumption), by assumption⟩))⟩ ?_
                  try simp only [r0, hln, e3, pr_i_1]
                  exact pr_vrM rfl rfl rfl (by rfl)
              · simp only [ab_cmp, pr_i_1] at h30
                first
                | contradiction
                | exact absurd trivial h30
                | exact absurd h30 (by decide)
                | exact absurd (Classical.not_not.mp h30) (by decide)
                | skip
                  refine pr_seq (pc' := 40) 4 rfl ⟨⟨⟨⟨trivial, trivial⟩, trivial⟩, trivial⟩, (by first | assumption | decide | omega | exact ⟨Or.inl (by assumption), by assumption⟩ | exact ⟨by assumption, by assumption⟩ | (simp only [r0, hln, e3, pr_i_1]; first | assumption | omega | exact ⟨by assumption, by assumption⟩ | exact ⟨Or.inl (by assumption), by assumption⟩))⟩ ?_
                  try simp only [r0, hln, e3, pr_i_1]
                  exact pr_vrM rfl rfl rfl (by rfl)
          · simp only [ab_cmp, pr_i_1] at h17
            first
            | contradiction
            | exact absurd trivial h17
            | exact absurd h17 (by decide)
            | exact absurd (Classical.not_not.mp h17) (by decide)
            | skip
              refine pr_seq (pc' := 40) 4 rfl ⟨⟨⟨⟨trivial, trivial⟩, trivial⟩, trivial⟩, (by first | assumption | decide | omega | exact ⟨Or.inl (by assumption), by assumption⟩ | exact ⟨by assumption, by assumption⟩ | (simp only [r0, hln, e3, pr_i_1]; first | assumption | omega | exact ⟨by assumption, by assumption⟩ | exact ⟨Or.inl (by assumption), by assumption⟩))⟩ ?_
              try simp only [r0, hln, e3, pr_i_1]
              exact pr_vrM rfl rfl rfl (by rfl)
/-- the bytes of a long, the highest first -/
def by8 (v : Int64) (k : Nat) : Int32 := (v.toUInt64 >>> ((nI (56 - 8 * k)).toInt64.toUInt64 &&& Int64.toUInt64 63)).toInt64.toInt32.toInt8.toInt32.toInt8.toInt32
def tp_w (I : Nat → Nat → Int32) (v : Int64) (m k : Nat) : Nat → Nat → Int32 := fun a j => if a = 2 ∧ j = 1 then nI (m + k) else if a = 3 ∧ m ≤ j ∧ j < m + k then by8 v (j - m) else I a j
theorem tp_w_s {I : Nat → Nat → Int32} {v : Int64} {m k : Nat} : ab_u (ab_u (tp_w I v m k) 3 (m + k) (by8 v k)) 2 1 (nI (m + k + 1)) = tp_w I v m (k + 1) := by
  funext a j
  unfold ab_u tp_w
  by_cases h1 : a = 2 ∧ j = 1
  · rw [if_pos h1, if_pos h1]; rfl
  · rw [if_neg h1, if_neg h1, if_neg h1]
    by_cases h2 : a = 3 ∧ j = m + k
    · rw [if_pos h2, if_pos (by omega)]
      congr 1
      omega
    · rw [if_neg h2]
      by_cases h3 : a = 3 ∧ m ≤ j ∧ j < m + k
      · rw [if_pos h3, if_pos (by omega)]
      · rw [if_neg h3, if_neg (by omega)]
theorem i8_idem (x : Int32) : x.toInt8.toInt32.toInt8.toInt32 = x.toInt8.toInt32 := by
  simp
theorem c_tappend {m : Nat} (v : Int64) (h : ab_H) (M : ab_M) (k2 : ab_k h 2 = 9) (r2 : M.2.2 2 0 = 3) (k3 : ab_k h 3 = 21) (n3 : ab_n h 3 = 320) (hm : M.1 2 1 = nI m) (hm3 : m ≤ 320) : pr_C pX8_append [.ref 2, .long v] h M (some (.int (pr_b (decide (m + 8 ≤ 320))))) h (if m + 8 ≤ 320 then tp_w M.1 v m 8 else M.1, M.2) := by
  have t2 : (2 : Nat) ≠ 0 := by decide
  by_cases hc : m + 8 ≤ 320
  · rw [decide_eq_true hc, if_pos hc]
    have e1 : nI (m + 8) ≤ (320 : Int32) := nI_le (b := 320) hc (by decide)
    have loop : ∀ dd k, k + dd = 8 → pr_E pX8_append 18 [some (.ref 2), some (.long v), none, some (.int (nI (56 - 8 * k) - (if k = 8 then 8 else 0)))] [] h (tp_w M.1 v m k, M.2) (some (.int (pr_b true))) h (tp_w M.1 v m 8, M.2) := by
      intro dd
      induction dd with
      | zero =>
        intro k hk
        obtain rfl : k = 8 := by omega
        have e5 : nI (56 - 8 * 8) - (if (8 : Nat) = 8 then 8 else 0) < (0 : Int32) := by decide
        refine pr_seq (pc' := 19) 1 rfl ⟨trivial, trivial⟩ ?_
        refine pr_if rfl (fun h19 => ?_) (fun h19 => ?_)
        · simp only [ab_cmp, pr_16_320, pr_8_56, pr_8_8, pr_i_0, pr_i_1, pr_i_m8] at h19
          first
          | contradiction
          | exact absurd trivial h19
          | exact absurd h19 (by decide)
          | exact absurd (Classical.not_not.mp h19) (by decide)
          | skip
            refine pr_seq (pc' := 53) 1 rfl ⟨trivial, trivial⟩ ?_
            exact pr_irM rfl (by rfl) (by first | exact Or.inl rfl | exact Or.inr rfl | exact pr_b01 _ | assumption) (by rfl)
        · simp only [ab_cmp, pr_16_320, pr_8_56, pr_8_8, pr_i_0, pr_i_1, pr_i_m8] at h19
          first
          | contradiction
          | exact absurd trivial h19
          | exact absurd h19 (by decide)
          | exact absurd (Classical.not_not.mp h19) (by decide)
          | skip
            refine pr_seq (pc' := 19) 19 rfl ⟨⟨⟨⟨⟨⟨⟨⟨⟨⟨⟨⟨⟨⟨⟨⟨⟨⟨⟨trivial, (by first | assumption | decide | omega | exact ⟨Or.inl (by assumption), by assumption⟩ | exact ⟨by assumption, by assumption⟩)⟩, (by first | assumption | decide | omega | exact ⟨Or.inl (by assumption), by assumption⟩ | exact ⟨by assumption, by assumption⟩)⟩, (by first | assumption | decide | omega | exact ⟨Or.inl (by assumption), by assumption⟩ | exact ⟨by assumption, by assumption⟩)⟩, (by first | assumption | decide | omega | exact ⟨Or.inl (by assumption), by assumption⟩ | exact ⟨by assumption, by assumption⟩)⟩, trivial⟩, trivial⟩, trivial⟩, trivial⟩, trivial⟩, (by first | assumption | decide | omega | exact ⟨Or.inl (by assumption), by assumption⟩ | exact ⟨by assumption, by assumption⟩)⟩, (by first | assumption | decide | omega | exact ⟨Or.inl (by assumption), by assumption⟩ | exact ⟨by assumption, by assumption⟩)⟩, trivial⟩, (by first | assumption | decide | omega | exact ⟨Or.inl (by assumption), by assumption⟩ | exact ⟨by assumption, by assumption⟩)⟩, trivial⟩, trivial⟩, (by first | assumption | decide | omega | exact ⟨Or.inl (by assumption), by assumption⟩ | exact ⟨by assumption, by assumption⟩)⟩, trivial⟩, trivial⟩, trivial⟩ ?_
            fail "loop at 19"
      | succ dd ih =>
        intro k hk
        rw [if_neg (by omega)]
        have hh := ih (k + 1) (by omega)
        have s0 : nI (56 - 8 * k) - 0 = nI (56 - 8 * k) := by simp
        have e5 : ¬ nI (56 - 8 * k) < (0 : Int32) := nI_pos (by omega)
        have x1 : tp_w M.1 v m k 2 1 = nI (m + k) := by simp [tp_w]
        have e3 : (nI (m + k)).toNatClampNeg = m + k := nI_clamp (by omega)
        have x2 : ∀ x, ab_u (tp_w M.1 v m k) 3 (m + k) x 2 1 = nI (m + k) := fun x => by rw [ab_u_ne (by decide)]; exact x1
        have e6 : nI (56 - 8 * k) + Int32.ofInt (-8) = nI (56 - 8 * (k + 1)) - (if k + 1 = 8 then 8 else 0) := by
          have hk8 : k < 8 := by omega
          clear hh ih x1 e3 x2 s0 e5 hk
          revert k
          decide
        rw [← tp_w_s, ← e6] at hh
        rw [s0]
        refine pr_seq (pc' := 19) 1 rfl ⟨trivial, trivial⟩ ?_
        try simp only [r2, x1, x2, e3, nI_1, pr_16_320, pr_8_56, pr_8_8, pr_i_0, pr_i_1, pr_i_m8]
        refine pr_if rfl (fun h19 => ?_) (fun h19 => ?_)
        · simp only [ab_cmp, pr_16_320, pr_8_56, pr_8_8, pr_i_0, pr_i_1, pr_i_m8] at h19
          first
          | contradiction
          | exact absurd trivial h19
          | exact absurd h19 (by decide)
          | exact absurd (Classical.not_not.mp h19) (by decide)
          | skip
            refine pr_seq (pc' := 53) 1 rfl ⟨trivial, trivial⟩ ?_
            try simp only [r2, x1, x2, e3, nI_1, pr_16_320, pr_8_56, pr_8_8, pr_i_0, pr_i_1, pr_i_m8]
            exact pr_irM rfl (by first | rfl | (simp only [r2, x1, x2, e3, nI_1, pr_16_320, pr_8_56, pr_8_8, pr_i_0, pr_i_1, pr_i_m8]; done) | (simp [pr_b, pr_16_320, pr_8_56, pr_8_8, pr_i_0, pr_i_1, pr_i_m8, *]; done) | (simp_all [pr_b, pr_16_320, pr_8_56, pr_8_8, pr_i_0, pr_i_1, pr_i_m8]; done)) (by first | exact Or.inl rfl | exact Or.inr rfl | exact pr_b01 _ | assumption) (by rfl)
        · simp only [ab_cmp, pr_16_320, pr_8_56, pr_8_8, pr_i_0, pr_i_1, pr_i_m8] at h19
          first
          | contradiction
          | exact absurd trivial h19
          | exact absurd h19 (by decide)
          | exact absurd (Classical.not_not.mp h19) (by decide)
          | skip
            refine pr_seq (pc' := 18) 18 rfl ⟨⟨⟨⟨⟨⟨⟨⟨⟨⟨⟨⟨⟨⟨⟨⟨⟨⟨trivial, (by first | assumption | decide | omega | exact ⟨Or.inl (by assumption), by assumption⟩ | exact ⟨by assumption, by assumption⟩ | (simp only [r2, x1, x2, e3, nI_1, pr_16_320, pr_8_56, pr_8_8, pr_i_0, pr_i_1, pr_i_m8]; first | assumption | omega | exact ⟨by assumption, by assumption⟩ | exact ⟨Or.inl (by assumption), by assumption⟩))⟩, (by first | assumption | decide | omega | exact ⟨Or.inl (by assumption), by assumption⟩ | exact ⟨by assumption, by assumption⟩ | (simp only [r2, x1, x2, e3, nI_1, pr_16_320, pr_8_56, pr_8_8, pr_i_0, pr_i_1, pr_i_m8]; first | assumption | omega | exact ⟨by assumption, by assumption⟩ | exact ⟨Or.inl (by assumption), by assumption⟩))⟩, (by first | assumption | decide | omega | exact ⟨Or.inl (by assumption), by assumption⟩ | exact ⟨by assumption, by assumption⟩ | (simp only [r2, x1, x2, e3, nI_1, pr_16_320, pr_8_56, pr_8_8, pr_i_0, pr_i_1, pr_i_m8]; first | assumption | omega | exact ⟨by assumption, by assumption⟩ | exact ⟨Or.inl (by assumption), by assumption⟩))⟩, (by first | assumption | decide | omega | exact ⟨Or.inl (by assumption), by assumption⟩ | exact ⟨by assumption, by assumption⟩ | (simp only [r2, x1, x2, e3, nI_1, pr_16_320, pr_8_56, pr_8_8, pr_i_0, pr_i_1, pr_i_m8]; first | assumption | omega | exact ⟨by assumption, by assumption⟩ | exact ⟨Or.inl (by assumption), by assumption⟩))⟩, trivial⟩, trivial⟩, trivial⟩, trivial⟩, trivial⟩, (by (show (ab_k h (M.2.2 2 0) = 21 ∨ _) ∧ vp_in (tp_w M.1 v m k 2 1) (ab_n h (M.2.2 2 0))); rw [r2, x1, n3]; exact ⟨Or.inl k3, vp_in_nI (by omega) (by decide)⟩)⟩, (by first | assumption | decide | omega | exact ⟨Or.inl (by assumption), by assumption⟩ | exact ⟨by assumption, by assumption⟩ | (simp only [r2, x1, x2, e3, nI_1, pr_16_320, pr_8_56, pr_8_8, pr_i_0, pr_i_1, pr_i_m8]; first | assumption | omega | exact ⟨by assumption, by assumption⟩ | exact ⟨Or.inl (by assumption), by assumption⟩))⟩, trivial⟩, (by first | assumption | decide | omega | exact ⟨Or.inl (by assumption), by assumption⟩ | exact ⟨by assumption, by assumption⟩ | (simp only [r2, x1, x2, e3, nI_1, pr_16_320, pr_8_56, pr_8_8, pr_i_0, pr_i_1, pr_i_m8]; first | assumption | omega | exact ⟨by assumption, by assumption⟩ | exact ⟨Or.inl (by assumption), by assumption⟩))⟩, trivial⟩, trivial⟩, (by first | assumption | decide | omega | exact ⟨Or.inl (by assumption), by assumption⟩ | exact ⟨by assumption, by assumption⟩ | (simp only [r2, x1, x2, e3, nI_1, pr_16_320, pr_8_56, pr_8_8, pr_i_0, pr_i_1, pr_i_m8]; first | assumption | omega | exact ⟨by assumption, by assumption⟩ | exact ⟨Or.inl (by assumption), by assumption⟩))⟩, trivial⟩, trivial⟩ ?_
            try simp only [r2, x1, x2, e3, nI_1, pr_16_320, pr_8_56, pr_8_8, pr_i_0, pr_i_1, pr_i_m8]
            skip
            exact hh
    have h0 := loop 8 0 (by omega)
    rw [show tp_w M.1 v m 0 = M.1 by funext a j; unfold tp_w; split; rename_i q; rw [q.1, q.2, hm]; rfl; rw [if_neg (by omega)]] at h0
    have n8 : (8 : Int32) = nI 8 := rfl
    refine pr_seq (pc' := 10) 5 rfl ⟨⟨⟨⟨⟨trivial, (by first | assumption | decide | omega | exact ⟨Or.inl (by assumption), by assumption⟩ | exact ⟨by assumption, by assumption⟩ | (simp only [hm, n8, nI_add, pr_16_320, pr_8_56, pr_8_8, pr_i_0, pr_i_1, pr_i_m8]; first | assumption | omega | exact ⟨by assumption, by assumption⟩ | exact ⟨Or.inl (by assumption), by assumption⟩))⟩, (by first | assumption | decide | omega | exact ⟨Or.inl (by assumption), by assumption⟩ | exact ⟨by assumption, by assumption⟩ | (simp only [hm, n8, nI_add, pr_16_320, pr_8_56, pr_8_8, pr_i_0, pr_i_1, pr_i_m8]; first | assumption | omega | exact ⟨by assumption, by assumption⟩ | exact ⟨Or.inl (by assumption), by assumption⟩))⟩, trivial⟩, trivial⟩, trivial⟩ ?_
    try simp only [hm, n8, nI_add, pr_16_320, pr_8_56, pr_8_8, pr_i_0, pr_i_1, pr_i_m8]
    refine pr_ic rfl (fun h10 => ?_) (fun h10 => ?_)
    · simp only [ab_cmp, pr_16_320, pr_8_56, pr_8_8, pr_i_0, pr_i_1, pr_i_m8] at h10
      first
      | contradiction
      | exact absurd trivial h10
      | exact absurd h10 (by decide)
      | exact absurd (Classical.not_not.mp h10) (by decide)
      | skip
        refine pr_seq (pc' := 18) 2 rfl ⟨⟨trivial, trivial⟩, trivial⟩ ?_
        try simp only [hm, n8, nI_add, pr_16_320, pr_8_56, pr_8_8, pr_i_0, pr_i_1, pr_i_m8]
        exact h0
    · simp only [ab_cmp, pr_16_320, pr_8_56, pr_8_8, pr_i_0, pr_i_1, pr_i_m8] at h10
      first
      | contradiction
      | exact absurd trivial h10
      | exact absurd h10 (by decide)
      | exact absurd (Classical.not_not.mp h10) (by decide)
      | skip
        refine pr_seq (pc' := 14) 1 rfl ⟨trivial, trivial⟩ ?_
        try simp only [hm, n8, nI_add, pr_16_320, pr_8_56, pr_8_8, pr_i_0, pr_i_1, pr_i_m8]
        exact pr_irM rfl (by first | rfl | (simp only [hm, n8, nI_add, pr_16_320, pr_8_56, pr_8_8, pr_i_0, pr_i_1, pr_i_m8]; done) | (simp [pr_b, pr_16_320, pr_8_56, pr_8_8, pr_i_0, pr_i_1, pr_i_m8, *]; done) | (simp_all [pr_b, pr_16_320, pr_8_56, pr_8_8, pr_i_0, pr_i_1, pr_i_m8]; done)) (by first | exact Or.inl rfl | exact Or.inr rfl | exact pr_b01 _ | assumption) (by rfl)
  · rw [decide_eq_false hc, if_neg hc]
    have e1 : ¬ nI (m + 8) ≤ (320 : Int32) := nI_ge (b := m + 8) (a := 320) (by omega) (by omega)
    have n8 : (8 : Int32) = nI 8 := rfl
    refine pr_seq (pc' := 10) 5 rfl ⟨⟨⟨⟨⟨trivial, (by first | assumption | decide | omega | exact ⟨Or.inl (by assumption), by assumption⟩ | exact ⟨by assumption, by assumption⟩ | (simp only [hm, n8, nI_add, pr_16_320, pr_8_56, pr_8_8, pr_i_0, pr_i_1, pr_i_m8]; first | assumption | omega | exact ⟨by assumption, by assumption⟩ | exact ⟨Or.inl (by assumption), by assumption⟩))⟩, (by first | assumption | decide | omega | exact ⟨Or.inl (by assumption), by assumption⟩ | exact ⟨by assumption, by assumption⟩ | (simp only [hm, n8, nI_add, pr_16_320, pr_8_56, pr_8_8, pr_i_0, pr_i_1, pr_i_m8]; first | assumption | omega | exact ⟨by assumption, by assumption⟩ | exact ⟨Or.inl (by assumption), by assumption⟩))⟩, trivial⟩, trivial⟩, trivial⟩ ?_
    try simp only [hm, n8, nI_add, pr_16_320, pr_8_56, pr_8_8, pr_i_0, pr_i_1, pr_i_m8]
    refine pr_ic rfl (fun h10 => ?_) (fun h10 => ?_)
    · simp only [ab_cmp, pr_16_320, pr_8_56, pr_8_8, pr_i_0, pr_i_1, pr_i_m8] at h10
      first
      | contradiction
      | exact absurd trivial h10
      | exact absurd h10 (by decide)
      | exact absurd (Classical.not_not.mp h10) (by decide)
      | skip
        refine pr_seq (pc' := 19) 3 rfl ⟨⟨⟨trivial, trivial⟩, trivial⟩, trivial⟩ ?_
        try simp only [hm, n8, nI_add, pr_16_320, pr_8_56, pr_8_8, pr_i_0, pr_i_1, pr_i_m8]
        refine pr_if rfl (fun h19 => ?_) (fun h19 => ?_)
        · simp only [ab_cmp, pr_16_320, pr_8_56, pr_8_8, pr_i_0, pr_i_1, pr_i_m8] at h19
          first
          | contradiction
          | exact absurd trivial h19
          | exact absurd h19 (by decide)
          | exact absurd (Classical.not_not.mp h19) (by decide)
          | skip
            refine pr_seq (pc' := 53) 1 rfl ⟨trivial, trivial⟩ ?_
            try simp only [hm, n8, nI_add, pr_16_320, pr_8_56, pr_8_8, pr_i_0, pr_i_1, pr_i_m8]
            exact pr_irM rfl (by first | rfl | (simp only [hm, n8, nI_add, pr_16_320, pr_8_56, pr_8_8, pr_i_0, pr_i_1, pr_i_m8]; done) | (simp [pr_b, pr_16_320, pr_8_56, pr_8_8, pr_i_0, pr_i_1, pr_i_m8, *]; done) | (simp_all [pr_b, pr_16_320, pr_8_56, pr_8_8, pr_i_0, pr_i_1, pr_i_m8]; done)) (by first | exact Or.inl rfl | exact Or.inr rfl | exact pr_b01 _ | assumption) (by rfl)
        · simp only [ab_cmp, pr_16_320, pr_8_56, pr_8_8, pr_i_0, pr_i_1, pr_i_m8] at h19
          first
          | contradiction
          | exact absurd trivial h19
          | exact absurd h19 (by decide)
          | exact absurd (Classical.not_not.mp h19) (by decide)
          | skip
            refine pr_seq (pc' := 19) 19 rfl ⟨⟨⟨⟨⟨⟨⟨⟨⟨⟨⟨⟨⟨⟨⟨⟨⟨⟨⟨trivial, (by first | assumption | decide | omega | exact ⟨Or.inl (by assumption), by assumption⟩ | exact ⟨by assumption, by assumption⟩ | (simp only [hm, n8, nI_add, pr_16_320, pr_8_56, pr_8_8, pr_i_0, pr_i_1, pr_i_m8]; first | assumption | omega | exact ⟨by assumption, by assumption⟩ | exact ⟨Or.inl (by assumption), by assumption⟩))⟩, (by first | assumption | decide | omega | exact ⟨Or.inl (by assumption), by assumption⟩ | exact ⟨by assumption, by assumption⟩ | (simp only [hm, n8, nI_add, pr_16_320, pr_8_56, pr_8_8, pr_i_0, pr_i_1, pr_i_m8]; first | assumption | omega | exact ⟨by assumption, by assumption⟩ | exact ⟨Or.inl (by assumption), by assumption⟩))⟩, (by first | assumption | decide | omega | exact ⟨Or.inl (by assumption), by assumption⟩ | exact ⟨by assumption, by assumption⟩ | (simp only [hm, n8, nI_add, pr_16_320, pr_8_56, pr_8_8, pr_i_0, pr_i_1, pr_i_m8]; first | assumption | omega | exact ⟨by assumption, by assumption⟩ | exact ⟨Or.inl (by assumption), by assumption⟩))⟩, (by first | assumption | decide | omega | exact ⟨Or.inl (by assumption), by assumption⟩ | exact ⟨by assumption, by assumption⟩ | (simp only [hm, n8, nI_add, pr_16_320, pr_8_56, pr_8_8, pr_i_0, pr_i_1, pr_i_m8]; first | assumption | omega | exact ⟨by assumption, by assumption⟩ | exact ⟨Or.inl (by assumption), by assumption⟩))⟩, trivial⟩, trivial⟩, trivial⟩, trivial⟩, trivial⟩, (by first | assumption | decide | omega | exact ⟨Or.inl (by assumption), by assumption⟩ | exact ⟨by assumption, by assumption⟩ | (simp only [hm, n8, nI_add, pr_16_320, pr_8_56, pr_8_8, pr_i_0, pr_i_1, pr_i_m8]; first | assumption | omega | exact ⟨by assumption, by assumption⟩ | exact ⟨Or.inl (by assumption), by assumption⟩))⟩, (by first | assumption | decide | omega | exact ⟨Or.inl (by assumption), by assumption⟩ | exact ⟨by assumption, by assumption⟩ | (simp only [hm, n8, nI_add, pr_16_320, pr_8_56, pr_8_8, pr_i_0, pr_i_1, pr_i_m8]; first | assumption | omega | exact ⟨by assumption, by assumption⟩ | exact ⟨Or.inl (by assumption), by assumption⟩))⟩, trivial⟩, (by first | assumption | decide | omega | exact ⟨Or.inl (by assumption), by assumption⟩ | exact ⟨by assumption, by assumption⟩ | (simp only [hm, n8, nI_add, pr_16_320, pr_8_56, pr_8_8, pr_i_0, pr_i_1, pr_i_m8]; first | assumption | omega | exact ⟨by assumption, by assumption⟩ | exact ⟨Or.inl (by assumption), by assumption⟩))⟩, trivial⟩, trivial⟩, (by first | assumption | decide | omega | exact ⟨Or.inl (by assumption), by assumption⟩ | exact ⟨by assumption, by assumption⟩ | (simp only [hm, n8, nI_add, pr_16_320, pr_8_56, pr_8_8, pr_i_0, pr_i_1, pr_i_m8]; first | assumption | omega | exact ⟨by assumption, by assumption⟩ | exact ⟨Or.inl (by assumption), by assumption⟩))⟩, trivial⟩, trivial⟩, trivial⟩ ?_
            try simp only [hm, n8, nI_add, pr_16_320, pr_8_56, pr_8_8, pr_i_0, pr_i_1, pr_i_m8]
            fail "loop at 19"
    · simp only [ab_cmp, pr_16_320, pr_8_56, pr_8_8, pr_i_0, pr_i_1, pr_i_m8] at h10
      first
      | contradiction
      | exact absurd trivial h10
      | exact absurd h10 (by decide)
      | exact absurd (Classical.not_not.mp h10) (by decide)
      | skip
        refine pr_seq (pc' := 14) 1 rfl ⟨trivial, trivial⟩ ?_
        try simp only [hm, n8, nI_add, pr_16_320, pr_8_56, pr_8_8, pr_i_0, pr_i_1, pr_i_m8]
        exact pr_irM rfl (by rfl) (by first | exact Or.inl rfl | exact Or.inr rfl | exact pr_b01 _ | assumption) (by rfl)
