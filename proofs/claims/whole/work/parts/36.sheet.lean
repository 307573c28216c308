/-! ===== Sheet, Tape ===== -/
def pr_Sh (h : ab_H) (R : Nat → Nat → Nat) (s : Nat) : Prop := s ≠ 0 ∧ ab_k h s = 8 ∧ R s 0 = s + 1 ∧ ab_k h (s + 1) = 20 ∧ ab_n h (s + 1) = 40
def sh_z (I : Nat → Nat → Int32) (s k : Nat) : Nat → Nat → Int32 := fun a j => if a = s + 1 ∧ j < k then 0 else I a j
theorem sh_z_s {I : Nat → Nat → Int32} {s k : Nat} : ab_u (sh_z I s k) (s + 1) k 0 = sh_z I s (k + 1) := by
  funext a j
  unfold ab_u sh_z
  by_cases h1 : a = s + 1 ∧ j = k
  · rw [if_pos h1, if_pos (by omega)]
  · rw [if_neg h1]
    by_cases h2 : a = s + 1 ∧ j < k
    · rw [if_pos h2, if_pos (by omega)]
    · rw [if_neg h2, if_neg (by omega)]
def sh_new (I : Nat → Nat → Int32) (s : Nat) (ln sz : Int32) : Nat → Nat → Int32 := sh_z (ab_u (ab_u (ab_u I s 1 1) s 2 ln) s 3 sz) s 40
theorem c_begin {s : Nat} (ln sz : Int32) (h : ab_H) (M : ab_M) (hs : pr_Sh h M.2.2 s) : pr_C pX7_begin [.ref s, .int ln, .int sz] h M none h (sh_new M.1 s ln sz, M.2.1, M.2.2) := by
  obtain ⟨s0, s1, r0, k1, k2⟩ := id hs
  have loop : ∀ I : Nat → Nat → Int32, ∀ dd k, k + dd = 40 → pr_E pX7_begin 17 [some (.ref s), some (.int ln), some (.int sz), some (.int (nI k))] [] h (sh_z I s k, M.2.1, M.2.2) none h (sh_z I s 40, M.2.1, M.2.2) := by
    intro I dd
    induction dd with
    | zero =>
      intro k hk
      obtain rfl : k = 40 := by omega
      have e1 : (40 : Int32) ≤ nI 40 := by decide
      refine pr_seq (pc' := 20) 2 rfl ⟨⟨trivial, trivial⟩, trivial⟩ ?_
      refine pr_ic rfl (fun h20 => ?_) (fun h20 => ?_)
      · simp only [ab_cmp, pr_8_40, pr_i_0, pr_i_1] at h20
        exact pr_vrM rfl rfl rfl (by rfl)
      · simp only [ab_cmp, pr_8_40, pr_i_0, pr_i_1] at h20
        exact absurd e1 h20
    | succ dd ih =>
      intro k hk
      have e1 : ¬ (40 : Int32) ≤ nI k := nI_ge (show k < 40 by omega) (by decide)
      have e3 : (nI k).toNatClampNeg = k := nI_clamp (by omega)
      have v1 : vp_in (nI k) (ab_n h (s + 1)) := by rw [k2]; exact vp_in_nI (by omega) (by decide)
      have hh := ih (k + 1) (by omega)
      rw [← sh_z_s, ← nI_1] at hh
      refine pr_seq (pc' := 20) 2 rfl ⟨⟨trivial, trivial⟩, trivial⟩ ?_
      try simp only [r0, e3, pr_8_40, pr_i_0, pr_i_1]
      refine pr_ic rfl (fun h20 => ?_) (fun h20 => ?_)
      · simp only [ab_cmp, pr_8_40, pr_i_0, pr_i_1] at h20
        exact absurd h20 e1
      · simp only [ab_cmp, pr_8_40, pr_i_0, pr_i_1] at h20
        refine pr_seq (pc' := 17) 7 rfl ⟨⟨⟨⟨⟨⟨⟨trivial, (by first | assumption | decide | omega | exact ⟨Or.inl (by assumption), by assumption⟩ | exact ⟨by assumption, by assumption⟩ | (simp only [r0, e3, pr_8_40, pr_i_0, pr_i_1]; first | assumption | omega | exact ⟨by assumption, by assumption⟩ | exact ⟨Or.inl (by assumption), by assumption⟩))⟩, (by first | assumption | decide | omega | exact ⟨Or.inl (by assumption), by assumption⟩ | exact ⟨by assumption, by assumption⟩ | (simp only [r0, e3, pr_8_40, pr_i_0, pr_i_1]; first | assumption | omega | exact ⟨by assumption, by assumption⟩ | exact ⟨Or.inl (by assumption), by assumption⟩))⟩, trivial⟩, trivial⟩, (by first | assumption | decide | omega | exact ⟨Or.inl (by assumption), by assumption⟩ | exact ⟨by assumption, by assumption⟩ | (simp only [r0, e3, pr_8_40, pr_i_0, pr_i_1]; first | assumption | omega | exact ⟨by assumption, by assumption⟩ | exact ⟨Or.inl (by assumption), by assumption⟩))⟩, trivial⟩, trivial⟩ ?_
        try simp only [r0, e3, pr_8_40, pr_i_0, pr_i_1]
        exact hh
  have h0 := loop (ab_u (ab_u (ab_u M.1 s 1 1) s 2 ln) s 3 sz) 40 0 (by omega)
  rw [show sh_z (ab_u (ab_u (ab_u M.1 s 1 1) s 2 ln) s 3 sz) s 0 = ab_u (ab_u (ab_u M.1 s 1 1) s 2 ln) s 3 sz by funext a j; unfold sh_z; rw [if_neg (by omega)]] at h0
  refine pr_seq (pc' := 17) 11 rfl ⟨⟨⟨⟨⟨⟨⟨⟨⟨⟨⟨trivial, (by first | assumption | decide | omega | exact ⟨Or.inl (by assumption), by assumption⟩ | exact ⟨by assumption, by assumption⟩)⟩, trivial⟩, (by exact ⟨s1, Or.inr rfl⟩)⟩, (by first | assumption | decide | omega | exact ⟨Or.inl (by assumption), by assumption⟩ | exact ⟨by assumption, by assumption⟩)⟩, trivial⟩, (by first | assumption | decide | omega | exact ⟨Or.inl (by assumption), by assumption⟩ | exact ⟨by assumption, by assumption⟩)⟩, (by first | assumption | decide | omega | exact ⟨Or.inl (by assumption), by assumption⟩ | exact ⟨by assumption, by assumption⟩)⟩, trivial⟩, (by first | assumption | decide | omega | exact ⟨Or.inl (by assumption), by assumption⟩ | exact ⟨by assumption, by assumption⟩)⟩, trivial⟩, trivial⟩ ?_
  exact h0
/-- the fault at a cell: 0 none, 1 nothing there, 2 outside -/
def sh_f (th : Bool) (n : Nat) (x : Int32) : Int32 := if th then (if x < 0 then 2 else if nI n ≤ x then 2 else 0) else 1
theorem c_faultAt {s n : Nat} {th : Bool} (x : Int32) (h : ab_H) (M : ab_M) (s0 : s ≠ 0) (s1 : ab_k h s = 8) (ht : M.1 s 1 = pr_b th) (hn : th = true → M.1 s 3 = nI n) : pr_C pX7_faultAt [.ref s, .int x] h M (some (.int (sh_f th n x))) h M := by
  unfold sh_f
  cases th with
  | false =>
    have y1 : M.1 s 1 = 0 := ht
    refine pr_seq (pc' := 4) 2 rfl ⟨⟨trivial, (by first | assumption | decide | omega | exact ⟨Or.inl (by assumption), by assumption⟩ | exact ⟨by assumption, by assumption⟩ | (simp only [y1, pr_i_0, pr_i_1, pr_i_2]; first | assumption | omega | exact ⟨by assumption, by assumption⟩ | exact ⟨Or.inl (by assumption), by assumption⟩))⟩, (by first | assumption | decide | omega | exact ⟨Or.inl (by assumption), by assumption⟩ | exact ⟨by assumption, by assumption⟩ | (simp only [y1, pr_i_0, pr_i_1, pr_i_2]; first | assumption | omega | exact ⟨by assumption, by assumption⟩ | exact ⟨Or.inl (by assumption), by assumption⟩))⟩ ?_
    try simp only [y1, pr_i_0, pr_i_1, pr_i_2]
    refine pr_if rfl (fun h4 => ?_) (fun h4 => ?_)
    · simp only [ab_cmp, pr_i_0, pr_i_1, pr_i_2] at h4
      exact absurd trivial h4
    · simp only [ab_cmp, pr_i_0, pr_i_1, pr_i_2] at h4
      refine pr_seq (pc' := 8) 1 rfl ⟨trivial, trivial⟩ ?_
      try simp only [y1, pr_i_0, pr_i_1, pr_i_2]
      exact pr_irM rfl (by rfl) trivial (by rfl)
  | true =>
    have y1 : M.1 s 1 = 1 := ht
    have y2 := hn rfl
    rw [if_pos rfl]
    by_cases t1 : x < 0
    · rw [if_pos t1]
      refine pr_seq (pc' := 4) 2 rfl ⟨⟨trivial, (by first | assumption | decide | omega | exact ⟨Or.inl (by assumption), by assumption⟩ | exact ⟨by assumption, by assumption⟩ | (simp only [y1, y2, pr_i_0, pr_i_1, pr_i_2]; first | assumption | omega | exact ⟨by assumption, by assumption⟩ | exact ⟨Or.inl (by assumption), by assumption⟩))⟩, (by first | assumption | decide | omega | exact ⟨Or.inl (by assumption), by assumption⟩ | exact ⟨by assumption, by assumption⟩ | (simp only [y1, y2, pr_i_0, pr_i_1, pr_i_2]; first | assumption | omega | exact ⟨by assumption, by assumption⟩ | exact ⟨Or.inl (by assumption), by assumption⟩))⟩ ?_
      try simp only [y1, y2, pr_i_0, pr_i_1, pr_i_2]
      refine pr_if rfl (fun h4 => ?_) (fun h4 => ?_)
      · simp only [ab_cmp, pr_i_0, pr_i_1, pr_i_2] at h4
        refine pr_seq (pc' := 10) 1 rfl ⟨trivial, trivial⟩ ?_
        try simp only [y1, y2, pr_i_0, pr_i_1, pr_i_2]
        refine pr_if rfl (fun h10 => ?_) (fun h10 => ?_)
        · simp only [ab_cmp, pr_i_0, pr_i_1, pr_i_2] at h10
          refine pr_seq (pc' := 26) 1 rfl ⟨trivial, trivial⟩ ?_
          try simp only [y1, y2, pr_i_0, pr_i_1, pr_i_2]
          exact pr_irM rfl (by rfl) trivial (by rfl)
        · simp only [ab_cmp, pr_i_0, pr_i_1, pr_i_2] at h10
          exact absurd t1 h10
      · simp only [ab_cmp, pr_i_0, pr_i_1, pr_i_2] at h4
        exact absurd (Classical.not_not.mp h4) (by decide)
    · rw [if_neg t1]
      by_cases t2 : nI n ≤ x
      · rw [if_pos t2]
        refine pr_seq (pc' := 4) 2 rfl ⟨⟨trivial, (by first | assumption | decide | omega | exact ⟨Or.inl (by assumption), by assumption⟩ | exact ⟨by assumption, by assumption⟩ | (simp only [y1, y2, pr_i_0, pr_i_1, pr_i_2]; first | assumption | omega | exact ⟨by assumption, by assumption⟩ | exact ⟨Or.inl (by assumption), by assumption⟩))⟩, (by first | assumption | decide | omega | exact ⟨Or.inl (by assumption), by assumption⟩ | exact ⟨by assumption, by assumption⟩ | (simp only [y1, y2, pr_i_0, pr_i_1, pr_i_2]; first | assumption | omega | exact ⟨by assumption, by assumption⟩ | exact ⟨Or.inl (by assumption), by assumption⟩))⟩ ?_
        try simp only [y1, y2, pr_i_0, pr_i_1, pr_i_2]
        refine pr_if rfl (fun h4 => ?_) (fun h4 => ?_)
        · simp only [ab_cmp, pr_i_0, pr_i_1, pr_i_2] at h4
          refine pr_seq (pc' := 10) 1 rfl ⟨trivial, trivial⟩ ?_
          try simp only [y1, y2, pr_i_0, pr_i_1, pr_i_2]
          refine pr_if rfl (fun h10 => ?_) (fun h10 => ?_)
          · simp only [ab_cmp, pr_i_0, pr_i_1, pr_i_2] at h10
            exact absurd h10 t1
          · simp only [ab_cmp, pr_i_0, pr_i_1, pr_i_2] at h10
            refine pr_seq (pc' := 18) 3 rfl ⟨⟨⟨trivial, trivial⟩, (by first | assumption | decide | omega | exact ⟨Or.inl (by assumption), by assumption⟩ | exact ⟨by assumption, by assumption⟩ | (simp only [y1, y2, pr_i_0, pr_i_1, pr_i_2]; first | assumption | omega | exact ⟨by assumption, by assumption⟩ | exact ⟨Or.inl (by assumption), by assumption⟩))⟩, (by first | assumption | decide | omega | exact ⟨Or.inl (by assumption), by assumption⟩ | exact ⟨by assumption, by assumption⟩ | (simp only [y1, y2, pr_i_0, pr_i_1, pr_i_2]; first | assumption | omega | exact ⟨by assumption, by assumption⟩ | exact ⟨Or.inl (by assumption), by assumption⟩))⟩ ?_
            try simp only [y1, y2, pr_i_0, pr_i_1, pr_i_2]
            refine pr_ic rfl (fun h18 => ?_) (fun h18 => ?_)
            · simp only [ab_cmp, pr_i_0, pr_i_1, pr_i_2] at h18
              refine pr_seq (pc' := 26) 1 rfl ⟨trivial, trivial⟩ ?_
              try simp only [y1, y2, pr_i_0, pr_i_1, pr_i_2]
              exact pr_irM rfl (by rfl) trivial (by rfl)
            · simp only [ab_cmp, pr_i_0, pr_i_1, pr_i_2] at h18
              exact absurd t2 h18
        · simp only [ab_cmp, pr_i_0, pr_i_1, pr_i_2] at h4
          exact absurd (Classical.not_not.mp h4) (by decide)
      · rw [if_neg t2]
        refine pr_seq (pc' := 4) 2 rfl ⟨⟨trivial, (by first | assumption | decide | omega | exact ⟨Or.inl (by assumption), by assumption⟩ | exact ⟨by assumption, by assumption⟩ | (simp only [y1, y2, pr_i_0, pr_i_1, pr_i_2]; first | assumption | omega | exact ⟨by assumption, by assumption⟩ | exact ⟨Or.inl (by assumption), by assumption⟩))⟩, (by first | assumption | decide | omega | exact ⟨Or.inl (by assumption), by assumption⟩ | exact ⟨by assumption, by assumption⟩ | (simp only [y1, y2, pr_i_0, pr_i_1, pr_i_2]; first | assumption | omega | exact ⟨by assumption, by assumption⟩ | exact ⟨Or.inl (by assumption), by assumption⟩))⟩ ?_
        try simp only [y1, y2, pr_i_0, pr_i_1, pr_i_2]
        refine pr_if rfl (fun h4 => ?_) (fun h4 => ?_)
        · simp only [ab_cmp, pr_i_0, pr_i_1, pr_i_2] at h4
          refine pr_seq (pc' := 10) 1 rfl ⟨trivial, trivial⟩ ?_
          try simp only [y1, y2, pr_i_0, pr_i_1, pr_i_2]
          refine pr_if rfl (fun h10 => ?_) (fun h10 => ?_)
          · simp only [ab_cmp, pr_i_0, pr_i_1, pr_i_2] at h10
            exact absurd h10 t1
          · simp only [ab_cmp, pr_i_0, pr_i_1, pr_i_2] at h10
            refine pr_seq (pc' := 18) 3 rfl ⟨⟨⟨trivial, trivial⟩, (by first | assumption | decide | omega | exact ⟨Or.inl (by assumption), by assumption⟩ | exact ⟨by assumption, by assumption⟩ | (simp only [y1, y2, pr_i_0, pr_i_1, pr_i_2]; first | assumption | omega | exact ⟨by assumption, by assumption⟩ | exact ⟨Or.inl (by assumption), by assumption⟩))⟩, (by first | assumption | decide | omega | exact ⟨Or.inl (by assumption), by assumption⟩ | exact ⟨by assumption, by assumption⟩ | (simp only [y1, y2, pr_i_0, pr_i_1, pr_i_2]; first | assumption | omega | exact ⟨by assumption, by assumption⟩ | exact ⟨Or.inl (by assumption), by assumption⟩))⟩ ?_
            try simp only [y1, y2, pr_i_0, pr_i_1, pr_i_2]
            refine pr_ic rfl (fun h18 => ?_) (fun h18 => ?_)
            · simp only [ab_cmp, pr_i_0, pr_i_1, pr_i_2] at h18
              exact absurd h18 t2
            · simp only [ab_cmp, pr_i_0, pr_i_1, pr_i_2] at h18
              refine pr_seq (pc' := 26) 2 rfl ⟨⟨trivial, trivial⟩, trivial⟩ ?_
              try simp only [y1, y2, pr_i_0, pr_i_1, pr_i_2]
              exact pr_irM rfl (by rfl) trivial (by rfl)
        · simp only [ab_cmp, pr_i_0, pr_i_1, pr_i_2] at h4
          exact absurd (Classical.not_not.mp h4) (by decide)
