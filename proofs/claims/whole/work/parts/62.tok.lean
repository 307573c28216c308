
/-! ===== the text: tokens ===== -/
theorem sb_lo : ∀ v, v < 128 → (nI v).toInt8.toInt32 = nI v := by
  have : ∀ v : Fin 128, (nI v.val).toInt8.toInt32 = nI v.val := by decide
  exact fun v h => this ⟨v, h⟩
theorem sb_hi : ∀ v, 128 ≤ v → v < 256 → (nI v).toInt8.toInt32 < 0 := by
  have : ∀ v : Fin 256, 128 ≤ v.val → (nI v.val).toInt8.toInt32 < 0 := by decide +kernel
  exact fun v h1 h2 => this ⟨v, h2⟩ h1
theorem sb_range {v lo hi : Nat} (hv : v < 256) (hlo : lo < 128) (hhi : hi < 128) : (¬ (nI v).toInt8.toInt32 < nI lo ∧ ¬ nI hi < (nI v).toInt8.toInt32) ↔ lo ≤ v ∧ v ≤ hi := by
  by_cases c : v < 128
  · rw [sb_lo v c, nI_ltI (by omega) (by omega), nI_ltI (by omega) (by omega)]
    omega
  · have h1 := sb_hi v (by omega) hv
    constructor
    · intro q
      exfalso
      refine q.1 (Int32.lt_iff_toInt_lt.mpr ?_)
      have h2 := Int32.lt_iff_toInt_lt.mp h1
      rw [nI_toInt (by omega)]
      have h3 : (0 : Int32).toInt = 0 := rfl
      omega
    · intro q; omega
def pr_Rd (h : ab_H) (R : Nat → Nat → Nat) (t : Nat) : Prop := ab_k h 4 = 7 ∧ R 4 0 = 2 ∧ R 4 1 = 5 ∧ R 4 2 = t ∧ (ab_k h 2 = 9 ∧ R 2 0 = 3 ∧ ab_k h 3 = 21 ∧ ab_n h 3 = 320) ∧ ab_k h 5 = 22 ∧ ab_n h 5 = 26
def sb (w : List Nat) (p : Nat) : Int32 := (nI (w.getD p 0)).toInt8.toInt32
theorem c_byteAt {t p : Nat} {w : List Nat} (h : ab_H) (M : ab_M) (hr : pr_Rd h M.2.2 t) (hw : tp_v M.1 w) (hp : p < 2 ^ 31) : pr_C pX6_byteAt [.ref 4, .int (nI p)] h M (some (.int (if p < w.length then sb w p else 0))) h M := by
  obtain ⟨k4, r0, r1, r2, ⟨k2, s0, k3, l3⟩, k5, l5⟩ := id hr
  obtain ⟨w1, w2, w3⟩ := id hw
  have n4 : (4 : Nat) ≠ 0 := by decide
  have n2 : (2 : Nat) ≠ 0 := by decide
  have e0 : ¬ nI p < 0 := nI_pos hp
  by_cases c : p < w.length
  · rw [if_pos c]
    have e1 : ¬ nI w.length ≤ nI p := nI_ge c (by omega)
    have e3 : (nI p).toNatClampNeg = p := nI_clamp hp
    have x1 := (w3 p c).1
    have v1 : (ab_k h 3 = 21 ∨ ab_k h 3 = 22) ∧ vp_in (nI p) (ab_n h 3) := ⟨Or.inl k3, by rw [l3]; exact vp_in_nI (by omega) (by decide)⟩
    refine pr_seq (pc' := 1) 1 rfl ⟨trivial, trivial⟩ ?_
    try simp only [r0, s0, w1, e3, x1, pr_i_0]
    refine pr_if rfl (fun h1 => ?_) (fun h1 => ?_)
    · simp only [ab_cmp, pr_i_0] at h1
      first
      | contradiction
      | exact absurd trivial h1
      | exact absurd h1 (by decide)
      | exact absurd (Classical.not_not.mp h1) (by decide)
      | skip
        refine pr_seq (pc' := 28) 1 rfl ⟨trivial, trivial⟩ ?_
        try simp only [r0, s0, w1, e3, x1, pr_i_0]
        exact pr_irM rfl (by rfl) trivial (by rfl)
    · simp only [ab_cmp, pr_i_0] at h1
      first
      | contradiction
      | exact absurd trivial h1
      | exact absurd h1 (by decide)
      | exact absurd (Classical.not_not.mp h1) (by decide)
      | skip
        refine pr_seq (pc' := 12) 4 rfl ⟨⟨⟨⟨trivial, trivial⟩, (by first | assumption | (simp only [r0, s0, w1, e3, x1, pr_i_0]; first | assumption | decide | exact ⟨by assumption, by assumption⟩ | exact ⟨Or.inl (by assumption), by assumption⟩ | omega) | decide | exact ⟨Or.inl (by assumption), by assumption⟩ | exact ⟨by assumption, by assumption⟩ | omega)⟩, (by first | assumption | (simp only [r0, s0, w1, e3, x1, pr_i_0]; first | assumption | decide | exact ⟨by assumption, by assumption⟩ | exact ⟨Or.inl (by assumption), by assumption⟩ | omega) | decide | exact ⟨Or.inl (by assumption), by assumption⟩ | exact ⟨by assumption, by assumption⟩ | omega)⟩, (by first | assumption | (simp only [r0, s0, w1, e3, x1, pr_i_0]; first | assumption | decide | exact ⟨by assumption, by assumption⟩ | exact ⟨Or.inl (by assumption), by assumption⟩ | omega) | decide | exact ⟨Or.inl (by assumption), by assumption⟩ | exact ⟨by assumption, by assumption⟩ | omega)⟩ ?_
        try simp only [r0, s0, w1, e3, x1, pr_i_0]
        refine pr_ic rfl (fun h12 => ?_) (fun h12 => ?_)
        · simp only [ab_cmp, pr_i_0] at h12
          first
          | contradiction
          | exact absurd trivial h12
          | exact absurd h12 (by decide)
          | exact absurd (Classical.not_not.mp h12) (by decide)
          | skip
            refine pr_seq (pc' := 28) 1 rfl ⟨trivial, trivial⟩ ?_
            try simp only [r0, s0, w1, e3, x1, pr_i_0]
            exact pr_irM rfl (by rfl) trivial (by rfl)
        · simp only [ab_cmp, pr_i_0] at h12
          first
          | contradiction
          | exact absurd trivial h12
          | exact absurd h12 (by decide)
          | exact absurd (Classical.not_not.mp h12) (by decide)
          | skip
            refine pr_seq (pc' := 28) 6 rfl ⟨⟨⟨⟨⟨⟨trivial, (by first | assumption | (simp only [r0, s0, w1, e3, x1, pr_i_0]; first | assumption | decide | exact ⟨by assumption, by assumption⟩ | exact ⟨Or.inl (by assumption), by assumption⟩ | omega) | decide | exact ⟨Or.inl (by assumption), by assumption⟩ | exact ⟨by assumption, by assumption⟩ | omega)⟩, (by first | assumption | (simp only [r0, s0, w1, e3, x1, pr_i_0]; first | assumption | decide | exact ⟨by assumption, by assumption⟩ | exact ⟨Or.inl (by assumption), by assumption⟩ | omega) | decide | exact ⟨Or.inl (by assumption), by assumption⟩ | exact ⟨by assumption, by assumption⟩ | omega)⟩, (by first | assumption | (simp only [r0, s0, w1, e3, x1, pr_i_0]; first | assumption | decide | exact ⟨by assumption, by assumption⟩ | exact ⟨Or.inl (by assumption), by assumption⟩ | omega) | decide | exact ⟨Or.inl (by assumption), by assumption⟩ | exact ⟨by assumption, by assumption⟩ | omega)⟩, trivial⟩, (by first | assumption | (simp only [r0, s0, w1, e3, x1, pr_i_0]; first | assumption | decide | exact ⟨by assumption, by assumption⟩ | exact ⟨Or.inl (by assumption), by assumption⟩ | omega) | decide | exact ⟨Or.inl (by assumption), by assumption⟩ | exact ⟨by assumption, by assumption⟩ | omega)⟩, trivial⟩ ?_
            try simp only [r0, s0, w1, e3, x1, pr_i_0]
            exact pr_irM rfl (by rfl) trivial (by rfl)
  · rw [if_neg c]
    have e1 : nI w.length ≤ nI p := nI_le (by omega) hp
    refine pr_seq (pc' := 1) 1 rfl ⟨trivial, trivial⟩ ?_
    try simp only [r0, s0, w1, pr_i_0]
    refine pr_if rfl (fun h1 => ?_) (fun h1 => ?_)
    · simp only [ab_cmp, pr_i_0] at h1
      first
      | contradiction
      | exact absurd trivial h1
      | exact absurd h1 (by decide)
      | exact absurd (Classical.not_not.mp h1) (by decide)
      | skip
        refine pr_seq (pc' := 28) 1 rfl ⟨trivial, trivial⟩ ?_
        try simp only [r0, s0, w1, pr_i_0]
        exact pr_irM rfl (by first | rfl | (simp only [r0, s0, w1, pr_i_0]; done) | (simp [pr_b, pr_i_0, *]; done) | (simp_all [pr_b, pr_i_0]; done)) trivial (by rfl)
    · simp only [ab_cmp, pr_i_0] at h1
      first
      | contradiction
      | exact absurd trivial h1
      | exact absurd h1 (by decide)
      | exact absurd (Classical.not_not.mp h1) (by decide)
      | skip
        refine pr_seq (pc' := 12) 4 rfl ⟨⟨⟨⟨trivial, trivial⟩, (by first | assumption | (simp only [r0, s0, w1, pr_i_0]; first | assumption | decide | exact ⟨by assumption, by assumption⟩ | exact ⟨Or.inl (by assumption), by assumption⟩ | omega) | decide | exact ⟨Or.inl (by assumption), by assumption⟩ | exact ⟨by assumption, by assumption⟩ | omega)⟩, (by first | assumption | (simp only [r0, s0, w1, pr_i_0]; first | assumption | decide | exact ⟨by assumption, by assumption⟩ | exact ⟨Or.inl (by assumption), by assumption⟩ | omega) | decide | exact ⟨Or.inl (by assumption), by assumption⟩ | exact ⟨by assumption, by assumption⟩ | omega)⟩, (by first | assumption | (simp only [r0, s0, w1, pr_i_0]; first | assumption | decide | exact ⟨by assumption, by assumption⟩ | exact ⟨Or.inl (by assumption), by assumption⟩ | omega) | decide | exact ⟨Or.inl (by assumption), by assumption⟩ | exact ⟨by assumption, by assumption⟩ | omega)⟩ ?_
        try simp only [r0, s0, w1, pr_i_0]
        refine pr_ic rfl (fun h12 => ?_) (fun h12 => ?_)
        · simp only [ab_cmp, pr_i_0] at h12
          first
          | contradiction
          | exact absurd trivial h12
          | exact absurd h12 (by decide)
          | exact absurd (Classical.not_not.mp h12) (by decide)
          | skip
            refine pr_seq (pc' := 28) 1 rfl ⟨trivial, trivial⟩ ?_
            try simp only [r0, s0, w1, pr_i_0]
            exact pr_irM rfl (by first | rfl | (simp only [r0, s0, w1, pr_i_0]; done) | (simp [pr_b, pr_i_0, *]; done) | (simp_all [pr_b, pr_i_0]; done)) trivial (by rfl)
        · simp only [ab_cmp, pr_i_0] at h12
          first
          | contradiction
          | exact absurd trivial h12
          | exact absurd h12 (by decide)
          | exact absurd (Classical.not_not.mp h12) (by decide)
          | skip
            refine pr_seq (pc' := 28) 6 rfl ⟨⟨⟨⟨⟨⟨trivial, (by first | assumption | (simp only [r0, s0, w1, pr_i_0]; first | assumption | decide | exact ⟨by assumption, by assumption⟩ | exact ⟨Or.inl (by assumption), by assumption⟩ | omega) | decide | exact ⟨Or.inl (by assumption), by assumption⟩ | exact ⟨by assumption, by assumption⟩ | omega)⟩, (by first | assumption | (simp only [r0, s0, w1, pr_i_0]; first | assumption | decide | exact ⟨by assumption, by assumption⟩ | exact ⟨Or.inl (by assumption), by assumption⟩ | omega) | decide | exact ⟨Or.inl (by assumption), by assumption⟩ | exact ⟨by assumption, by assumption⟩ | omega)⟩, (by first | assumption | (simp only [r0, s0, w1, pr_i_0]; first | assumption | decide | exact ⟨by assumption, by assumption⟩ | exact ⟨Or.inl (by assumption), by assumption⟩ | omega) | decide | exact ⟨Or.inl (by assumption), by assumption⟩ | exact ⟨by assumption, by assumption⟩ | omega)⟩, trivial⟩, (by first | assumption | (simp only [r0, s0, w1, pr_i_0]; first | assumption | decide | exact ⟨by assumption, by assumption⟩ | exact ⟨Or.inl (by assumption), by assumption⟩ | omega) | decide | exact ⟨Or.inl (by assumption), by assumption⟩ | exact ⟨by assumption, by assumption⟩ | omega)⟩, trivial⟩ ?_
            try simp only [r0, s0, w1, pr_i_0]
            exact pr_irM rfl (by first | rfl | (simp only [r0, s0, w1, pr_i_0]; done) | (simp [pr_b, pr_i_0, *]; done) | (simp_all [pr_b, pr_i_0]; done)) trivial (by rfl)
theorem c_endOfRun {t p lo hi : Nat} {w : List Nat} (h : ab_H) (M : ab_M) (hr : pr_Rd h M.2.2 t) (hw : tp_v M.1 w) (hp : p ≤ w.length) (hlo : lo < 128) (hhi : hi < 128) : pr_C pX6_endOfRun [.ref 4, .int (nI p), .int (nI lo), .int (nI hi)] h M (some (.int (nI (re w lo hi p)))) h M := by
  obtain ⟨k4, r0, r1, r2, ⟨k2, s0, k3, l3⟩, k5, l5⟩ := id hr
  obtain ⟨w1, w2, w3⟩ := id hw
  have n4 : (4 : Nat) ≠ 0 := by decide
  have n2 : (2 : Nat) ≠ 0 := by decide
  have loop : ∀ f q, q ≤ w.length → w.length ≤ q + f → pr_E pX6_endOfRun 3 [some (.ref 4), some (.int (nI p)), some (.int (nI lo)), some (.int (nI hi)), some (.int (nI q))] [] h M (some (.int (nI (runE w lo hi f q)))) h M := by
    intro f
    induction f with
    | zero =>
      intro q hq hf
      obtain rfl : q = w.length := by omega
      have e0 : ¬ nI w.length < 0 := nI_pos (by omega)
      have e1 : nI w.length ≤ nI w.length := nI_le (Nat.le_refl _) (by omega)
      unfold runE
      refine pr_seq (pc' := 5) 1 rfl ⟨trivial, trivial⟩ ?_
      try simp only [r0, s0, w1, pr_i_1]
      refine pr_if rfl (fun h5 => ?_) (fun h5 => ?_)
      · simp only [ab_cmp, pr_i_1] at h5
        first
        | contradiction
        | exact absurd trivial h5
        | exact absurd h5 (by decide)
        | exact absurd (Classical.not_not.mp h5) (by decide)
        | skip
          refine pr_seq (pc' := 56) 1 rfl ⟨trivial, trivial⟩ ?_
          try simp only [r0, s0, w1, pr_i_1]
          exact pr_irM rfl (by rfl) trivial (by rfl)
      · simp only [ab_cmp, pr_i_1] at h5
        first
        | contradiction
        | exact absurd trivial h5
        | exact absurd h5 (by decide)
        | exact absurd (Classical.not_not.mp h5) (by decide)
        | skip
          refine pr_seq (pc' := 17) 4 rfl ⟨⟨⟨⟨trivial, trivial⟩, (by first | assumption | (simp only [r0, s0, w1, pr_i_1]; first | assumption | decide | exact ⟨by assumption, by assumption⟩ | exact ⟨Or.inl (by assumption), by assumption⟩ | omega) | decide | exact ⟨Or.inl (by assumption), by assumption⟩ | exact ⟨by assumption, by assumption⟩ | omega)⟩, (by first | assumption | (simp only [r0, s0, w1, pr_i_1]; first | assumption | decide | exact ⟨by assumption, by assumption⟩ | exact ⟨Or.inl (by assumption), by assumption⟩ | omega) | decide | exact ⟨Or.inl (by assumption), by assumption⟩ | exact ⟨by assumption, by assumption⟩ | omega)⟩, (by first | assumption | (simp only [r0, s0, w1, pr_i_1]; first | assumption | decide | exact ⟨by assumption, by assumption⟩ | exact ⟨Or.inl (by assumption), by assumption⟩ | omega) | decide | exact ⟨Or.inl (by assumption), by assumption⟩ | exact ⟨by assumption, by assumption⟩ | omega)⟩ ?_
          try simp only [r0, s0, w1, pr_i_1]
          refine pr_ic rfl (fun h17 => ?_) (fun h17 => ?_)
          · simp only [ab_cmp, pr_i_1] at h17
            first
            | contradiction
            | exact absurd trivial h17
            | exact absurd h17 (by decide)
            | exact absurd (Classical.not_not.mp h17) (by decide)
            | skip
              refine pr_seq (pc' := 56) 1 rfl ⟨trivial, trivial⟩ ?_
              try simp only [r0, s0, w1, pr_i_1]
              exact pr_irM rfl (by rfl) trivial (by rfl)
          · simp only [ab_cmp, pr_i_1] at h17
            first
            | contradiction
            | exact absurd trivial h17
            | exact absurd h17 (by decide)
            | exact absurd (Classical.not_not.mp h17) (by decide)
            | skip
              fail
    | succ f ih =>
      intro q hq hf
      have e0 : ¬ nI q < 0 := nI_pos (by omega)
      unfold runE
      by_cases c : q < w.length
      · have e1 : ¬ nI w.length ≤ nI q := nI_ge c (by omega)
        have e3 : (nI q).toNatClampNeg = q := nI_clamp (by omega)
        obtain ⟨x1, x2⟩ := w3 q c
        have x1 : M.1 3 q = sb w q := x1
        have v1 : (ab_k h 3 = 21 ∨ ab_k h 3 = 22) ∧ vp_in (nI q) (ab_n h 3) := ⟨Or.inl k3, by rw [l3]; exact vp_in_nI (by omega) (by decide)⟩
        have hrg := sb_range (lo := lo) (hi := hi) x2 hlo hhi
        by_cases i : inR w lo hi q = true
        · rw [if_pos i]
          have hi' := hrg.mpr (inR_iff.mp i).2
          have y1 : ¬ sb w q < nI lo := hi'.1
          have y2 : ¬ nI hi < sb w q := hi'.2
          have hh := ih (q + 1) (by omega) (by omega)
          rw [← nI_1] at hh
          refine pr_seq (pc' := 5) 1 rfl ⟨trivial, trivial⟩ ?_
          try simp only [r0, s0, w1, e3, x1, pr_i_1]
          refine pr_if rfl (fun h5 => ?_) (fun h5 => ?_)
          · simp only [ab_cmp, pr_i_1] at h5
            first
            | contradiction
            | exact absurd trivial h5
            | exact absurd h5 (by decide)
            | exact absurd (Classical.not_not.mp h5) (by decide)
            | skip
              fail
          · simp only [ab_cmp, pr_i_1] at h5
            first
            | contradiction
            | exact absurd trivial h5
            | exact absurd h5 (by decide)
            | exact absurd (Classical.not_not.mp h5) (by decide)
            | skip
              refine pr_seq (pc' := 17) 4 rfl ⟨⟨⟨⟨trivial, trivial⟩, (by first | assumption | (simp only [r0, s0, w1, e3, x1, pr_i_1]; first | assumption | decide | exact ⟨by assumption, by assumption⟩ | exact ⟨Or.inl (by assumption), by assumption⟩ | omega) | decide | exact ⟨Or.inl (by assumption), by assumption⟩ | exact ⟨by assumption, by assumption⟩ | omega)⟩, (by first | assumption | (simp only [r0, s0, w1, e3, x1, pr_i_1]; first | assumption | decide | exact ⟨by assumption, by assumption⟩ | exact ⟨Or.inl (by assumption), by assumption⟩ | omega) | decide | exact ⟨Or.inl (by assumption), by assumption⟩ | exact ⟨by assumption, by assumption⟩ | omega)⟩, (by first | assumption | (simp only [r0, s0, w1, e3, x1, pr_i_1]; first | assumption | decide | exact ⟨by assumption, by assumption⟩ | exact ⟨Or.inl (by assumption), by assumption⟩ | omega) | decide | exact ⟨Or.inl (by assumption), by assumption⟩ | exact ⟨by assumption, by assumption⟩ | omega)⟩ ?_
              try simp only [r0, s0, w1, e3, x1, pr_i_1]
              refine pr_ic rfl (fun h17 => ?_) (fun h17 => ?_)
              · simp only [ab_cmp, pr_i_1] at h17
                first
                | contradiction
                | exact absurd trivial h17
                | exact absurd h17 (by decide)
                | exact absurd (Classical.not_not.mp h17) (by decide)
                | skip
                  fail
              · simp only [ab_cmp, pr_i_1] at h17
                first
                | contradiction
                | exact absurd trivial h17
                | exact absurd h17 (by decide)
                | exact absurd (Classical.not_not.mp h17) (by decide)
                | skip
                  refine pr_seq (pc' := 31) 6 rfl ⟨⟨⟨⟨⟨⟨trivial, (by first | assumption | (simp only [r0, s0, w1, e3, x1, pr_i_1]; first | assumption | decide | exact ⟨by assumption, by assumption⟩ | exact ⟨Or.inl (by assumption), by assumption⟩ | omega) | decide | exact ⟨Or.inl (by assumption), by assumption⟩ | exact ⟨by assumption, by assumption⟩ | omega)⟩, (by first | assumption | (simp only [r0, s0, w1, e3, x1, pr_i_1]; first | assumption | decide | exact ⟨by assumption, by assumption⟩ | exact ⟨Or.inl (by assumption), by assumption⟩ | omega) | decide | exact ⟨Or.inl (by assumption), by assumption⟩ | exact ⟨by assumption, by assumption⟩ | omega)⟩, (by first | assumption | (simp only [r0, s0, w1, e3, x1, pr_i_1]; first | assumption | decide | exact ⟨by assumption, by assumption⟩ | exact ⟨Or.inl (by assumption), by assumption⟩ | omega) | decide | exact ⟨Or.inl (by assumption), by assumption⟩ | exact ⟨by assumption, by assumption⟩ | omega)⟩, trivial⟩, (by first | assumption | (simp only [r0, s0, w1, e3, x1, pr_i_1]; first | assumption | decide | exact ⟨by assumption, by assumption⟩ | exact ⟨Or.inl (by assumption), by assumption⟩ | omega) | decide | exact ⟨Or.inl (by assumption), by assumption⟩ | exact ⟨by assumption, by assumption⟩ | omega)⟩, trivial⟩ ?_
                  try simp only [r0, s0, w1, e3, x1, pr_i_1]
                  refine pr_ic rfl (fun h31 => ?_) (fun h31 => ?_)
                  · simp only [ab_cmp, pr_i_1] at h31
                    first
                    | contradiction
                    | exact absurd trivial h31
                    | exact absurd h31 (by decide)
                    | exact absurd (Classical.not_not.mp h31) (by decide)
                    | skip
                      fail
                  · simp only [ab_cmp, pr_i_1] at h31
                    first
                    | contradiction
                    | exact absurd trivial h31
                    | exact absurd h31 (by decide)
                    | exact absurd (Classical.not_not.mp h31) (by decide)
                    | skip
                      refine pr_seq (pc' := 45) 6 rfl ⟨⟨⟨⟨⟨⟨trivial, (by first | assumption | (simp only [r0, s0, w1, e3, x1, pr_i_1]; first | assumption | decide | exact ⟨by assumption, by assumption⟩ | exact ⟨Or.inl (by assumption), by assumption⟩ | omega) | decide | exact ⟨Or.inl (by assumption), by assumption⟩ | exact ⟨by assumption, by assumption⟩ | omega)⟩, (by first | assumption | (simp only [r0, s0, w1, e3, x1, pr_i_1]; first | assumption | decide | exact ⟨by assumption, by assumption⟩ | exact ⟨Or.inl (by assumption), by assumption⟩ | omega) | decide | exact ⟨Or.inl (by assumption), by assumption⟩ | exact ⟨by assumption, by assumption⟩ | omega)⟩, (by first | assumption | (simp only [r0, s0, w1, e3, x1, pr_i_1]; first | assumption | decide | exact ⟨by assumption, by assumption⟩ | exact ⟨Or.inl (by assumption), by assumption⟩ | omega) | decide | exact ⟨Or.inl (by assumption), by assumption⟩ | exact ⟨by assumption, by assumption⟩ | omega)⟩, trivial⟩, (by first | assumption | (simp only [r0, s0, w1, e3, x1, pr_i_1]; first | assumption | decide | exact ⟨by assumption, by assumption⟩ | exact ⟨Or.inl (by assumption), by assumption⟩ | omega) | decide | exact ⟨Or.inl (by assumption), by assumption⟩ | exact ⟨by assumption, by assumption⟩ | omega)⟩, trivial⟩ ?_
                      try simp only [r0, s0, w1, e3, x1, pr_i_1]
                      refine pr_ic rfl (fun h45 => ?_) (fun h45 => ?_)
                      · simp only [ab_cmp, pr_i_1] at h45
                        first
                        | contradiction
                        | exact absurd trivial h45
                        | exact absurd h45 (by decide)
                        | exact absurd (Classical.not_not.mp h45) (by decide)
                        | skip
                          fail
                      · simp only [ab_cmp, pr_i_1] at h45
                        first
                        | contradiction
                        | exact absurd trivial h45
                        | exact absurd h45 (by decide)
                        | exact absurd (Classical.not_not.mp h45) (by decide)
                        | skip
                          refine pr_seq (pc' := 3) 2 rfl ⟨⟨trivial, trivial⟩, trivial⟩ ?_
                          try simp only [r0, s0, w1, e3, x1, pr_i_1]
                          exact hh
        · rw [if_neg i]
          by_cases y1 : sb w q < nI lo
          · refine pr_seq (pc' := 5) 1 rfl ⟨trivial, trivial⟩ ?_
            try simp only [r0, s0, w1, e3, x1, pr_i_1]
            refine pr_if rfl (fun h5 => ?_) (fun h5 => ?_)
            · simp only [ab_cmp, pr_i_1] at h5
              first
              | contradiction
              | exact absurd trivial h5
              | exact absurd h5 (by decide)
              | exact absurd (Classical.not_not.mp h5) (by decide)
              | skip
                refine pr_seq (pc' := 56) 1 rfl ⟨trivial, trivial⟩ ?_
                try simp only [r0, s0, w1, e3, x1, pr_i_1]
                exact pr_irM rfl (by rfl) trivial (by rfl)
            · simp only [ab_cmp, pr_i_1] at h5
              first
              | contradiction
              | exact absurd trivial h5
              | exact absurd h5 (by decide)
              | exact absurd (Classical.not_not.mp h5) (by decide)
              | skip
                refine pr_seq (pc' := 17) 4 rfl ⟨⟨⟨⟨trivial, trivial⟩, (by first | assumption | (simp only [r0, s0, w1, e3, x1, pr_i_1]; first | assumption | decide | exact ⟨by assumption, by assumption⟩ | exact ⟨Or.inl (by assumption), by assumption⟩ | omega) | decide | exact ⟨Or.inl (by assumption), by assumption⟩ | exact ⟨by assumption, by assumption⟩ | omega)⟩, (by first | assumption | (simp only [r0, s0, w1, e3, x1, pr_i_1]; first | assumption | decide | exact ⟨by assumption, by assumption⟩ | exact ⟨Or.inl (by assumption), by assumption⟩ | omega) | decide | exact ⟨Or.inl (by assumption), by assumption⟩ | exact ⟨by assumption, by assumption⟩ | omega)⟩, (by first | assumption | (simp only [r0, s0, w1, e3, x1, pr_i_1]; first | assumption | decide | exact ⟨by assumption, by assumption⟩ | exact ⟨Or.inl (by assumption), by assumption⟩ | omega) | decide | exact ⟨Or.inl (by assumption), by assumption⟩ | exact ⟨by assumption, by assumption⟩ | omega)⟩ ?_
                try simp only [r0, s0, w1, e3, x1, pr_i_1]
                refine pr_ic rfl (fun h17 => ?_) (fun h17 => ?_)
                · simp only [ab_cmp, pr_i_1] at h17
                  first
                  | contradiction
                  | exact absurd trivial h17
                  | exact absurd h17 (by decide)
                  | exact absurd (Classical.not_not.mp h17) (by decide)
                  | skip
                    refine pr_seq (pc' := 56) 1 rfl ⟨trivial, trivial⟩ ?_
                    try simp only [r0, s0, w1, e3, x1, pr_i_1]
                    exact pr_irM rfl (by rfl) trivial (by rfl)
                · simp only [ab_cmp, pr_i_1] at h17
                  first
                  | contradiction
                  | exact absurd trivial h17
                  | exact absurd h17 (by decide)
                  | exact absurd (Classical.not_not.mp h17) (by decide)
                  | skip
                    refine pr_seq (pc' := 31) 6 rfl ⟨⟨⟨⟨⟨⟨trivial, (by first | assumption | (simp only [r0, s0, w1, e3, x1, pr_i_1]; first | assumption | decide | exact ⟨by assumption, by assumption⟩ | exact ⟨Or.inl (by assumption), by assumption⟩ | omega) | decide | exact ⟨Or.inl (by assumption), by assumption⟩ | exact ⟨by assumption, by assumption⟩ | omega)⟩, (by first | assumption | (simp only [r0, s0, w1, e3, x1, pr_i_1]; first | assumption | decide | exact ⟨by assumption, by assumption⟩ | exact ⟨Or.inl (by assumption), by assumption⟩ | omega) | decide | exact ⟨Or.inl (by assumption), by assumption⟩ | exact ⟨by assumption, by assumption⟩ | omega)⟩, (by first | assumption | (simp only [r0, s0, w1, e3, x1, pr_i_1]; first | assumption | decide | exact ⟨by assumption, by assumption⟩ | exact ⟨Or.inl (by assumption), by assumption⟩ | omega) | decide | exact ⟨Or.inl (by assumption), by assumption⟩ | exact ⟨by assumption, by assumption⟩ | omega)⟩, trivial⟩, (by first | assumption | (simp only [r0, s0, w1, e3, x1, pr_i_1]; first | assumption | decide | exact ⟨by assumption, by assumption⟩ | exact ⟨Or.inl (by assumption), by assumption⟩ | omega) | decide | exact ⟨Or.inl (by assumption), by assumption⟩ | exact ⟨by assumption, by assumption⟩ | omega)⟩, trivial⟩ ?_
                    try simp only [r0, s0, w1, e3, x1, pr_i_1]
                    refine pr_ic rfl (fun h31 => ?_) (fun h31 => ?_)
                    · simp only [ab_cmp, pr_i_1] at h31
                      first
                      | contradiction
                      | exact absurd trivial h31
                      | exact absurd h31 (by decide)
                      | exact absurd (Classical.not_not.mp h31) (by decide)
                      | skip
                        refine pr_seq (pc' := 56) 1 rfl ⟨trivial, trivial⟩ ?_
                        try simp only [r0, s0, w1, e3, x1, pr_i_1]
                        exact pr_irM rfl (by rfl) trivial (by rfl)
                    · simp only [ab_cmp, pr_i_1] at h31
                      first
                      | contradiction
                      | exact absurd trivial h31
                      | exact absurd h31 (by decide)
                      | exact absurd (Classical.not_not.mp h31) (by decide)
                      | skip
                        fail
          · have y2 : nI hi < sb w q := Classical.byContradiction fun z => i (inR_iff.mpr ⟨c, hrg.mp ⟨y1, z⟩⟩)
            refine pr_seq (pc' := 5) 1 rfl ⟨trivial, trivial⟩ ?_
            try simp only [r0, s0, w1, e3, x1, pr_i_1]
            refine pr_if rfl (fun h5 => ?_) (fun h5 => ?_)
            · simp only [ab_cmp, pr_i_1] at h5
              first
              | contradiction
              | exact absurd trivial h5
              | exact absurd h5 (by decide)
              | exact absurd (Classical.not_not.mp h5) (by decide)
              | skip
                refine pr_seq (pc' := 56) 1 rfl ⟨trivial, trivial⟩ ?_
                try simp only [r0, s0, w1, e3, x1, pr_i_1]
                exact pr_irM rfl (by rfl) trivial (by rfl)
            · simp only [ab_cmp, pr_i_1] at h5
              first
              | contradiction
              | exact absurd trivial h5
              | exact absurd h5 (by decide)
              | exact absurd (Classical.not_not.mp h5) (by decide)
              | skip
                refine pr_seq (pc' := 17) 4 rfl ⟨⟨⟨⟨trivial, trivial⟩, (by first | assumption | (simp only [r0, s0, w1, e3, x1, pr_i_1]; first | assumption | decide | exact ⟨by assumption, by assumption⟩ | exact ⟨Or.inl (by assumption), by assumption⟩ | omega) | decide | exact ⟨Or.inl (by assumption), by assumption⟩ | exact ⟨by assumption, by assumption⟩ | omega)⟩, (by first | assumption | (simp only [r0, s0, w1, e3, x1, pr_i_1]; first | assumption | decide | exact ⟨by assumption, by assumption⟩ | exact ⟨Or.inl (by assumption), by assumption⟩ | omega) | decide | exact ⟨Or.inl (by assumption), by assumption⟩ | exact ⟨by assumption, by assumption⟩ | omega)⟩, (by first | assumption | (simp only [r0, s0, w1, e3, x1, pr_i_1]; first | assumption | decide | exact ⟨by assumption, by assumption⟩ | exact ⟨Or.inl (by assumption), by assumption⟩ | omega) | decide | exact ⟨Or.inl (by assumption), by assumption⟩ | exact ⟨by assumption, by assumption⟩ | omega)⟩ ?_
                try simp only [r0, s0, w1, e3, x1, pr_i_1]
                refine pr_ic rfl (fun h17 => ?_) (fun h17 => ?_)
                · simp only [ab_cmp, pr_i_1] at h17
                  first
                  | contradiction
                  | exact absurd trivial h17
                  | exact absurd h17 (by decide)
                  | exact absurd (Classical.not_not.mp h17) (by decide)
                  | skip
                    refine pr_seq (pc' := 56) 1 rfl ⟨trivial, trivial⟩ ?_
                    try simp only [r0, s0, w1, e3, x1, pr_i_1]
                    exact pr_irM rfl (by rfl) trivial (by rfl)
                · simp only [ab_cmp, pr_i_1] at h17
                  first
                  | contradiction
                  | exact absurd trivial h17
                  | exact absurd h17 (by decide)
                  | exact absurd (Classical.not_not.mp h17) (by decide)
                  | skip
                    refine pr_seq (pc' := 31) 6 rfl ⟨⟨⟨⟨⟨⟨trivial, (by first | assumption | (simp only [r0, s0, w1, e3, x1, pr_i_1]; first | assumption | decide | exact ⟨by assumption, by assumption⟩ | exact ⟨Or.inl (by assumption), by assumption⟩ | omega) | decide | exact ⟨Or.inl (by assumption), by assumption⟩ | exact ⟨by assumption, by assumption⟩ | omega)⟩, (by first | assumption | (simp only [r0, s0, w1, e3, x1, pr_i_1]; first | assumption | decide | exact ⟨by assumption, by assumption⟩ | exact ⟨Or.inl (by assumption), by assumption⟩ | omega) | decide | exact ⟨Or.inl (by assumption), by assumption⟩ | exact ⟨by assumption, by assumption⟩ | omega)⟩, (by first | assumption | (simp only [r0, s0, w1, e3, x1, pr_i_1]; first | assumption | decide | exact ⟨by assumption, by assumption⟩ | exact ⟨Or.inl (by assumption), by assumption⟩ | omega) | decide | exact ⟨Or.inl (by assumption), by assumption⟩ | exact ⟨by assumption, by assumption⟩ | omega)⟩, trivial⟩, (by first | assumption | (simp only [r0, s0, w1, e3, x1, pr_i_1]; first | assumption | decide | exact ⟨by assumption, by assumption⟩ | exact ⟨Or.inl (by assumption), by assumption⟩ | omega) | decide | exact ⟨Or.inl (by assumption), by assumption⟩ | exact ⟨by assumption, by assumption⟩ | omega)⟩, trivial⟩ ?_
                    try simp only [r0, s0, w1, e3, x1, pr_i_1]
                    refine pr_ic rfl (fun h31 => ?_) (fun h31 => ?_)
                    · simp only [ab_cmp, pr_i_1] at h31
                      first
                      | contradiction
                      | exact absurd trivial h31
                      | exact absurd h31 (by decide)
                      | exact absurd (Classical.not_not.mp h31) (by decide)
                      | skip
                        refine pr_seq (pc' := 56) 1 rfl ⟨trivial, trivial⟩ ?_
                        try simp only [r0, s0, w1, e3, x1, pr_i_1]
                        exact pr_irM rfl (by rfl) trivial (by rfl)
                    · simp only [ab_cmp, pr_i_1] at h31
                      first
                      | contradiction
                      | exact absurd trivial h31
                      | exact absurd h31 (by decide)
                      | exact absurd (Classical.not_not.mp h31) (by decide)
                      | skip
                        refine pr_seq (pc' := 45) 6 rfl ⟨⟨⟨⟨⟨⟨trivial, (by first | assumption | (simp only [r0, s0, w1, e3, x1, pr_i_1]; first | assumption | decide | exact ⟨by assumption, by assumption⟩ | exact ⟨Or.inl (by assumption), by assumption⟩ | omega) | decide | exact ⟨Or.inl (by assumption), by assumption⟩ | exact ⟨by assumption, by assumption⟩ | omega)⟩, (by first | assumption | (simp only [r0, s0, w1, e3, x1, pr_i_1]; first | assumption | decide | exact ⟨by assumption, by assumption⟩ | exact ⟨Or.inl (by assumption), by assumption⟩ | omega) | decide | exact ⟨Or.inl (by assumption), by assumption⟩ | exact ⟨by assumption, by assumption⟩ | omega)⟩, (by first | assumption | (simp only [r0, s0, w1, e3, x1, pr_i_1]; first | assumption | decide | exact ⟨by assumption, by assumption⟩ | exact ⟨Or.inl (by assumption), by assumption⟩ | omega) | decide | exact ⟨Or.inl (by assumption), by assumption⟩ | exact ⟨by assumption, by assumption⟩ | omega)⟩, trivial⟩, (by first | assumption | (simp only [r0, s0, w1, e3, x1, pr_i_1]; first | assumption | decide | exact ⟨by assumption, by assumption⟩ | exact ⟨Or.inl (by assumption), by assumption⟩ | omega) | decide | exact ⟨Or.inl (by assumption), by assumption⟩ | exact ⟨by assumption, by assumption⟩ | omega)⟩, trivial⟩ ?_
                        try simp only [r0, s0, w1, e3, x1, pr_i_1]
                        refine pr_ic rfl (fun h45 => ?_) (fun h45 => ?_)
                        · simp only [ab_cmp, pr_i_1] at h45
                          first
                          | contradiction
                          | exact absurd trivial h45
                          | exact absurd h45 (by decide)
                          | exact absurd (Classical.not_not.mp h45) (by decide)
                          | skip
                            refine pr_seq (pc' := 56) 1 rfl ⟨trivial, trivial⟩ ?_
                            try simp only [r0, s0, w1, e3, x1, pr_i_1]
                            exact pr_irM rfl (by rfl) trivial (by rfl)
                        · simp only [ab_cmp, pr_i_1] at h45
                          first
                          | contradiction
                          | exact absurd trivial h45
                          | exact absurd h45 (by decide)
                          | exact absurd (Classical.not_not.mp h45) (by decide)
                          | skip
                            fail
      · obtain rfl : q = w.length := by omega
        have e1 : nI w.length ≤ nI w.length := nI_le (Nat.le_refl _) (by omega)
        rw [if_neg (fun i => c (inR_iff.mp i).1)]
        refine pr_seq (pc' := 5) 1 rfl ⟨trivial, trivial⟩ ?_
        try simp only [r0, s0, w1, pr_i_1]
        refine pr_if rfl (fun h5 => ?_) (fun h5 => ?_)
        · simp only [ab_cmp, pr_i_1] at h5
          first
          | contradiction
          | exact absurd trivial h5
          | exact absurd h5 (by decide)
          | exact absurd (Classical.not_not.mp h5) (by decide)
          | skip
            refine pr_seq (pc' := 56) 1 rfl ⟨trivial, trivial⟩ ?_
            try simp only [r0, s0, w1, pr_i_1]
            exact pr_irM rfl (by rfl) trivial (by rfl)
        · simp only [ab_cmp, pr_i_1] at h5
          first
          | contradiction
          | exact absurd trivial h5
          | exact absurd h5 (by decide)
          | exact absurd (Classical.not_not.mp h5) (by decide)
          | skip
            refine pr_seq (pc' := 17) 4 rfl ⟨⟨⟨⟨trivial, trivial⟩, (by first | assumption | (simp only [r0, s0, w1, pr_i_1]; first | assumption | decide | exact ⟨by assumption, by assumption⟩ | exact ⟨Or.inl (by assumption), by assumption⟩ | omega) | decide | exact ⟨Or.inl (by assumption), by assumption⟩ | exact ⟨by assumption, by assumption⟩ | omega)⟩, (by first | assumption | (simp only [r0, s0, w1, pr_i_1]; first | assumption | decide | exact ⟨by assumption, by assumption⟩ | exact ⟨Or.inl (by assumption), by assumption⟩ | omega) | decide | exact ⟨Or.inl (by assumption), by assumption⟩ | exact ⟨by assumption, by assumption⟩ | omega)⟩, (by first | assumption | (simp only [r0, s0, w1, pr_i_1]; first | assumption | decide | exact ⟨by assumption, by assumption⟩ | exact ⟨Or.inl (by assumption), by assumption⟩ | omega) | decide | exact ⟨Or.inl (by assumption), by assumption⟩ | exact ⟨by assumption, by assumption⟩ | omega)⟩ ?_
            try simp only [r0, s0, w1, pr_i_1]
            refine pr_ic rfl (fun h17 => ?_) (fun h17 => ?_)
            · simp only [ab_cmp, pr_i_1] at h17
              first
              | contradiction
              | exact absurd trivial h17
              | exact absurd h17 (by decide)
              | exact absurd (Classical.not_not.mp h17) (by decide)
              | skip
                refine pr_seq (pc' := 56) 1 rfl ⟨trivial, trivial⟩ ?_
                try simp only [r0, s0, w1, pr_i_1]
                exact pr_irM rfl (by rfl) trivial (by rfl)
            · simp only [ab_cmp, pr_i_1] at h17
              first
              | contradiction
              | exact absurd trivial h17
              | exact absurd h17 (by decide)
              | exact absurd (Classical.not_not.mp h17) (by decide)
              | skip
                fail
  refine pr_seq (pc' := 3) 2 rfl ⟨⟨trivial, trivial⟩, trivial⟩ ?_
  exact loop w.length p hp (by omega)
theorem c_refuse (x y : Int32) (h : ab_H) (M : ab_M) (k4 : ab_k h 4 = 7) : pr_C pX6_refuse [.ref 4, .int x, .int y] h M (some (.int (pr_b false))) h (ab_u (ab_u M.1 4 9 x) 4 10 y, M.2) := by
  have n4 : (4 : Nat) ≠ 0 := by decide
  refine pr_seq (pc' := 11) 7 rfl ⟨⟨⟨⟨⟨⟨⟨trivial, (by first | assumption | decide | exact ⟨Or.inl (by assumption), by assumption⟩ | exact ⟨by assumption, by assumption⟩ | omega)⟩, trivial⟩, (by first | assumption | decide | exact ⟨Or.inl (by assumption), by assumption⟩ | exact ⟨by assumption, by assumption⟩ | omega)⟩, (by first | assumption | decide | exact ⟨Or.inl (by assumption), by assumption⟩ | exact ⟨by assumption, by assumption⟩ | omega)⟩, trivial⟩, (by first | assumption | decide | exact ⟨Or.inl (by assumption), by assumption⟩ | exact ⟨by assumption, by assumption⟩ | omega)⟩, trivial⟩ ?_
  exact pr_irM rfl (by first | rfl | (simp [pr_b, pr_i_0, *]; done) | (simp_all [pr_b, pr_i_0]; done)) (by first | exact Or.inl rfl | exact Or.inr rfl | exact pr_b01 _ | assumption) (by rfl)
/-- a field of the reader changed alone -/
def rd4 (I I' : Nat → Nat → Int32) : Prop := ∀ a, a ≠ 4 → I' a = I a
theorem c_takeFigures {t s e : Nat} {w : List Nat} (h : ab_H) (M : ab_M) (hr : pr_Rd h M.2.2 t) (hw : tp_v M.1 w) (h5 : M.1 4 5 = nI e) (h7 : M.1 4 7 = nI s) (hse : s ≤ e) (he : e ≤ w.length) (h3 : e - s ≤ 3) (hd : ∀ i, s ≤ i → i < e → 48 ≤ w.getD i 0 ∧ w.getD i 0 ≤ 57) : pr_C pX6_takeFigures [.ref 4] h M none h (ab_u M.1 4 8 (nI (num w s (e - s))), M.2) := by
  obtain ⟨k4, r0, r1, r2, ⟨k2, s0, k3, l3⟩, k5, l5⟩ := id hr
  obtain ⟨w1, w2, w3⟩ := id hw
  have n4 : (4 : Nat) ≠ 0 := by decide
  have n2 : (2 : Nat) ≠ 0 := by decide
  have loop : ∀ dd k, k + dd = e - s → pr_E pX6_takeFigures 10 [some (.ref 4), some (.int (nI (s + k)))] [] h (ab_u M.1 4 8 (nI (num w s k)), M.2) none h (ab_u M.1 4 8 (nI (num w s (e - s))), M.2) := by
    intro dd
    induction dd with
    | zero =>
      intro k hk
      obtain rfl : k = e - s := by omega
      have x5 : ab_u M.1 4 8 (nI (num w s (e - s))) 4 5 = nI e := by rw [ab_u_j (by decide)]; exact h5
      have e1 : nI e ≤ nI (s + (e - s)) := nI_le (by omega) (by omega)
      refine pr_seq (pc' := 15) 3 rfl ⟨⟨⟨trivial, trivial⟩, (by first | assumption | (simp only [x5, pr_8_10, pr_8_48, pr_i_0, pr_i_1]; first | assumption | decide | exact ⟨by assumption, by assumption⟩ | exact ⟨Or.inl (by assumption), by assumption⟩ | omega) | decide | exact ⟨Or.inl (by assumption), by assumption⟩ | exact ⟨by assumption, by assumption⟩ | omega)⟩, (by first | assumption | (simp only [x5, pr_8_10, pr_8_48, pr_i_0, pr_i_1]; first | assumption | decide | exact ⟨by assumption, by assumption⟩ | exact ⟨Or.inl (by assumption), by assumption⟩ | omega) | decide | exact ⟨Or.inl (by assumption), by assumption⟩ | exact ⟨by assumption, by assumption⟩ | omega)⟩ ?_
      try simp only [x5, pr_8_10, pr_8_48, pr_i_0, pr_i_1]
      refine pr_ic rfl (fun h15 => ?_) (fun h15 => ?_)
      · simp only [ab_cmp, pr_8_10, pr_8_48, pr_i_0, pr_i_1] at h15
        first
        | contradiction
        | exact absurd trivial h15
        | exact absurd h15 (by decide)
        | exact absurd (Classical.not_not.mp h15) (by decide)
        | skip
          exact pr_vrM rfl rfl rfl (by rfl)
      · simp only [ab_cmp, pr_8_10, pr_8_48, pr_i_0, pr_i_1] at h15
        first
        | contradiction
        | exact absurd trivial h15
        | exact absurd h15 (by decide)
        | exact absurd (Classical.not_not.mp h15) (by decide)
        | skip
          fail
    | succ dd ih =>
      intro k hk
      have x5 : ab_u M.1 4 8 (nI (num w s k)) 4 5 = nI e := by rw [ab_u_j (by decide)]; exact h5
      have x2 : ab_u M.1 4 8 (nI (num w s k)) 2 1 = nI w.length := by rw [ab_u_ne (by decide)]; exact w1
      have x8 : ab_u M.1 4 8 (nI (num w s k)) 4 8 = nI (num w s k) := ab_u_at
      obtain ⟨y1, y2⟩ := hd (s + k) (by omega) (by omega)
      have x3 : ab_u M.1 4 8 (nI (num w s k)) 3 (s + k) = nI (w.getD (s + k) 0) := by rw [ab_u_ne (by decide), (w3 (s + k) (by omega)).1, sb_lo _ (by omega)]
      have e1 : ¬ nI e ≤ nI (s + k) := nI_ge (by omega) (by omega)
      have e2 : ¬ nI w.length ≤ nI (s + k) := nI_ge (by omega) (by omega)
      have e3 : (nI (s + k)).toNatClampNeg = s + k := nI_clamp (by omega)
      have v1 : (ab_k h 3 = 21 ∨ ab_k h 3 = 22) ∧ vp_in (nI (s + k)) (ab_n h 3) := ⟨Or.inl k3, by rw [l3]; exact vp_in_nI (by omega) (by decide)⟩
      have en : (10 : Int32) * nI (num w s k) + nI (w.getD (s + k) 0) - 48 = nI (num w s (k + 1)) := by
        rw [show (10 : Int32) = nI 10 from rfl, nI_mul, nI_add, show (48 : Int32) = nI 48 from rfl, i_sub (by omega)]
        rfl
      have hh := ih (k + 1) (by omega)
      rw [← Nat.add_assoc, ← nI_1 (s + k)] at hh
      have ew : ab_u (ab_u M.1 4 8 (nI (num w s k))) 4 8 (nI (num w s (k + 1))) = ab_u M.1 4 8 (nI (num w s (k + 1))) := by
        funext a j
        unfold ab_u
        by_cases q : a = 4 ∧ j = 8
        · rw [if_pos q, if_pos q]
        · rw [if_neg q, if_neg q, if_neg q]
      refine pr_seq (pc' := 15) 3 rfl ⟨⟨⟨trivial, trivial⟩, (by first | assumption | (simp only [x5, x2, x8, r0, s0, e3, x3, en, ew, pr_8_10, pr_8_48, pr_i_0, pr_i_1]; first | assumption | decide | exact ⟨by assumption, by assumption⟩ | exact ⟨Or.inl (by assumption), by assumption⟩ | omega) | decide | exact ⟨Or.inl (by assumption), by assumption⟩ | exact ⟨by assumption, by assumption⟩ | omega)⟩, (by first | assumption | (simp only [x5, x2, x8, r0, s0, e3, x3, en, ew, pr_8_10, pr_8_48, pr_i_0, pr_i_1]; first | assumption | decide | exact ⟨by assumption, by assumption⟩ | exact ⟨Or.inl (by assumption), by assumption⟩ | omega) | decide | exact ⟨Or.inl (by assumption), by assumption⟩ | exact ⟨by assumption, by assumption⟩ | omega)⟩ ?_
      try simp only [x5, x2, x8, r0, s0, e3, x3, en, ew, pr_8_10, pr_8_48, pr_i_0, pr_i_1]
      refine pr_ic rfl (fun h15 => ?_) (fun h15 => ?_)
      · simp only [ab_cmp, pr_8_10, pr_8_48, pr_i_0, pr_i_1] at h15
        first
        | contradiction
        | exact absurd trivial h15
        | exact absurd h15 (by decide)
        | exact absurd (Classical.not_not.mp h15) (by decide)
        | skip
          fail
      · simp only [ab_cmp, pr_8_10, pr_8_48, pr_i_0, pr_i_1] at h15
        first
        | contradiction
        | exact absurd trivial h15
        | exact absurd h15 (by decide)
        | exact absurd (Classical.not_not.mp h15) (by decide)
        | skip
          refine pr_seq (pc' := 26) 4 rfl ⟨⟨⟨⟨trivial, trivial⟩, (by first | assumption | (simp only [x5, x2, x8, r0, s0, e3, x3, en, ew, pr_8_10, pr_8_48, pr_i_0, pr_i_1]; first | assumption | decide | exact ⟨by assumption, by assumption⟩ | exact ⟨Or.inl (by assumption), by assumption⟩ | omega) | decide | exact ⟨Or.inl (by assumption), by assumption⟩ | exact ⟨by assumption, by assumption⟩ | omega)⟩, (by first | assumption | (simp only [x5, x2, x8, r0, s0, e3, x3, en, ew, pr_8_10, pr_8_48, pr_i_0, pr_i_1]; first | assumption | decide | exact ⟨by assumption, by assumption⟩ | exact ⟨Or.inl (by assumption), by assumption⟩ | omega) | decide | exact ⟨Or.inl (by assumption), by assumption⟩ | exact ⟨by assumption, by assumption⟩ | omega)⟩, (by first | assumption | (simp only [x5, x2, x8, r0, s0, e3, x3, en, ew, pr_8_10, pr_8_48, pr_i_0, pr_i_1]; first | assumption | decide | exact ⟨by assumption, by assumption⟩ | exact ⟨Or.inl (by assumption), by assumption⟩ | omega) | decide | exact ⟨Or.inl (by assumption), by assumption⟩ | exact ⟨by assumption, by assumption⟩ | omega)⟩ ?_
          try simp only [x5, x2, x8, r0, s0, e3, x3, en, ew, pr_8_10, pr_8_48, pr_i_0, pr_i_1]
          refine pr_ic rfl (fun h26 => ?_) (fun h26 => ?_)
          · simp only [ab_cmp, pr_8_10, pr_8_48, pr_i_0, pr_i_1] at h26
            first
            | contradiction
            | exact absurd trivial h26
            | exact absurd h26 (by decide)
            | exact absurd (Classical.not_not.mp h26) (by decide)
            | skip
              fail
          · simp only [ab_cmp, pr_8_10, pr_8_48, pr_i_0, pr_i_1] at h26
            first
            | contradiction
            | exact absurd trivial h26
            | exact absurd h26 (by decide)
            | exact absurd (Classical.not_not.mp h26) (by decide)
            | skip
              refine pr_seq (pc' := 10) 16 rfl ⟨⟨⟨⟨⟨⟨⟨⟨⟨⟨⟨⟨⟨⟨⟨⟨trivial, (by first | assumption | (simp only [x5, x2, x8, r0, s0, e3, x3, en, ew, pr_8_10, pr_8_48, pr_i_0, pr_i_1]; first | assumption | decide | exact ⟨by assumption, by assumption⟩ | exact ⟨Or.inl (by assumption), by assumption⟩ | omega) | decide | exact ⟨Or.inl (by assumption), by assumption⟩ | exact ⟨by assumption, by assumption⟩ | omega)⟩, trivial⟩, (by first | assumption | (simp only [x5, x2, x8, r0, s0, e3, x3, en, ew, pr_8_10, pr_8_48, pr_i_0, pr_i_1]; first | assumption | decide | exact ⟨by assumption, by assumption⟩ | exact ⟨Or.inl (by assumption), by assumption⟩ | omega) | decide | exact ⟨Or.inl (by assumption), by assumption⟩ | exact ⟨by assumption, by assumption⟩ | omega)⟩, (by first | assumption | (simp only [x5, x2, x8, r0, s0, e3, x3, en, ew, pr_8_10, pr_8_48, pr_i_0, pr_i_1]; first | assumption | decide | exact ⟨by assumption, by assumption⟩ | exact ⟨Or.inl (by assumption), by assumption⟩ | omega) | decide | exact ⟨Or.inl (by assumption), by assumption⟩ | exact ⟨by assumption, by assumption⟩ | omega)⟩, trivial⟩, (by first | assumption | (simp only [x5, x2, x8, r0, s0, e3, x3, en, ew, pr_8_10, pr_8_48, pr_i_0, pr_i_1]; first | assumption | decide | exact ⟨by assumption, by assumption⟩ | exact ⟨Or.inl (by assumption), by assumption⟩ | omega) | decide | exact ⟨Or.inl (by assumption), by assumption⟩ | exact ⟨by assumption, by assumption⟩ | omega)⟩, (by first | assumption | (simp only [x5, x2, x8, r0, s0, e3, x3, en, ew, pr_8_10, pr_8_48, pr_i_0, pr_i_1]; first | assumption | decide | exact ⟨by assumption, by assumption⟩ | exact ⟨Or.inl (by assumption), by assumption⟩ | omega) | decide | exact ⟨Or.inl (by assumption), by assumption⟩ | exact ⟨by assumption, by assumption⟩ | omega)⟩, (by first | assumption | (simp only [x5, x2, x8, r0, s0, e3, x3, en, ew, pr_8_10, pr_8_48, pr_i_0, pr_i_1]; first | assumption | decide | exact ⟨by assumption, by assumption⟩ | exact ⟨Or.inl (by assumption), by assumption⟩ | omega) | decide | exact ⟨Or.inl (by assumption), by assumption⟩ | exact ⟨by assumption, by assumption⟩ | omega)⟩, trivial⟩, (by first | assumption | (simp only [x5, x2, x8, r0, s0, e3, x3, en, ew, pr_8_10, pr_8_48, pr_i_0, pr_i_1]; first | assumption | decide | exact ⟨by assumption, by assumption⟩ | exact ⟨Or.inl (by assumption), by assumption⟩ | omega) | decide | exact ⟨Or.inl (by assumption), by assumption⟩ | exact ⟨by assumption, by assumption⟩ | omega)⟩, trivial⟩, trivial⟩, trivial⟩, (by first | assumption | (simp only [x5, x2, x8, r0, s0, e3, x3, en, ew, pr_8_10, pr_8_48, pr_i_0, pr_i_1]; first | assumption | decide | exact ⟨by assumption, by assumption⟩ | exact ⟨Or.inl (by assumption), by assumption⟩ | omega) | decide | exact ⟨Or.inl (by assumption), by assumption⟩ | exact ⟨by assumption, by assumption⟩ | omega)⟩, trivial⟩, trivial⟩ ?_
              try simp only [x5, x2, x8, r0, s0, e3, x3, en, ew, pr_8_10, pr_8_48, pr_i_0, pr_i_1]
              exact hh
  have h0 := loop (e - s) 0 (by omega)
  have h7' : ab_u M.1 4 8 0 4 7 = nI s := by rw [ab_u_j (by decide)]; exact h7
  refine pr_seq (pc' := 10) 6 rfl ⟨⟨⟨⟨⟨⟨trivial, (by first | assumption | (simp only [h7', pr_8_10, pr_8_48, pr_i_0, pr_i_1]; first | assumption | decide | exact ⟨by assumption, by assumption⟩ | exact ⟨Or.inl (by assumption), by assumption⟩ | omega) | decide | exact ⟨Or.inl (by assumption), by assumption⟩ | exact ⟨by assumption, by assumption⟩ | omega)⟩, trivial⟩, (by first | assumption | (simp only [h7', pr_8_10, pr_8_48, pr_i_0, pr_i_1]; first | assumption | decide | exact ⟨by assumption, by assumption⟩ | exact ⟨Or.inl (by assumption), by assumption⟩ | omega) | decide | exact ⟨Or.inl (by assumption), by assumption⟩ | exact ⟨by assumption, by assumption⟩ | omega)⟩, (by first | assumption | (simp only [h7', pr_8_10, pr_8_48, pr_i_0, pr_i_1]; first | assumption | decide | exact ⟨by assumption, by assumption⟩ | exact ⟨Or.inl (by assumption), by assumption⟩ | omega) | decide | exact ⟨Or.inl (by assumption), by assumption⟩ | exact ⟨by assumption, by assumption⟩ | omega)⟩, (by first | assumption | (simp only [h7', pr_8_10, pr_8_48, pr_i_0, pr_i_1]; first | assumption | decide | exact ⟨by assumption, by assumption⟩ | exact ⟨Or.inl (by assumption), by assumption⟩ | omega) | decide | exact ⟨Or.inl (by assumption), by assumption⟩ | exact ⟨by assumption, by assumption⟩ | omega)⟩, trivial⟩ ?_
  try simp only [h7', pr_8_10, pr_8_48, pr_i_0, pr_i_1]
  exact h0
