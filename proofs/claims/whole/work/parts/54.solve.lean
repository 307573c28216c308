
/-! ===== Pairs, solve ===== -/
def pr_Pa (h : ab_H) (R : Nat → Nat → Nat) : Prop := ab_k h 58 = 5 ∧ R 58 0 = 59 ∧ R 58 1 = 60 ∧ R 58 2 = 61 ∧ (ab_k h 59 = 20 ∧ ab_n h 59 = 6) ∧ (ab_k h 60 = 20 ∧ ab_n h 60 = 6) ∧ ab_k h 61 = 20 ∧ ab_n h 61 = 6
/-- the weights and rests of the first m that are known -/
def pa_v (I : Nat → Nat → Int32) (m : Nat) (A B R : Nat → Int32) : Prop := ∀ t, t < m → I 59 t = A t ∧ I 60 t = B t ∧ I 61 t = R t
theorem c_fits {m : Nat} {A B R : Nat → Int32} (x y : Int32) (h : ab_H) (M : ab_M) (hp : pr_Pa h M.2.2) (hm : M.1 58 3 = nI m) (hm6 : m ≤ 6) (hv : pa_v M.1 m A B R) : pr_C pX4_fits [.ref 58, .int x, .int y] h M (some (.int (pr_b (nb (fun t => decide (¬ A t * x + B t * y = R t)) m)))) h M := by
  obtain ⟨k1, r0, r1, r2, ⟨a1, a2⟩, ⟨b1, b2⟩, c1, c2⟩ := id hp
  have n58 : (58 : Nat) ≠ 0 := by decide
  have loop : ∀ dd k, k + dd = m → nb (fun t => decide (¬ A t * x + B t * y = R t)) k = true → pr_E pX4_fits 2 [some (.ref 58), some (.int x), some (.int y), some (.int (nI k))] [] h M (some (.int (pr_b (nb (fun t => decide (¬ A t * x + B t * y = R t)) m)))) h M := by
    intro dd
    induction dd with
    | zero =>
      intro k hk hn
      obtain rfl : k = m := by omega
      have e1 : nI k ≤ nI k := nI_le (Nat.le_refl _) (by omega)
      rw [hn]
      refine pr_seq (pc' := 7) 3 rfl ⟨⟨⟨trivial, trivial⟩, (by first | assumption | (simp only [hm, pr_i_0, pr_i_1]; first | assumption | decide | exact ⟨by assumption, by assumption⟩ | exact ⟨Or.inl (by assumption), by assumption⟩ | omega) | decide | exact ⟨Or.inl (by assumption), by assumption⟩ | exact ⟨by assumption, by assumption⟩ | omega)⟩, (by first | assumption | (simp only [hm, pr_i_0, pr_i_1]; first | assumption | decide | exact ⟨by assumption, by assumption⟩ | exact ⟨Or.inl (by assumption), by assumption⟩ | omega) | decide | exact ⟨Or.inl (by assumption), by assumption⟩ | exact ⟨by assumption, by assumption⟩ | omega)⟩ ?_
      try simp only [hm, pr_i_0, pr_i_1]
      refine pr_ic rfl (fun h7 => ?_) (fun h7 => ?_)
      · simp only [ab_cmp, pr_i_0, pr_i_1] at h7
        first
        | contradiction
        | exact absurd trivial h7
        | exact absurd h7 (by decide)
        | exact absurd (Classical.not_not.mp h7) (by decide)
        | skip
          refine pr_seq (pc' := 45) 1 rfl ⟨trivial, trivial⟩ ?_
          try simp only [hm, pr_i_0, pr_i_1]
          exact pr_irM rfl (by first | rfl | (simp only [hm, pr_i_0, pr_i_1]; done) | (simp [pr_b, pr_i_0, pr_i_1, *]; done) | (simp_all [pr_b, pr_i_0, pr_i_1]; done)) (by first | exact Or.inl rfl | exact Or.inr rfl | exact pr_b01 _ | assumption) (by rfl)
      · simp only [ab_cmp, pr_i_0, pr_i_1] at h7
        first
        | contradiction
        | exact absurd trivial h7
        | exact absurd h7 (by decide)
        | exact absurd (Classical.not_not.mp h7) (by decide)
        | skip
          fail
    | succ dd ih =>
      intro k hk hn
      have e1 : ¬ nI m ≤ nI k := nI_ge (by omega) (by omega)
      have e3 : (nI k).toNatClampNeg = k := nI_clamp (by omega)
      obtain ⟨x1, x2, x3⟩ := hv k (by omega)
      have w1 : vp_in (nI k) (ab_n h 59) := by rw [a2]; exact vp_in_nI (by omega) (by decide)
      have w2 : vp_in (nI k) (ab_n h 60) := by rw [b2]; exact vp_in_nI (by omega) (by decide)
      have w3 : vp_in (nI k) (ab_n h 61) := by rw [c2]; exact vp_in_nI (by omega) (by decide)
      by_cases t1 : A k * x + B k * y = R k
      · have hh := ih (k + 1) (by omega) (by show (nb _ k && !_) = true; rw [hn]; simp [t1])
        rw [← nI_1] at hh
        refine pr_seq (pc' := 7) 3 rfl ⟨⟨⟨trivial, trivial⟩, (by first | assumption | (simp only [hm, r0, r1, r2, e3, x1, x2, x3, pr_i_0, pr_i_1]; first | assumption | decide | exact ⟨by assumption, by assumption⟩ | exact ⟨Or.inl (by assumption), by assumption⟩ | omega) | decide | exact ⟨Or.inl (by assumption), by assumption⟩ | exact ⟨by assumption, by assumption⟩ | omega)⟩, (by first | assumption | (simp only [hm, r0, r1, r2, e3, x1, x2, x3, pr_i_0, pr_i_1]; first | assumption | decide | exact ⟨by assumption, by assumption⟩ | exact ⟨Or.inl (by assumption), by assumption⟩ | omega) | decide | exact ⟨Or.inl (by assumption), by assumption⟩ | exact ⟨by assumption, by assumption⟩ | omega)⟩ ?_
        try simp only [hm, r0, r1, r2, e3, x1, x2, x3, pr_i_0, pr_i_1]
        refine pr_ic rfl (fun h7 => ?_) (fun h7 => ?_)
        · simp only [ab_cmp, pr_i_0, pr_i_1] at h7
          first
          | contradiction
          | exact absurd trivial h7
          | exact absurd h7 (by decide)
          | exact absurd (Classical.not_not.mp h7) (by decide)
          | skip
            fail
        · simp only [ab_cmp, pr_i_0, pr_i_1] at h7
          first
          | contradiction
          | exact absurd trivial h7
          | exact absurd h7 (by decide)
          | exact absurd (Classical.not_not.mp h7) (by decide)
          | skip
            refine pr_seq (pc' := 33) 17 rfl ⟨⟨⟨⟨⟨⟨⟨⟨⟨⟨⟨⟨⟨⟨⟨⟨⟨trivial, (by first | assumption | (simp only [hm, r0, r1, r2, e3, x1, x2, x3, pr_i_0, pr_i_1]; first | assumption | decide | exact ⟨by assumption, by assumption⟩ | exact ⟨Or.inl (by assumption), by assumption⟩ | omega) | decide | exact ⟨Or.inl (by assumption), by assumption⟩ | exact ⟨by assumption, by assumption⟩ | omega)⟩, (by first | assumption | (simp only [hm, r0, r1, r2, e3, x1, x2, x3, pr_i_0, pr_i_1]; first | assumption | decide | exact ⟨by assumption, by assumption⟩ | exact ⟨Or.inl (by assumption), by assumption⟩ | omega) | decide | exact ⟨Or.inl (by assumption), by assumption⟩ | exact ⟨by assumption, by assumption⟩ | omega)⟩, trivial⟩, (by first | assumption | (simp only [hm, r0, r1, r2, e3, x1, x2, x3, pr_i_0, pr_i_1]; first | assumption | decide | exact ⟨by assumption, by assumption⟩ | exact ⟨Or.inl (by assumption), by assumption⟩ | omega) | decide | exact ⟨Or.inl (by assumption), by assumption⟩ | exact ⟨by assumption, by assumption⟩ | omega)⟩, trivial⟩, trivial⟩, (by first | assumption | (simp only [hm, r0, r1, r2, e3, x1, x2, x3, pr_i_0, pr_i_1]; first | assumption | decide | exact ⟨by assumption, by assumption⟩ | exact ⟨Or.inl (by assumption), by assumption⟩ | omega) | decide | exact ⟨Or.inl (by assumption), by assumption⟩ | exact ⟨by assumption, by assumption⟩ | omega)⟩, (by first | assumption | (simp only [hm, r0, r1, r2, e3, x1, x2, x3, pr_i_0, pr_i_1]; first | assumption | decide | exact ⟨by assumption, by assumption⟩ | exact ⟨Or.inl (by assumption), by assumption⟩ | omega) | decide | exact ⟨Or.inl (by assumption), by assumption⟩ | exact ⟨by assumption, by assumption⟩ | omega)⟩, trivial⟩, (by first | assumption | (simp only [hm, r0, r1, r2, e3, x1, x2, x3, pr_i_0, pr_i_1]; first | assumption | decide | exact ⟨by assumption, by assumption⟩ | exact ⟨Or.inl (by assumption), by assumption⟩ | omega) | decide | exact ⟨Or.inl (by assumption), by assumption⟩ | exact ⟨by assumption, by assumption⟩ | omega)⟩, trivial⟩, trivial⟩, trivial⟩, (by first | assumption | (simp only [hm, r0, r1, r2, e3, x1, x2, x3, pr_i_0, pr_i_1]; first | assumption | decide | exact ⟨by assumption, by assumption⟩ | exact ⟨Or.inl (by assumption), by assumption⟩ | omega) | decide | exact ⟨Or.inl (by assumption), by assumption⟩ | exact ⟨by assumption, by assumption⟩ | omega)⟩, (by first | assumption | (simp only [hm, r0, r1, r2, e3, x1, x2, x3, pr_i_0, pr_i_1]; first | assumption | decide | exact ⟨by assumption, by assumption⟩ | exact ⟨Or.inl (by assumption), by assumption⟩ | omega) | decide | exact ⟨Or.inl (by assumption), by assumption⟩ | exact ⟨by assumption, by assumption⟩ | omega)⟩, trivial⟩, (by first | assumption | (simp only [hm, r0, r1, r2, e3, x1, x2, x3, pr_i_0, pr_i_1]; first | assumption | decide | exact ⟨by assumption, by assumption⟩ | exact ⟨Or.inl (by assumption), by assumption⟩ | omega) | decide | exact ⟨Or.inl (by assumption), by assumption⟩ | exact ⟨by assumption, by assumption⟩ | omega)⟩ ?_
            try simp only [hm, r0, r1, r2, e3, x1, x2, x3, pr_i_0, pr_i_1]
            refine pr_ic rfl (fun h33 => ?_) (fun h33 => ?_)
            · simp only [ab_cmp, pr_i_0, pr_i_1] at h33
              first
              | contradiction
              | exact absurd trivial h33
              | exact absurd h33 (by decide)
              | exact absurd (Classical.not_not.mp h33) (by decide)
              | skip
                refine pr_seq (pc' := 2) 2 rfl ⟨⟨trivial, trivial⟩, trivial⟩ ?_
                try simp only [hm, r0, r1, r2, e3, x1, x2, x3, pr_i_0, pr_i_1]
                exact hh
            · simp only [ab_cmp, pr_i_0, pr_i_1] at h33
              first
              | contradiction
              | exact absurd trivial h33
              | exact absurd h33 (by decide)
              | exact absurd (Classical.not_not.mp h33) (by decide)
              | skip
                refine pr_seq (pc' := 37) 1 rfl ⟨trivial, trivial⟩ ?_
                try simp only [hm, r0, r1, r2, e3, x1, x2, x3, pr_i_0, pr_i_1]
                exact pr_irM rfl (by first | rfl | (simp only [hm, r0, r1, r2, e3, x1, x2, x3, pr_i_0, pr_i_1]; done) | (simp [pr_b, pr_i_0, pr_i_1, *]; done) | (simp_all [pr_b, pr_i_0, pr_i_1]; done)) (by first | exact Or.inl rfl | exact Or.inr rfl | exact pr_b01 _ | assumption) (by rfl)
      · rw [nb_false (q := k) (by simp [t1]) m (by omega)]
        refine pr_seq (pc' := 7) 3 rfl ⟨⟨⟨trivial, trivial⟩, (by first | assumption | (simp only [hm, r0, r1, r2, e3, x1, x2, x3, pr_i_0, pr_i_1]; first | assumption | decide | exact ⟨by assumption, by assumption⟩ | exact ⟨Or.inl (by assumption), by assumption⟩ | omega) | decide | exact ⟨Or.inl (by assumption), by assumption⟩ | exact ⟨by assumption, by assumption⟩ | omega)⟩, (by first | assumption | (simp only [hm, r0, r1, r2, e3, x1, x2, x3, pr_i_0, pr_i_1]; first | assumption | decide | exact ⟨by assumption, by assumption⟩ | exact ⟨Or.inl (by assumption), by assumption⟩ | omega) | decide | exact ⟨Or.inl (by assumption), by assumption⟩ | exact ⟨by assumption, by assumption⟩ | omega)⟩ ?_
        try simp only [hm, r0, r1, r2, e3, x1, x2, x3, pr_i_0, pr_i_1]
        refine pr_ic rfl (fun h7 => ?_) (fun h7 => ?_)
        · simp only [ab_cmp, pr_i_0, pr_i_1] at h7
          first
          | contradiction
          | exact absurd trivial h7
          | exact absurd h7 (by decide)
          | exact absurd (Classical.not_not.mp h7) (by decide)
          | skip
            fail
        · simp only [ab_cmp, pr_i_0, pr_i_1] at h7
          first
          | contradiction
          | exact absurd trivial h7
          | exact absurd h7 (by decide)
          | exact absurd (Classical.not_not.mp h7) (by decide)
          | skip
            refine pr_seq (pc' := 33) 17 rfl ⟨⟨⟨⟨⟨⟨⟨⟨⟨⟨⟨⟨⟨⟨⟨⟨⟨trivial, (by first | assumption | (simp only [hm, r0, r1, r2, e3, x1, x2, x3, pr_i_0, pr_i_1]; first | assumption | decide | exact ⟨by assumption, by assumption⟩ | exact ⟨Or.inl (by assumption), by assumption⟩ | omega) | decide | exact ⟨Or.inl (by assumption), by assumption⟩ | exact ⟨by assumption, by assumption⟩ | omega)⟩, (by first | assumption | (simp only [hm, r0, r1, r2, e3, x1, x2, x3, pr_i_0, pr_i_1]; first | assumption | decide | exact ⟨by assumption, by assumption⟩ | exact ⟨Or.inl (by assumption), by assumption⟩ | omega) | decide | exact ⟨Or.inl (by assumption), by assumption⟩ | exact ⟨by assumption, by assumption⟩ | omega)⟩, trivial⟩, (by first | assumption | (simp only [hm, r0, r1, r2, e3, x1, x2, x3, pr_i_0, pr_i_1]; first | assumption | decide | exact ⟨by assumption, by assumption⟩ | exact ⟨Or.inl (by assumption), by assumption⟩ | omega) | decide | exact ⟨Or.inl (by assumption), by assumption⟩ | exact ⟨by assumption, by assumption⟩ | omega)⟩, trivial⟩, trivial⟩, (by first | assumption | (simp only [hm, r0, r1, r2, e3, x1, x2, x3, pr_i_0, pr_i_1]; first | assumption | decide | exact ⟨by assumption, by assumption⟩ | exact ⟨Or.inl (by assumption), by assumption⟩ | omega) | decide | exact ⟨Or.inl (by assumption), by assumption⟩ | exact ⟨by assumption, by assumption⟩ | omega)⟩, (by first | assumption | (simp only [hm, r0, r1, r2, e3, x1, x2, x3, pr_i_0, pr_i_1]; first | assumption | decide | exact ⟨by assumption, by assumption⟩ | exact ⟨Or.inl (by assumption), by assumption⟩ | omega) | decide | exact ⟨Or.inl (by assumption), by assumption⟩ | exact ⟨by assumption, by assumption⟩ | omega)⟩, trivial⟩, (by first | assumption | (simp only [hm, r0, r1, r2, e3, x1, x2, x3, pr_i_0, pr_i_1]; first | assumption | decide | exact ⟨by assumption, by assumption⟩ | exact ⟨Or.inl (by assumption), by assumption⟩ | omega) | decide | exact ⟨Or.inl (by assumption), by assumption⟩ | exact ⟨by assumption, by assumption⟩ | omega)⟩, trivial⟩, trivial⟩, trivial⟩, (by first | assumption | (simp only [hm, r0, r1, r2, e3, x1, x2, x3, pr_i_0, pr_i_1]; first | assumption | decide | exact ⟨by assumption, by assumption⟩ | exact ⟨Or.inl (by assumption), by assumption⟩ | omega) | decide | exact ⟨Or.inl (by assumption), by assumption⟩ | exact ⟨by assumption, by assumption⟩ | omega)⟩, (by first | assumption | (simp only [hm, r0, r1, r2, e3, x1, x2, x3, pr_i_0, pr_i_1]; first | assumption | decide | exact ⟨by assumption, by assumption⟩ | exact ⟨Or.inl (by assumption), by assumption⟩ | omega) | decide | exact ⟨Or.inl (by assumption), by assumption⟩ | exact ⟨by assumption, by assumption⟩ | omega)⟩, trivial⟩, (by first | assumption | (simp only [hm, r0, r1, r2, e3, x1, x2, x3, pr_i_0, pr_i_1]; first | assumption | decide | exact ⟨by assumption, by assumption⟩ | exact ⟨Or.inl (by assumption), by assumption⟩ | omega) | decide | exact ⟨Or.inl (by assumption), by assumption⟩ | exact ⟨by assumption, by assumption⟩ | omega)⟩ ?_
            try simp only [hm, r0, r1, r2, e3, x1, x2, x3, pr_i_0, pr_i_1]
            refine pr_ic rfl (fun h33 => ?_) (fun h33 => ?_)
            · simp only [ab_cmp, pr_i_0, pr_i_1] at h33
              first
              | contradiction
              | exact absurd trivial h33
              | exact absurd h33 (by decide)
              | exact absurd (Classical.not_not.mp h33) (by decide)
              | skip
                fail
            · simp only [ab_cmp, pr_i_0, pr_i_1] at h33
              first
              | contradiction
              | exact absurd trivial h33
              | exact absurd h33 (by decide)
              | exact absurd (Classical.not_not.mp h33) (by decide)
              | skip
                refine pr_seq (pc' := 37) 1 rfl ⟨trivial, trivial⟩ ?_
                try simp only [hm, r0, r1, r2, e3, x1, x2, x3, pr_i_0, pr_i_1]
                exact pr_irM rfl (by first | rfl | (simp only [hm, r0, r1, r2, e3, x1, x2, x3, pr_i_0, pr_i_1]; done) | (simp [pr_b, pr_i_0, pr_i_1, *]; done) | (simp_all [pr_b, pr_i_0, pr_i_1]; done)) (by first | exact Or.inl rfl | exact Or.inr rfl | exact pr_b01 _ | assumption) (by rfl)
  refine pr_seq (pc' := 2) 2 rfl ⟨⟨trivial, trivial⟩, trivial⟩ ?_
  exact loop m 0 (by omega) rfl
def pv_v (I : Nat → Nat → Int32) (s : Sv) : Prop := I 58 4 = nI s.1 ∧ (s.1 ≠ 0 → I 58 5 = nI s.2.1 ∧ I 58 6 = nI s.2.2.1) ∧ I 58 7 = pr_b s.2.2.2.1 ∧ I 58 8 = pr_b s.2.2.2.2
def sv_b (s : Sv) : Prop := s.1 ≤ 1681 ∧ s.2.1 ≤ 40 ∧ s.2.2.1 ≤ 40
theorem c_ptake {s : Sv} {x y : Nat} (hx : x ≤ 40) (hy : y ≤ 40) (hs : sv_b s) (h : ab_H) (M : ab_M) (hp : pr_Pa h M.2.2) (hv : pv_v M.1 s) : pr_X pX4_take [.ref 58, .int (nI x), .int (nI y)] h M (fun r M' => r = none ∧ M'.2 = M.2 ∧ pv_v M'.1 (svt s x y) ∧ M'.1 58 3 = M.1 58 3 ∧ ∀ a, a ≠ 58 → M'.1 a = M.1 a) := by
  obtain ⟨k1, -⟩ := id hp
  obtain ⟨n, fa, fb, oa, ob⟩ := s
  obtain ⟨s1, s2, s3⟩ := hs
  obtain ⟨v1, v2, v3, v4⟩ := hv
  dsimp only at s1 s2 s3 v1 v2 v3 v4
  have n58 : (58 : Nat) ≠ 0 := by decide
  have fin : ∀ (c d : Int32) (e f : Bool) (I : Nat → Nat → Int32) (n' a' b' : Nat), n' ≤ 1681 → (∀ a, a ≠ 58 → I a = M.1 a) → I 58 3 = M.1 58 3 → I 58 5 = nI a' → I 58 6 = nI b' → I 58 4 = nI n' → pv_v (ab_u (ab_u (ab_u I 58 7 (pr_b e)) 58 8 (pr_b f)) 58 4 (nI n' + 1)) (n' + 1, a', b', e, f) ∧ ab_u (ab_u (ab_u I 58 7 (pr_b e)) 58 8 (pr_b f)) 58 4 (nI n' + 1) 58 3 = M.1 58 3 ∧ ∀ a, a ≠ 58 → ab_u (ab_u (ab_u I 58 7 (pr_b e)) 58 8 (pr_b f)) 58 4 (nI n' + 1) a = M.1 a := by
    intro c d e f I n' a' b' hn' h1 h2 h3 h4 h5
    refine ⟨⟨by rw [ab_u_at, nI_1], fun _ => ⟨?_, ?_⟩, ?_, ?_⟩, ?_, fun a ha => ?_⟩
    · rw [ab_u_j (by decide), ab_u_j (by decide), ab_u_j (by decide)]; exact h3
    · rw [ab_u_j (by decide), ab_u_j (by decide), ab_u_j (by decide)]; exact h4
    · rw [ab_u_j (by decide), ab_u_j (by decide), ab_u_at]
    · rw [ab_u_j (by decide), ab_u_at]
    · rw [ab_u_j (by decide), ab_u_j (by decide), ab_u_j (by decide)]; exact h2
    · rw [ab_u_ne ha, ab_u_ne ha, ab_u_ne ha]; exact h1 a ha
  unfold svt
  by_cases z : n = 0
  · subst z
    rw [if_pos rfl]
    have v1 : M.1 58 4 = 0 := v1
    have g7 : ab_u (ab_u M.1 58 5 (nI x)) 58 6 (nI y) 58 7 = pr_b oa := by rw [ab_u_j (by decide), ab_u_j (by decide)]; exact v3
    have g5 : ab_u (ab_u M.1 58 5 (nI x)) 58 6 (nI y) 58 5 = nI x := by rw [ab_u_j (by decide), ab_u_at]
    have g8 : ∀ e : Bool, ab_u (ab_u (ab_u M.1 58 5 (nI x)) 58 6 (nI y)) 58 7 (pr_b e) 58 8 = pr_b ob := fun e => by rw [ab_u_j (by decide), ab_u_j (by decide), ab_u_j (by decide)]; exact v4
    have g6 : ∀ e : Bool, ab_u (ab_u (ab_u M.1 58 5 (nI x)) 58 6 (nI y)) 58 7 (pr_b e) 58 6 = nI y := fun e => by rw [ab_u_j (by decide), ab_u_at]
    have g4 : ∀ e f : Bool, ab_u (ab_u (ab_u (ab_u M.1 58 5 (nI x)) 58 6 (nI y)) 58 7 (pr_b e)) 58 8 (pr_b f) 58 4 = 0 := fun e f => by rw [ab_u_j (by decide), ab_u_j (by decide), ab_u_j (by decide), ab_u_j (by decide)]; exact v1
    have f0 := fin 0 0 oa ob (ab_u (ab_u M.1 58 5 (nI x)) 58 6 (nI y)) 0 x y (by decide) (fun a ha => by rw [ab_u_ne ha, ab_u_ne ha]) (by rw [ab_u_j (by decide), ab_u_j (by decide)]) g5 (by rw [ab_u_at]) (by rw [ab_u_j (by decide), ab_u_j (by decide)]; exact v1)
    have T1 : (1 : Int32) = pr_b true := rfl
    have F1 : (0 : Int32) = pr_b false := rfl
    cases oa <;> cases ob
    all_goals
      have g6t := g6 true
      have g6f := g6 false
      have g8t := g8 true
      have g8f := g8 false
      have gtt := g4 true true
      have gtf := g4 true false
      have gft := g4 false true
      have gff := g4 false false
      simp only [pr_b] at g7 g6t g6f g8t g8f gtt gtf gft gff f0
      refine pr_seqT (pc' := 4) 2 rfl ⟨⟨trivial, (by first | assumption | (simp only [v1, g7, g5, g6t, g6f, g8t, g8f, gtt, gtf, gft, gff, pr_i_0, pr_i_1]; first | assumption | decide | exact ⟨by assumption, by assumption⟩ | exact ⟨Or.inl (by assumption), by assumption⟩ | omega) | decide | exact ⟨Or.inl (by assumption), by assumption⟩ | exact ⟨by assumption, by assumption⟩ | omega)⟩, (by first | assumption | (simp only [v1, g7, g5, g6t, g6f, g8t, g8f, gtt, gtf, gft, gff, pr_i_0, pr_i_1]; first | assumption | decide | exact ⟨by assumption, by assumption⟩ | exact ⟨Or.inl (by assumption), by assumption⟩ | omega) | decide | exact ⟨Or.inl (by assumption), by assumption⟩ | exact ⟨by assumption, by assumption⟩ | omega)⟩ ?_
      try simp only [v1, g7, g5, g6t, g6f, g8t, g8f, gtt, gtf, gft, gff, pr_i_0, pr_i_1]
      refine pr_ifT rfl (fun h4 => ?_) (fun h4 => ?_)
      · simp only [ab_cmp, pr_i_0, pr_i_1] at h4
        first
        | contradiction
        | exact absurd trivial h4
        | exact absurd h4 (by decide)
        | exact absurd (Classical.not_not.mp h4) (by decide)
        | skip
          refine pr_seqT (pc' := 22) 3 rfl ⟨⟨⟨trivial, (by first | assumption | (simp only [v1, g7, g5, g6t, g6f, g8t, g8f, gtt, gtf, gft, gff, pr_i_0, pr_i_1]; first | assumption | decide | exact ⟨by assumption, by assumption⟩ | exact ⟨Or.inl (by assumption), by assumption⟩ | omega) | decide | exact ⟨Or.inl (by assumption), by assumption⟩ | exact ⟨by assumption, by assumption⟩ | omega)⟩, (by first | assumption | (simp only [v1, g7, g5, g6t, g6f, g8t, g8f, gtt, gtf, gft, gff, pr_i_0, pr_i_1]; first | assumption | decide | exact ⟨by assumption, by assumption⟩ | exact ⟨Or.inl (by assumption), by assumption⟩ | omega) | decide | exact ⟨Or.inl (by assumption), by assumption⟩ | exact ⟨by assumption, by assumption⟩ | omega)⟩, (by first | assumption | (simp only [v1, g7, g5, g6t, g6f, g8t, g8f, gtt, gtf, gft, gff, pr_i_0, pr_i_1]; first | assumption | decide | exact ⟨by assumption, by assumption⟩ | exact ⟨Or.inl (by assumption), by assumption⟩ | omega) | decide | exact ⟨Or.inl (by assumption), by assumption⟩ | exact ⟨by assumption, by assumption⟩ | omega)⟩ ?_
          try simp only [v1, g7, g5, g6t, g6f, g8t, g8f, gtt, gtf, gft, gff, pr_i_0, pr_i_1]
          refine pr_ifT rfl (fun h22 => ?_) (fun h22 => ?_)
          · simp only [ab_cmp, pr_i_0, pr_i_1] at h22
            first
            | contradiction
            | exact absurd trivial h22
            | exact absurd h22 (by decide)
            | exact absurd (Classical.not_not.mp h22) (by decide)
            | skip
              refine pr_seqT (pc' := 46) 5 rfl ⟨⟨⟨⟨⟨trivial, trivial⟩, (by exact ⟨by assumption, by first | exact Or.inl rfl | exact Or.inr rfl⟩)⟩, (by first | assumption | (simp only [v1, g7, g5, g6t, g6f, g8t, g8f, gtt, gtf, gft, gff, pr_i_0, pr_i_1]; first | assumption | decide | exact ⟨by assumption, by assumption⟩ | exact ⟨Or.inl (by assumption), by assumption⟩ | omega) | decide | exact ⟨Or.inl (by assumption), by assumption⟩ | exact ⟨by assumption, by assumption⟩ | omega)⟩, (by first | assumption | (simp only [v1, g7, g5, g6t, g6f, g8t, g8f, gtt, gtf, gft, gff, pr_i_0, pr_i_1]; first | assumption | decide | exact ⟨by assumption, by assumption⟩ | exact ⟨Or.inl (by assumption), by assumption⟩ | omega) | decide | exact ⟨Or.inl (by assumption), by assumption⟩ | exact ⟨by assumption, by assumption⟩ | omega)⟩, (by first | assumption | (simp only [v1, g7, g5, g6t, g6f, g8t, g8f, gtt, gtf, gft, gff, pr_i_0, pr_i_1]; first | assumption | decide | exact ⟨by assumption, by assumption⟩ | exact ⟨Or.inl (by assumption), by assumption⟩ | omega) | decide | exact ⟨Or.inl (by assumption), by assumption⟩ | exact ⟨by assumption, by assumption⟩ | omega)⟩ ?_
              try simp only [v1, g7, g5, g6t, g6f, g8t, g8f, gtt, gtf, gft, gff, pr_i_0, pr_i_1]
              refine pr_ifT rfl (fun h46 => ?_) (fun h46 => ?_)
              · simp only [ab_cmp, pr_i_0, pr_i_1] at h46
                first
                | contradiction
                | exact absurd trivial h46
                | exact absurd h46 (by decide)
                | exact absurd (Classical.not_not.mp h46) (by decide)
                | skip
                  refine pr_seqT (pc' := 75) 8 rfl ⟨⟨⟨⟨⟨⟨⟨⟨trivial, trivial⟩, (by exact ⟨by assumption, by first | exact Or.inl rfl | exact Or.inr rfl⟩)⟩, (by first | assumption | (simp only [v1, g7, g5, g6t, g6f, g8t, g8f, gtt, gtf, gft, gff, pr_i_0, pr_i_1]; first | assumption | decide | exact ⟨by assumption, by assumption⟩ | exact ⟨Or.inl (by assumption), by assumption⟩ | omega) | decide | exact ⟨Or.inl (by assumption), by assumption⟩ | exact ⟨by assumption, by assumption⟩ | omega)⟩, trivial⟩, (by first | assumption | (simp only [v1, g7, g5, g6t, g6f, g8t, g8f, gtt, gtf, gft, gff, pr_i_0, pr_i_1]; first | assumption | decide | exact ⟨by assumption, by assumption⟩ | exact ⟨Or.inl (by assumption), by assumption⟩ | omega) | decide | exact ⟨Or.inl (by assumption), by assumption⟩ | exact ⟨by assumption, by assumption⟩ | omega)⟩, trivial⟩, trivial⟩, (by first | assumption | (simp only [v1, g7, g5, g6t, g6f, g8t, g8f, gtt, gtf, gft, gff, pr_i_0, pr_i_1]; first | assumption | decide | exact ⟨by assumption, by assumption⟩ | exact ⟨Or.inl (by assumption), by assumption⟩ | omega) | decide | exact ⟨Or.inl (by assumption), by assumption⟩ | exact ⟨by assumption, by assumption⟩ | omega)⟩ ?_
                  try simp only [v1, g7, g5, g6t, g6f, g8t, g8f, gtt, gtf, gft, gff, pr_i_0, pr_i_1]
                  exact pr_vrT rfl rfl (by exact ⟨rfl, rfl, f0⟩)
              · simp only [ab_cmp, pr_i_0, pr_i_1] at h46
                first
                | contradiction
                | exact absurd trivial h46
                | exact absurd h46 (by decide)
                | exact absurd (Classical.not_not.mp h46) (by decide)
                | skip
                  refine pr_seqT (pc' := 54) 3 rfl ⟨⟨⟨trivial, trivial⟩, (by first | assumption | (simp only [v1, g7, g5, g6t, g6f, g8t, g8f, gtt, gtf, gft, gff, pr_i_0, pr_i_1]; first | assumption | decide | exact ⟨by assumption, by assumption⟩ | exact ⟨Or.inl (by assumption), by assumption⟩ | omega) | decide | exact ⟨Or.inl (by assumption), by assumption⟩ | exact ⟨by assumption, by assumption⟩ | omega)⟩, (by first | assumption | (simp only [v1, g7, g5, g6t, g6f, g8t, g8f, gtt, gtf, gft, gff, pr_i_0, pr_i_1]; first | assumption | decide | exact ⟨by assumption, by assumption⟩ | exact ⟨Or.inl (by assumption), by assumption⟩ | omega) | decide | exact ⟨Or.inl (by assumption), by assumption⟩ | exact ⟨by assumption, by assumption⟩ | omega)⟩ ?_
                  try simp only [v1, g7, g5, g6t, g6f, g8t, g8f, gtt, gtf, gft, gff, pr_i_0, pr_i_1]
                  refine pr_icT rfl (fun h54 => ?_) (fun h54 => ?_)
                  · simp only [ab_cmp, pr_i_0, pr_i_1] at h54
                    first
                    | contradiction
                    | exact absurd trivial h54
                    | exact absurd h54 (by decide)
                    | exact absurd (Classical.not_not.mp h54) (by decide)
                    | skip
                      refine pr_seqT (pc' := 75) 8 rfl ⟨⟨⟨⟨⟨⟨⟨⟨trivial, trivial⟩, (by exact ⟨by assumption, by first | exact Or.inl rfl | exact Or.inr rfl⟩)⟩, (by first | assumption | (simp only [v1, g7, g5, g6t, g6f, g8t, g8f, gtt, gtf, gft, gff, pr_i_0, pr_i_1]; first | assumption | decide | exact ⟨by assumption, by assumption⟩ | exact ⟨Or.inl (by assumption), by assumption⟩ | omega) | decide | exact ⟨Or.inl (by assumption), by assumption⟩ | exact ⟨by assumption, by assumption⟩ | omega)⟩, trivial⟩, (by first | assumption | (simp only [v1, g7, g5, g6t, g6f, g8t, g8f, gtt, gtf, gft, gff, pr_i_0, pr_i_1]; first | assumption | decide | exact ⟨by assumption, by assumption⟩ | exact ⟨Or.inl (by assumption), by assumption⟩ | omega) | decide | exact ⟨Or.inl (by assumption), by assumption⟩ | exact ⟨by assumption, by assumption⟩ | omega)⟩, trivial⟩, trivial⟩, (by first | assumption | (simp only [v1, g7, g5, g6t, g6f, g8t, g8f, gtt, gtf, gft, gff, pr_i_0, pr_i_1]; first | assumption | decide | exact ⟨by assumption, by assumption⟩ | exact ⟨Or.inl (by assumption), by assumption⟩ | omega) | decide | exact ⟨Or.inl (by assumption), by assumption⟩ | exact ⟨by assumption, by assumption⟩ | omega)⟩ ?_
                      try simp only [v1, g7, g5, g6t, g6f, g8t, g8f, gtt, gtf, gft, gff, pr_i_0, pr_i_1]
                      exact pr_vrT rfl rfl (by exact ⟨rfl, rfl, f0⟩)
                  · simp only [ab_cmp, pr_i_0, pr_i_1] at h54
                    first
                    | contradiction
                    | exact absurd trivial h54
                    | exact absurd h54 (by decide)
                    | exact absurd (Classical.not_not.mp h54) (by decide)
                    | skip
                      refine pr_seqT (pc' := 75) 9 rfl ⟨⟨⟨⟨⟨⟨⟨⟨⟨trivial, trivial⟩, trivial⟩, (by exact ⟨by assumption, by first | exact Or.inl rfl | exact Or.inr rfl⟩)⟩, (by first | assumption | (simp only [v1, g7, g5, g6t, g6f, g8t, g8f, gtt, gtf, gft, gff, pr_i_0, pr_i_1]; first | assumption | decide | exact ⟨by assumption, by assumption⟩ | exact ⟨Or.inl (by assumption), by assumption⟩ | omega) | decide | exact ⟨Or.inl (by assumption), by assumption⟩ | exact ⟨by assumption, by assumption⟩ | omega)⟩, trivial⟩, (by first | assumption | (simp only [v1, g7, g5, g6t, g6f, g8t, g8f, gtt, gtf, gft, gff, pr_i_0, pr_i_1]; first | assumption | decide | exact ⟨by assumption, by assumption⟩ | exact ⟨Or.inl (by assumption), by assumption⟩ | omega) | decide | exact ⟨Or.inl (by assumption), by assumption⟩ | exact ⟨by assumption, by assumption⟩ | omega)⟩, trivial⟩, trivial⟩, (by first | assumption | (simp only [v1, g7, g5, g6t, g6f, g8t, g8f, gtt, gtf, gft, gff, pr_i_0, pr_i_1]; first | assumption | decide | exact ⟨by assumption, by assumption⟩ | exact ⟨Or.inl (by assumption), by assumption⟩ | omega) | decide | exact ⟨Or.inl (by assumption), by assumption⟩ | exact ⟨by assumption, by assumption⟩ | omega)⟩ ?_
                      try simp only [v1, g7, g5, g6t, g6f, g8t, g8f, gtt, gtf, gft, gff, pr_i_0, pr_i_1]
                      exact pr_vrT rfl rfl (by exact ⟨rfl, rfl, f0⟩)
          · simp only [ab_cmp, pr_i_0, pr_i_1] at h22
            first
            | contradiction
            | exact absurd trivial h22
            | exact absurd h22 (by decide)
            | exact absurd (Classical.not_not.mp h22) (by decide)
            | skip
              refine pr_seqT (pc' := 30) 3 rfl ⟨⟨⟨trivial, trivial⟩, (by first | assumption | (simp only [v1, g7, g5, g6t, g6f, g8t, g8f, gtt, gtf, gft, gff, pr_i_0, pr_i_1]; first | assumption | decide | exact ⟨by assumption, by assumption⟩ | exact ⟨Or.inl (by assumption), by assumption⟩ | omega) | decide | exact ⟨Or.inl (by assumption), by assumption⟩ | exact ⟨by assumption, by assumption⟩ | omega)⟩, (by first | assumption | (simp only [v1, g7, g5, g6t, g6f, g8t, g8f, gtt, gtf, gft, gff, pr_i_0, pr_i_1]; first | assumption | decide | exact ⟨by assumption, by assumption⟩ | exact ⟨Or.inl (by assumption), by assumption⟩ | omega) | decide | exact ⟨Or.inl (by assumption), by assumption⟩ | exact ⟨by assumption, by assumption⟩ | omega)⟩ ?_
              try simp only [v1, g7, g5, g6t, g6f, g8t, g8f, gtt, gtf, gft, gff, pr_i_0, pr_i_1]
              refine pr_icT rfl (fun h30 => ?_) (fun h30 => ?_)
              · simp only [ab_cmp, pr_i_0, pr_i_1] at h30
                first
                | contradiction
                | exact absurd trivial h30
                | exact absurd h30 (by decide)
                | exact absurd (Classical.not_not.mp h30) (by decide)
                | skip
                  refine pr_seqT (pc' := 46) 5 rfl ⟨⟨⟨⟨⟨trivial, trivial⟩, (by exact ⟨by assumption, by first | exact Or.inl rfl | exact Or.inr rfl⟩)⟩, (by first | assumption | (simp only [v1, g7, g5, g6t, g6f, g8t, g8f, gtt, gtf, gft, gff, pr_i_0, pr_i_1]; first | assumption | decide | exact ⟨by assumption, by assumption⟩ | exact ⟨Or.inl (by assumption), by assumption⟩ | omega) | decide | exact ⟨Or.inl (by assumption), by assumption⟩ | exact ⟨by assumption, by assumption⟩ | omega)⟩, (by first | assumption | (simp only [v1, g7, g5, g6t, g6f, g8t, g8f, gtt, gtf, gft, gff, pr_i_0, pr_i_1]; first | assumption | decide | exact ⟨by assumption, by assumption⟩ | exact ⟨Or.inl (by assumption), by assumption⟩ | omega) | decide | exact ⟨Or.inl (by assumption), by assumption⟩ | exact ⟨by assumption, by assumption⟩ | omega)⟩, (by first | assumption | (simp only [v1, g7, g5, g6t, g6f, g8t, g8f, gtt, gtf, gft, gff, pr_i_0, pr_i_1]; first | assumption | decide | exact ⟨by assumption, by assumption⟩ | exact ⟨Or.inl (by assumption), by assumption⟩ | omega) | decide | exact ⟨Or.inl (by assumption), by assumption⟩ | exact ⟨by assumption, by assumption⟩ | omega)⟩ ?_
                  try simp only [v1, g7, g5, g6t, g6f, g8t, g8f, gtt, gtf, gft, gff, pr_i_0, pr_i_1]
                  refine pr_ifT rfl (fun h46 => ?_) (fun h46 => ?_)
                  · simp only [ab_cmp, pr_i_0, pr_i_1] at h46
                    first
                    | contradiction
                    | exact absurd trivial h46
                    | exact absurd h46 (by decide)
                    | exact absurd (Classical.not_not.mp h46) (by decide)
                    | skip
                      refine pr_seqT (pc' := 75) 8 rfl ⟨⟨⟨⟨⟨⟨⟨⟨trivial, trivial⟩, (by exact ⟨by assumption, by first | exact Or.inl rfl | exact Or.inr rfl⟩)⟩, (by first | assumption | (simp only [v1, g7, g5, g6t, g6f, g8t, g8f, gtt, gtf, gft, gff, pr_i_0, pr_i_1]; first | assumption | decide | exact ⟨by assumption, by assumption⟩ | exact ⟨Or.inl (by assumption), by assumption⟩ | omega) | decide | exact ⟨Or.inl (by assumption), by assumption⟩ | exact ⟨by assumption, by assumption⟩ | omega)⟩, trivial⟩, (by first | assumption | (simp only [v1, g7, g5, g6t, g6f, g8t, g8f, gtt, gtf, gft, gff, pr_i_0, pr_i_1]; first | assumption | decide | exact ⟨by assumption, by assumption⟩ | exact ⟨Or.inl (by assumption), by assumption⟩ | omega) | decide | exact ⟨Or.inl (by assumption), by assumption⟩ | exact ⟨by assumption, by assumption⟩ | omega)⟩, trivial⟩, trivial⟩, (by first | assumption | (simp only [v1, g7, g5, g6t, g6f, g8t, g8f, gtt, gtf, gft, gff, pr_i_0, pr_i_1]; first | assumption | decide | exact ⟨by assumption, by assumption⟩ | exact ⟨Or.inl (by assumption), by assumption⟩ | omega) | decide | exact ⟨Or.inl (by assumption), by assumption⟩ | exact ⟨by assumption, by assumption⟩ | omega)⟩ ?_
                      try simp only [v1, g7, g5, g6t, g6f, g8t, g8f, gtt, gtf, gft, gff, pr_i_0, pr_i_1]
                      exact pr_vrT rfl rfl (by exact ⟨rfl, rfl, f0⟩)
                  · simp only [ab_cmp, pr_i_0, pr_i_1] at h46
                    first
                    | contradiction
                    | exact absurd trivial h46
                    | exact absurd h46 (by decide)
                    | exact absurd (Classical.not_not.mp h46) (by decide)
                    | skip
                      refine pr_seqT (pc' := 54) 3 rfl ⟨⟨⟨trivial, trivial⟩, (by first | assumption | (simp only [v1, g7, g5, g6t, g6f, g8t, g8f, gtt, gtf, gft, gff, pr_i_0, pr_i_1]; first | assumption | decide | exact ⟨by assumption, by assumption⟩ | exact ⟨Or.inl (by assumption), by assumption⟩ | omega) | decide | exact ⟨Or.inl (by assumption), by assumption⟩ | exact ⟨by assumption, by assumption⟩ | omega)⟩, (by first | assumption | (simp only [v1, g7, g5, g6t, g6f, g8t, g8f, gtt, gtf, gft, gff, pr_i_0, pr_i_1]; first | assumption | decide | exact ⟨by assumption, by assumption⟩ | exact ⟨Or.inl (by assumption), by assumption⟩ | omega) | decide | exact ⟨Or.inl (by assumption), by assumption⟩ | exact ⟨by assumption, by assumption⟩ | omega)⟩ ?_
                      try simp only [v1, g7, g5, g6t, g6f, g8t, g8f, gtt, gtf, gft, gff, pr_i_0, pr_i_1]
                      refine pr_icT rfl (fun h54 => ?_) (fun h54 => ?_)
                      · simp only [ab_cmp, pr_i_0, pr_i_1] at h54
                        first
                        | contradiction
                        | exact absurd trivial h54
                        | exact absurd h54 (by decide)
                        | exact absurd (Classical.not_not.mp h54) (by decide)
                        | skip
                          refine pr_seqT (pc' := 75) 8 rfl ⟨⟨⟨⟨⟨⟨⟨⟨trivial, trivial⟩, (by exact ⟨by assumption, by first | exact Or.inl rfl | exact Or.inr rfl⟩)⟩, (by first | assumption | (simp only [v1, g7, g5, g6t, g6f, g8t, g8f, gtt, gtf, gft, gff, pr_i_0, pr_i_1]; first | assumption | decide | exact ⟨by assumption, by assumption⟩ | exact ⟨Or.inl (by assumption), by assumption⟩ | omega) | decide | exact ⟨Or.inl (by assumption), by assumption⟩ | exact ⟨by assumption, by assumption⟩ | omega)⟩, trivial⟩, (by first | assumption | (simp only [v1, g7, g5, g6t, g6f, g8t, g8f, gtt, gtf, gft, gff, pr_i_0, pr_i_1]; first | assumption | decide | exact ⟨by assumption, by assumption⟩ | exact ⟨Or.inl (by assumption), by assumption⟩ | omega) | decide | exact ⟨Or.inl (by assumption), by assumption⟩ | exact ⟨by assumption, by assumption⟩ | omega)⟩, trivial⟩, trivial⟩, (by first | assumption | (simp only [v1, g7, g5, g6t, g6f, g8t, g8f, gtt, gtf, gft, gff, pr_i_0, pr_i_1]; first | assumption | decide | exact ⟨by assumption, by assumption⟩ | exact ⟨Or.inl (by assumption), by assumption⟩ | omega) | decide | exact ⟨Or.inl (by assumption), by assumption⟩ | exact ⟨by assumption, by assumption⟩ | omega)⟩ ?_
                          try simp only [v1, g7, g5, g6t, g6f, g8t, g8f, gtt, gtf, gft, gff, pr_i_0, pr_i_1]
                          exact pr_vrT rfl rfl (by exact ⟨rfl, rfl, f0⟩)
                      · simp only [ab_cmp, pr_i_0, pr_i_1] at h54
                        first
                        | contradiction
                        | exact absurd trivial h54
                        | exact absurd h54 (by decide)
                        | exact absurd (Classical.not_not.mp h54) (by decide)
                        | skip
                          refine pr_seqT (pc' := 75) 9 rfl ⟨⟨⟨⟨⟨⟨⟨⟨⟨trivial, trivial⟩, trivial⟩, (by exact ⟨by assumption, by first | exact Or.inl rfl | exact Or.inr rfl⟩)⟩, (by first | assumption | (simp only [v1, g7, g5, g6t, g6f, g8t, g8f, gtt, gtf, gft, gff, pr_i_0, pr_i_1]; first | assumption | decide | exact ⟨by assumption, by assumption⟩ | exact ⟨Or.inl (by assumption), by assumption⟩ | omega) | decide | exact ⟨Or.inl (by assumption), by assumption⟩ | exact ⟨by assumption, by assumption⟩ | omega)⟩, trivial⟩, (by first | assumption | (simp only [v1, g7, g5, g6t, g6f, g8t, g8f, gtt, gtf, gft, gff, pr_i_0, pr_i_1]; first | assumption | decide | exact ⟨by assumption, by assumption⟩ | exact ⟨Or.inl (by assumption), by assumption⟩ | omega) | decide | exact ⟨Or.inl (by assumption), by assumption⟩ | exact ⟨by assumption, by assumption⟩ | omega)⟩, trivial⟩, trivial⟩, (by first | assumption | (simp only [v1, g7, g5, g6t, g6f, g8t, g8f, gtt, gtf, gft, gff, pr_i_0, pr_i_1]; first | assumption | decide | exact ⟨by assumption, by assumption⟩ | exact ⟨Or.inl (by assumption), by assumption⟩ | omega) | decide | exact ⟨Or.inl (by assumption), by assumption⟩ | exact ⟨by assumption, by assumption⟩ | omega)⟩ ?_
                          try simp only [v1, g7, g5, g6t, g6f, g8t, g8f, gtt, gtf, gft, gff, pr_i_0, pr_i_1]
                          exact pr_vrT rfl rfl (by exact ⟨rfl, rfl, f0⟩)
              · simp only [ab_cmp, pr_i_0, pr_i_1] at h30
                first
                | contradiction
                | exact absurd trivial h30
                | exact absurd h30 (by decide)
                | exact absurd (Classical.not_not.mp h30) (by decide)
                | skip
                  refine pr_seqT (pc' := 46) 6 rfl ⟨⟨⟨⟨⟨⟨trivial, trivial⟩, trivial⟩, (by exact ⟨by assumption, by first | exact Or.inl rfl | exact Or.inr rfl⟩)⟩, (by first | assumption | (simp only [v1, g7, g5, g6t, g6f, g8t, g8f, gtt, gtf, gft, gff, pr_i_0, pr_i_1]; first | assumption | decide | exact ⟨by assumption, by assumption⟩ | exact ⟨Or.inl (by assumption), by assumption⟩ | omega) | decide | exact ⟨Or.inl (by assumption), by assumption⟩ | exact ⟨by assumption, by assumption⟩ | omega)⟩, (by first | assumption | (simp only [v1, g7, g5, g6t, g6f, g8t, g8f, gtt, gtf, gft, gff, pr_i_0, pr_i_1]; first | assumption | decide | exact ⟨by assumption, by assumption⟩ | exact ⟨Or.inl (by assumption), by assumption⟩ | omega) | decide | exact ⟨Or.inl (by assumption), by assumption⟩ | exact ⟨by assumption, by assumption⟩ | omega)⟩, (by first | assumption | (simp only [v1, g7, g5, g6t, g6f, g8t, g8f, gtt, gtf, gft, gff, pr_i_0, pr_i_1]; first | assumption | decide | exact ⟨by assumption, by assumption⟩ | exact ⟨Or.inl (by assumption), by assumption⟩ | omega) | decide | exact ⟨Or.inl (by assumption), by assumption⟩ | exact ⟨by assumption, by assumption⟩ | omega)⟩ ?_
                  try simp only [v1, g7, g5, g6t, g6f, g8t, g8f, gtt, gtf, gft, gff, pr_i_0, pr_i_1]
                  refine pr_ifT rfl (fun h46 => ?_) (fun h46 => ?_)
                  · simp only [ab_cmp, pr_i_0, pr_i_1] at h46
                    first
                    | contradiction
                    | exact absurd trivial h46
                    | exact absurd h46 (by decide)
                    | exact absurd (Classical.not_not.mp h46) (by decide)
                    | skip
                      refine pr_seqT (pc' := 75) 8 rfl ⟨⟨⟨⟨⟨⟨⟨⟨trivial, trivial⟩, (by exact ⟨by assumption, by first | exact Or.inl rfl | exact Or.inr rfl⟩)⟩, (by first | assumption | (simp only [v1, g7, g5, g6t, g6f, g8t, g8f, gtt, gtf, gft, gff, pr_i_0, pr_i_1]; first | assumption | decide | exact ⟨by assumption, by assumption⟩ | exact ⟨Or.inl (by assumption), by assumption⟩ | omega) | decide | exact ⟨Or.inl (by assumption), by assumption⟩ | exact ⟨by assumption, by assumption⟩ | omega)⟩, trivial⟩, (by first | assumption | (simp only [v1, g7, g5, g6t, g6f, g8t, g8f, gtt, gtf, gft, gff, pr_i_0, pr_i_1]; first | assumption | decide | exact ⟨by assumption, by assumption⟩ | exact ⟨Or.inl (by assumption), by assumption⟩ | omega) | decide | exact ⟨Or.inl (by assumption), by assumption⟩ | exact ⟨by assumption, by assumption⟩ | omega)⟩, trivial⟩, trivial⟩, (by first | assumption | (simp only [v1, g7, g5, g6t, g6f, g8t, g8f, gtt, gtf, gft, gff, pr_i_0, pr_i_1]; first | assumption | decide | exact ⟨by assumption, by assumption⟩ | exact ⟨Or.inl (by assumption), by assumption⟩ | omega) | decide | exact ⟨Or.inl (by assumption), by assumption⟩ | exact ⟨by assumption, by assumption⟩ | omega)⟩ ?_
                      try simp only [v1, g7, g5, g6t, g6f, g8t, g8f, gtt, gtf, gft, gff, pr_i_0, pr_i_1]
                      exact pr_vrT rfl rfl (by exact ⟨rfl, rfl, f0⟩)
                  · simp only [ab_cmp, pr_i_0, pr_i_1] at h46
                    first
                    | contradiction
                    | exact absurd trivial h46
                    | exact absurd h46 (by decide)
                    | exact absurd (Classical.not_not.mp h46) (by decide)
                    | skip
                      refine pr_seqT (pc' := 54) 3 rfl ⟨⟨⟨trivial, trivial⟩, (by first | assumption | (simp only [v1, g7, g5, g6t, g6f, g8t, g8f, gtt, gtf, gft, gff, pr_i_0, pr_i_1]; first | assumption | decide | exact ⟨by assumption, by assumption⟩ | exact ⟨Or.inl (by assumption), by assumption⟩ | omega) | decide | exact ⟨Or.inl (by assumption), by assumption⟩ | exact ⟨by assumption, by assumption⟩ | omega)⟩, (by first | assumption | (simp only [v1, g7, g5, g6t, g6f, g8t, g8f, gtt, gtf, gft, gff, pr_i_0, pr_i_1]; first | assumption | decide | exact ⟨by assumption, by assumption⟩ | exact ⟨Or.inl (by assumption), by assumption⟩ | omega) | decide | exact ⟨Or.inl (by assumption), by assumption⟩ | exact ⟨by assumption, by assumption⟩ | omega)⟩ ?_
                      try simp only [v1, g7, g5, g6t, g6f, g8t, g8f, gtt, gtf, gft, gff, pr_i_0, pr_i_1]
                      refine pr_icT rfl (fun h54 => ?_) (fun h54 => ?_)
                      · simp only [ab_cmp, pr_i_0, pr_i_1] at h54
                        first
                        | contradiction
                        | exact absurd trivial h54
                        | exact absurd h54 (by decide)
                        | exact absurd (Classical.not_not.mp h54) (by decide)
                        | skip
                          refine pr_seqT (pc' := 75) 8 rfl ⟨⟨⟨⟨⟨⟨⟨⟨trivial, trivial⟩, (by exact ⟨by assumption, by first | exact Or.inl rfl | exact Or.inr rfl⟩)⟩, (by first | assumption | (simp only [v1, g7, g5, g6t, g6f, g8t, g8f, gtt, gtf, gft, gff, pr_i_0, pr_i_1]; first | assumption | decide | exact ⟨by assumption, by assumption⟩ | exact ⟨Or.inl (by assumption), by assumption⟩ | omega) | decide | exact ⟨Or.inl (by assumption), by assumption⟩ | exact ⟨by assumption, by assumption⟩ | omega)⟩, trivial⟩, (by first | assumption | (simp only [v1, g7, g5, g6t, g6f, g8t, g8f, gtt, gtf, gft, gff, pr_i_0, pr_i_1]; first | assumption | decide | exact ⟨by assumption, by assumption⟩ | exact ⟨Or.inl (by assumption), by assumption⟩ | omega) | decide | exact ⟨Or.inl (by assumption), by assumption⟩ | exact ⟨by assumption, by assumption⟩ | omega)⟩, trivial⟩, trivial⟩, (by first | assumption | (simp only [v1, g7, g5, g6t, g6f, g8t, g8f, gtt, gtf, gft, gff, pr_i_0, pr_i_1]; first | assumption | decide | exact ⟨by assumption, by assumption⟩ | exact ⟨Or.inl (by assumption), by assumption⟩ | omega) | decide | exact ⟨Or.inl (by assumption), by assumption⟩ | exact ⟨by assumption, by assumption⟩ | omega)⟩ ?_
                          try simp only [v1, g7, g5, g6t, g6f, g8t, g8f, gtt, gtf, gft, gff, pr_i_0, pr_i_1]
                          exact pr_vrT rfl rfl (by exact ⟨rfl, rfl, f0⟩)
                      · simp only [ab_cmp, pr_i_0, pr_i_1] at h54
                        first
                        | contradiction
                        | exact absurd trivial h54
                        | exact absurd h54 (by decide)
                        | exact absurd (Classical.not_not.mp h54) (by decide)
                        | skip
                          refine pr_seqT (pc' := 75) 9 rfl ⟨⟨⟨⟨⟨⟨⟨⟨⟨trivial, trivial⟩, trivial⟩, (by exact ⟨by assumption, by first | exact Or.inl rfl | exact Or.inr rfl⟩)⟩, (by first | assumption | (simp only [v1, g7, g5, g6t, g6f, g8t, g8f, gtt, gtf, gft, gff, pr_i_0, pr_i_1]; first | assumption | decide | exact ⟨by assumption, by assumption⟩ | exact ⟨Or.inl (by assumption), by assumption⟩ | omega) | decide | exact ⟨Or.inl (by assumption), by assumption⟩ | exact ⟨by assumption, by assumption⟩ | omega)⟩, trivial⟩, (by first | assumption | (simp only [v1, g7, g5, g6t, g6f, g8t, g8f, gtt, gtf, gft, gff, pr_i_0, pr_i_1]; first | assumption | decide | exact ⟨by assumption, by assumption⟩ | exact ⟨Or.inl (by assumption), by assumption⟩ | omega) | decide | exact ⟨Or.inl (by assumption), by assumption⟩ | exact ⟨by assumption, by assumption⟩ | omega)⟩, trivial⟩, trivial⟩, (by first | assumption | (simp only [v1, g7, g5, g6t, g6f, g8t, g8f, gtt, gtf, gft, gff, pr_i_0, pr_i_1]; first | assumption | decide | exact ⟨by assumption, by assumption⟩ | exact ⟨Or.inl (by assumption), by assumption⟩ | omega) | decide | exact ⟨Or.inl (by assumption), by assumption⟩ | exact ⟨by assumption, by assumption⟩ | omega)⟩ ?_
                          try simp only [v1, g7, g5, g6t, g6f, g8t, g8f, gtt, gtf, gft, gff, pr_i_0, pr_i_1]
                          exact pr_vrT rfl rfl (by exact ⟨rfl, rfl, f0⟩)
      · simp only [ab_cmp, pr_i_0, pr_i_1] at h4
        first
        | contradiction
        | exact absurd trivial h4
        | exact absurd h4 (by decide)
        | exact absurd (Classical.not_not.mp h4) (by decide)
        | skip
          refine pr_seqT (pc' := 22) 9 rfl ⟨⟨⟨⟨⟨⟨⟨⟨⟨trivial, (by first | assumption | (simp only [v1, g7, g5, g6t, g6f, g8t, g8f, gtt, gtf, gft, gff, pr_i_0, pr_i_1]; first | assumption | decide | exact ⟨by assumption, by assumption⟩ | exact ⟨Or.inl (by assumption), by assumption⟩ | omega) | decide | exact ⟨Or.inl (by assumption), by assumption⟩ | exact ⟨by assumption, by assumption⟩ | omega)⟩, trivial⟩, (by first | assumption | (simp only [v1, g7, g5, g6t, g6f, g8t, g8f, gtt, gtf, gft, gff, pr_i_0, pr_i_1]; first | assumption | decide | exact ⟨by assumption, by assumption⟩ | exact ⟨Or.inl (by assumption), by assumption⟩ | omega) | decide | exact ⟨Or.inl (by assumption), by assumption⟩ | exact ⟨by assumption, by assumption⟩ | omega)⟩, (by first | assumption | (simp only [v1, g7, g5, g6t, g6f, g8t, g8f, gtt, gtf, gft, gff, pr_i_0, pr_i_1]; first | assumption | decide | exact ⟨by assumption, by assumption⟩ | exact ⟨Or.inl (by assumption), by assumption⟩ | omega) | decide | exact ⟨Or.inl (by assumption), by assumption⟩ | exact ⟨by assumption, by assumption⟩ | omega)⟩, trivial⟩, (by first | assumption | (simp only [v1, g7, g5, g6t, g6f, g8t, g8f, gtt, gtf, gft, gff, pr_i_0, pr_i_1]; first | assumption | decide | exact ⟨by assumption, by assumption⟩ | exact ⟨Or.inl (by assumption), by assumption⟩ | omega) | decide | exact ⟨Or.inl (by assumption), by assumption⟩ | exact ⟨by assumption, by assumption⟩ | omega)⟩, (by first | assumption | (simp only [v1, g7, g5, g6t, g6f, g8t, g8f, gtt, gtf, gft, gff, pr_i_0, pr_i_1]; first | assumption | decide | exact ⟨by assumption, by assumption⟩ | exact ⟨Or.inl (by assumption), by assumption⟩ | omega) | decide | exact ⟨Or.inl (by assumption), by assumption⟩ | exact ⟨by assumption, by assumption⟩ | omega)⟩, (by first | assumption | (simp only [v1, g7, g5, g6t, g6f, g8t, g8f, gtt, gtf, gft, gff, pr_i_0, pr_i_1]; first | assumption | decide | exact ⟨by assumption, by assumption⟩ | exact ⟨Or.inl (by assumption), by assumption⟩ | omega) | decide | exact ⟨Or.inl (by assumption), by assumption⟩ | exact ⟨by assumption, by assumption⟩ | omega)⟩, (by first | assumption | (simp only [v1, g7, g5, g6t, g6f, g8t, g8f, gtt, gtf, gft, gff, pr_i_0, pr_i_1]; first | assumption | decide | exact ⟨by assumption, by assumption⟩ | exact ⟨Or.inl (by assumption), by assumption⟩ | omega) | decide | exact ⟨Or.inl (by assumption), by assumption⟩ | exact ⟨by assumption, by assumption⟩ | omega)⟩ ?_
          try simp only [v1, g7, g5, g6t, g6f, g8t, g8f, gtt, gtf, gft, gff, pr_i_0, pr_i_1]
          refine pr_ifT rfl (fun h22 => ?_) (fun h22 => ?_)
          · simp only [ab_cmp, pr_i_0, pr_i_1] at h22
            first
            | contradiction
            | exact absurd trivial h22
            | exact absurd h22 (by decide)
            | exact absurd (Classical.not_not.mp h22) (by decide)
            | skip
              refine pr_seqT (pc' := 46) 5 rfl ⟨⟨⟨⟨⟨trivial, trivial⟩, (by exact ⟨by assumption, by first | exact Or.inl rfl | exact Or.inr rfl⟩)⟩, (by first | assumption | (simp only [v1, g7, g5, g6t, g6f, g8t, g8f, gtt, gtf, gft, gff, pr_i_0, pr_i_1]; first | assumption | decide | exact ⟨by assumption, by assumption⟩ | exact ⟨Or.inl (by assumption), by assumption⟩ | omega) | decide | exact ⟨Or.inl (by assumption), by assumption⟩ | exact ⟨by assumption, by assumption⟩ | omega)⟩, (by first | assumption | (simp only [v1, g7, g5, g6t, g6f, g8t, g8f, gtt, gtf, gft, gff, pr_i_0, pr_i_1]; first | assumption | decide | exact ⟨by assumption, by assumption⟩ | exact ⟨Or.inl (by assumption), by assumption⟩ | omega) | decide | exact ⟨Or.inl (by assumption), by assumption⟩ | exact ⟨by assumption, by assumption⟩ | omega)⟩, (by first | assumption | (simp only [v1, g7, g5, g6t, g6f, g8t, g8f, gtt, gtf, gft, gff, pr_i_0, pr_i_1]; first | assumption | decide | exact ⟨by assumption, by assumption⟩ | exact ⟨Or.inl (by assumption), by assumption⟩ | omega) | decide | exact ⟨Or.inl (by assumption), by assumption⟩ | exact ⟨by assumption, by assumption⟩ | omega)⟩ ?_
              try simp only [v1, g7, g5, g6t, g6f, g8t, g8f, gtt, gtf, gft, gff, pr_i_0, pr_i_1]
              refine pr_ifT rfl (fun h46 => ?_) (fun h46 => ?_)
              · simp only [ab_cmp, pr_i_0, pr_i_1] at h46
                first
                | contradiction
                | exact absurd trivial h46
                | exact absurd h46 (by decide)
                | exact absurd (Classical.not_not.mp h46) (by decide)
                | skip
                  refine pr_seqT (pc' := 75) 8 rfl ⟨⟨⟨⟨⟨⟨⟨⟨trivial, trivial⟩, (by exact ⟨by assumption, by first | exact Or.inl rfl | exact Or.inr rfl⟩)⟩, (by first | assumption | (simp only [v1, g7, g5, g6t, g6f, g8t, g8f, gtt, gtf, gft, gff, pr_i_0, pr_i_1]; first | assumption | decide | exact ⟨by assumption, by assumption⟩ | exact ⟨Or.inl (by assumption), by assumption⟩ | omega) | decide | exact ⟨Or.inl (by assumption), by assumption⟩ | exact ⟨by assumption, by assumption⟩ | omega)⟩, trivial⟩, (by first | assumption | (simp only [v1, g7, g5, g6t, g6f, g8t, g8f, gtt, gtf, gft, gff, pr_i_0, pr_i_1]; first | assumption | decide | exact ⟨by assumption, by assumption⟩ | exact ⟨Or.inl (by assumption), by assumption⟩ | omega) | decide | exact ⟨Or.inl (by assumption), by assumption⟩ | exact ⟨by assumption, by assumption⟩ | omega)⟩, trivial⟩, trivial⟩, (by first | assumption | (simp only [v1, g7, g5, g6t, g6f, g8t, g8f, gtt, gtf, gft, gff, pr_i_0, pr_i_1]; first | assumption | decide | exact ⟨by assumption, by assumption⟩ | exact ⟨Or.inl (by assumption), by assumption⟩ | omega) | decide | exact ⟨Or.inl (by assumption), by assumption⟩ | exact ⟨by assumption, by assumption⟩ | omega)⟩ ?_
                  try simp only [v1, g7, g5, g6t, g6f, g8t, g8f, gtt, gtf, gft, gff, pr_i_0, pr_i_1]
                  exact pr_vrT rfl rfl (by exact ⟨rfl, rfl, f0⟩)
              · simp only [ab_cmp, pr_i_0, pr_i_1] at h46
                first
                | contradiction
                | exact absurd trivial h46
                | exact absurd h46 (by decide)
                | exact absurd (Classical.not_not.mp h46) (by decide)
                | skip
                  refine pr_seqT (pc' := 54) 3 rfl ⟨⟨⟨trivial, trivial⟩, (by first | assumption | (simp only [v1, g7, g5, g6t, g6f, g8t, g8f, gtt, gtf, gft, gff, pr_i_0, pr_i_1]; first | assumption | decide | exact ⟨by assumption, by assumption⟩ | exact ⟨Or.inl (by assumption), by assumption⟩ | omega) | decide | exact ⟨Or.inl (by assumption), by assumption⟩ | exact ⟨by assumption, by assumption⟩ | omega)⟩, (by first | assumption | (simp only [v1, g7, g5, g6t, g6f, g8t, g8f, gtt, gtf, gft, gff, pr_i_0, pr_i_1]; first | assumption | decide | exact ⟨by assumption, by assumption⟩ | exact ⟨Or.inl (by assumption), by assumption⟩ | omega) | decide | exact ⟨Or.inl (by assumption), by assumption⟩ | exact ⟨by assumption, by assumption⟩ | omega)⟩ ?_
                  try simp only [v1, g7, g5, g6t, g6f, g8t, g8f, gtt, gtf, gft, gff, pr_i_0, pr_i_1]
                  refine pr_icT rfl (fun h54 => ?_) (fun h54 => ?_)
                  · simp only [ab_cmp, pr_i_0, pr_i_1] at h54
                    first
                    | contradiction
                    | exact absurd trivial h54
                    | exact absurd h54 (by decide)
                    | exact absurd (Classical.not_not.mp h54) (by decide)
                    | skip
                      refine pr_seqT (pc' := 75) 8 rfl ⟨⟨⟨⟨⟨⟨⟨⟨trivial, trivial⟩, (by exact ⟨by assumption, by first | exact Or.inl rfl | exact Or.inr rfl⟩)⟩, (by first | assumption | (simp only [v1, g7, g5, g6t, g6f, g8t, g8f, gtt, gtf, gft, gff, pr_i_0, pr_i_1]; first | assumption | decide | exact ⟨by assumption, by assumption⟩ | exact ⟨Or.inl (by assumption), by assumption⟩ | omega) | decide | exact ⟨Or.inl (by assumption), by assumption⟩ | exact ⟨by assumption, by assumption⟩ | omega)⟩, trivial⟩, (by first | assumption | (simp only [v1, g7, g5, g6t, g6f, g8t, g8f, gtt, gtf, gft, gff, pr_i_0, pr_i_1]; first | assumption | decide | exact ⟨by assumption, by assumption⟩ | exact ⟨Or.inl (by assumption), by assumption⟩ | omega) | decide | exact ⟨Or.inl (by assumption), by assumption⟩ | exact ⟨by assumption, by assumption⟩ | omega)⟩, trivial⟩, trivial⟩, (by first | assumption | (simp only [v1, g7, g5, g6t, g6f, g8t, g8f, gtt, gtf, gft, gff, pr_i_0, pr_i_1]; first | assumption | decide | exact ⟨by assumption, by assumption⟩ | exact ⟨Or.inl (by assumption), by assumption⟩ | omega) | decide | exact ⟨Or.inl (by assumption), by assumption⟩ | exact ⟨by assumption, by assumption⟩ | omega)⟩ ?_
                      try simp only [v1, g7, g5, g6t, g6f, g8t, g8f, gtt, gtf, gft, gff, pr_i_0, pr_i_1]
                      exact pr_vrT rfl rfl (by exact ⟨rfl, rfl, f0⟩)
                  · simp only [ab_cmp, pr_i_0, pr_i_1] at h54
                    first
                    | contradiction
                    | exact absurd trivial h54
                    | exact absurd h54 (by decide)
                    | exact absurd (Classical.not_not.mp h54) (by decide)
                    | skip
                      refine pr_seqT (pc' := 75) 9 rfl ⟨⟨⟨⟨⟨⟨⟨⟨⟨trivial, trivial⟩, trivial⟩, (by exact ⟨by assumption, by first | exact Or.inl rfl | exact Or.inr rfl⟩)⟩, (by first | assumption | (simp only [v1, g7, g5, g6t, g6f, g8t, g8f, gtt, gtf, gft, gff, pr_i_0, pr_i_1]; first | assumption | decide | exact ⟨by assumption, by assumption⟩ | exact ⟨Or.inl (by assumption), by assumption⟩ | omega) | decide | exact ⟨Or.inl (by assumption), by assumption⟩ | exact ⟨by assumption, by assumption⟩ | omega)⟩, trivial⟩, (by first | assumption | (simp only [v1, g7, g5, g6t, g6f, g8t, g8f, gtt, gtf, gft, gff, pr_i_0, pr_i_1]; first | assumption | decide | exact ⟨by assumption, by assumption⟩ | exact ⟨Or.inl (by assumption), by assumption⟩ | omega) | decide | exact ⟨Or.inl (by assumption), by assumption⟩ | exact ⟨by assumption, by assumption⟩ | omega)⟩, trivial⟩, trivial⟩, (by first | assumption | (simp only [v1, g7, g5, g6t, g6f, g8t, g8f, gtt, gtf, gft, gff, pr_i_0, pr_i_1]; first | assumption | decide | exact ⟨by assumption, by assumption⟩ | exact ⟨Or.inl (by assumption), by assumption⟩ | omega) | decide | exact ⟨Or.inl (by assumption), by assumption⟩ | exact ⟨by assumption, by assumption⟩ | omega)⟩ ?_
                      try simp only [v1, g7, g5, g6t, g6f, g8t, g8f, gtt, gtf, gft, gff, pr_i_0, pr_i_1]
                      exact pr_vrT rfl rfl (by exact ⟨rfl, rfl, f0⟩)
          · simp only [ab_cmp, pr_i_0, pr_i_1] at h22
            first
            | contradiction
            | exact absurd trivial h22
            | exact absurd h22 (by decide)
            | exact absurd (Classical.not_not.mp h22) (by decide)
            | skip
              refine pr_seqT (pc' := 30) 3 rfl ⟨⟨⟨trivial, trivial⟩, (by first | assumption | (simp only [v1, g7, g5, g6t, g6f, g8t, g8f, gtt, gtf, gft, gff, pr_i_0, pr_i_1]; first | assumption | decide | exact ⟨by assumption, by assumption⟩ | exact ⟨Or.inl (by assumption), by assumption⟩ | omega) | decide | exact ⟨Or.inl (by assumption), by assumption⟩ | exact ⟨by assumption, by assumption⟩ | omega)⟩, (by first | assumption | (simp only [v1, g7, g5, g6t, g6f, g8t, g8f, gtt, gtf, gft, gff, pr_i_0, pr_i_1]; first | assumption | decide | exact ⟨by assumption, by assumption⟩ | exact ⟨Or.inl (by assumption), by assumption⟩ | omega) | decide | exact ⟨Or.inl (by assumption), by assumption⟩ | exact ⟨by assumption, by assumption⟩ | omega)⟩ ?_
              try simp only [v1, g7, g5, g6t, g6f, g8t, g8f, gtt, gtf, gft, gff, pr_i_0, pr_i_1]
              refine pr_icT rfl (fun h30 => ?_) (fun h30 => ?_)
              · simp only [ab_cmp, pr_i_0, pr_i_1] at h30
                first
                | contradiction
                | exact absurd trivial h30
                | exact absurd h30 (by decide)
                | exact absurd (Classical.not_not.mp h30) (by decide)
                | skip
                  refine pr_seqT (pc' := 46) 5 rfl ⟨⟨⟨⟨⟨trivial, trivial⟩, (by exact ⟨by assumption, by first | exact Or.inl rfl | exact Or.inr rfl⟩)⟩, (by first | assumption | (simp only [v1, g7, g5, g6t, g6f, g8t, g8f, gtt, gtf, gft, gff, pr_i_0, pr_i_1]; first | assumption | decide | exact ⟨by assumption, by assumption⟩ | exact ⟨Or.inl (by assumption), by assumption⟩ | omega) | decide | exact ⟨Or.inl (by assumption), by assumption⟩ | exact ⟨by assumption, by assumption⟩ | omega)⟩, (by first | assumption | (simp only [v1, g7, g5, g6t, g6f, g8t, g8f, gtt, gtf, gft, gff, pr_i_0, pr_i_1]; first | assumption | decide | exact ⟨by assumption, by assumption⟩ | exact ⟨Or.inl (by assumption), by assumption⟩ | omega) | decide | exact ⟨Or.inl (by assumption), by assumption⟩ | exact ⟨by assumption, by assumption⟩ | omega)⟩, (by first | assumption | (simp only [v1, g7, g5, g6t, g6f, g8t, g8f, gtt, gtf, gft, gff, pr_i_0, pr_i_1]; first | assumption | decide | exact ⟨by assumption, by assumption⟩ | exact ⟨Or.inl (by assumption), by assumption⟩ | omega) | decide | exact ⟨Or.inl (by assumption), by assumption⟩ | exact ⟨by assumption, by assumption⟩ | omega)⟩ ?_
                  try simp only [v1, g7, g5, g6t, g6f, g8t, g8f, gtt, gtf, gft, gff, pr_i_0, pr_i_1]
                  refine pr_ifT rfl (fun h46 => ?_) (fun h46 => ?_)
                  · simp only [ab_cmp, pr_i_0, pr_i_1] at h46
                    first
                    | contradiction
                    | exact absurd trivial h46
                    | exact absurd h46 (by decide)
                    | exact absurd (Classical.not_not.mp h46) (by decide)
                    | skip
                      refine pr_seqT (pc' := 75) 8 rfl ⟨⟨⟨⟨⟨⟨⟨⟨trivial, trivial⟩, (by exact ⟨by assumption, by first | exact Or.inl rfl | exact Or.inr rfl⟩)⟩, (by first | assumption | (simp only [v1, g7, g5, g6t, g6f, g8t, g8f, gtt, gtf, gft, gff, pr_i_0, pr_i_1]; first | assumption | decide | exact ⟨by assumption, by assumption⟩ | exact ⟨Or.inl (by assumption), by assumption⟩ | omega) | decide | exact ⟨Or.inl (by assumption), by assumption⟩ | exact ⟨by assumption, by assumption⟩ | omega)⟩, trivial⟩, (by first | assumption | (simp only [v1, g7, g5, g6t, g6f, g8t, g8f, gtt, gtf, gft, gff, pr_i_0, pr_i_1]; first | assumption | decide | exact ⟨by assumption, by assumption⟩ | exact ⟨Or.inl (by assumption), by assumption⟩ | omega) | decide | exact ⟨Or.inl (by assumption), by assumption⟩ | exact ⟨by assumption, by assumption⟩ | omega)⟩, trivial⟩, trivial⟩, (by first | assumption | (simp only [v1, g7, g5, g6t, g6f, g8t, g8f, gtt, gtf, gft, gff, pr_i_0, pr_i_1]; first | assumption | decide | exact ⟨by assumption, by assumption⟩ | exact ⟨Or.inl (by assumption), by assumption⟩ | omega) | decide | exact ⟨Or.inl (by assumption), by assumption⟩ | exact ⟨by assumption, by assumption⟩ | omega)⟩ ?_
                      try simp only [v1, g7, g5, g6t, g6f, g8t, g8f, gtt, gtf, gft, gff, pr_i_0, pr_i_1]
                      exact pr_vrT rfl rfl (by exact ⟨rfl, rfl, f0⟩)
                  · simp only [ab_cmp, pr_i_0, pr_i_1] at h46
                    first
                    | contradiction
                    | exact absurd trivial h46
                    | exact absurd h46 (by decide)
                    | exact absurd (Classical.not_not.mp h46) (by decide)
                    | skip
                      refine pr_seqT (pc' := 54) 3 rfl ⟨⟨⟨trivial, trivial⟩, (by first | assumption | (simp only [v1, g7, g5, g6t, g6f, g8t, g8f, gtt, gtf, gft, gff, pr_i_0, pr_i_1]; first | assumption | decide | exact ⟨by assumption, by assumption⟩ | exact ⟨Or.inl (by assumption), by assumption⟩ | omega) | decide | exact ⟨Or.inl (by assumption), by assumption⟩ | exact ⟨by assumption, by assumption⟩ | omega)⟩, (by first | assumption | (simp only [v1, g7, g5, g6t, g6f, g8t, g8f, gtt, gtf, gft, gff, pr_i_0, pr_i_1]; first | assumption | decide | exact ⟨by assumption, by assumption⟩ | exact ⟨Or.inl (by assumption), by assumption⟩ | omega) | decide | exact ⟨Or.inl (by assumption), by assumption⟩ | exact ⟨by assumption, by assumption⟩ | omega)⟩ ?_
                      try simp only [v1, g7, g5, g6t, g6f, g8t, g8f, gtt, gtf, gft, gff, pr_i_0, pr_i_1]
                      refine pr_icT rfl (fun h54 => ?_) (fun h54 => ?_)
                      · simp only [ab_cmp, pr_i_0, pr_i_1] at h54
                        first
                        | contradiction
                        | exact absurd trivial h54
                        | exact absurd h54 (by decide)
                        | exact absurd (Classical.not_not.mp h54) (by decide)
                        | skip
                          refine pr_seqT (pc' := 75) 8 rfl ⟨⟨⟨⟨⟨⟨⟨⟨trivial, trivial⟩, (by exact ⟨by assumption, by first | exact Or.inl rfl | exact Or.inr rfl⟩)⟩, (by first | assumption | (simp only [v1, g7, g5, g6t, g6f, g8t, g8f, gtt, gtf, gft, gff, pr_i_0, pr_i_1]; first | assumption | decide | exact ⟨by assumption, by assumption⟩ | exact ⟨Or.inl (by assumption), by assumption⟩ | omega) | decide | exact ⟨Or.inl (by assumption), by assumption⟩ | exact ⟨by assumption, by assumption⟩ | omega)⟩, trivial⟩, (by first | assumption | (simp only [v1, g7, g5, g6t, g6f, g8t, g8f, gtt, gtf, gft, gff, pr_i_0, pr_i_1]; first | assumption | decide | exact ⟨by assumption, by assumption⟩ | exact ⟨Or.inl (by assumption), by assumption⟩ | omega) | decide | exact ⟨Or.inl (by assumption), by assumption⟩ | exact ⟨by assumption, by assumption⟩ | omega)⟩, trivial⟩, trivial⟩, (by first | assumption | (simp only [v1, g7, g5, g6t, g6f, g8t, g8f, gtt, gtf, gft, gff, pr_i_0, pr_i_1]; first | assumption | decide | exact ⟨by assumption, by assumption⟩ | exact ⟨Or.inl (by assumption), by assumption⟩ | omega) | decide | exact ⟨Or.inl (by assumption), by assumption⟩ | exact ⟨by assumption, by assumption⟩ | omega)⟩ ?_
                          try simp only [v1, g7, g5, g6t, g6f, g8t, g8f, gtt, gtf, gft, gff, pr_i_0, pr_i_1]
                          exact pr_vrT rfl rfl (by exact ⟨rfl, rfl, f0⟩)
                      · simp only [ab_cmp, pr_i_0, pr_i_1] at h54
                        first
                        | contradiction
                        | exact absurd trivial h54
                        | exact absurd h54 (by decide)
                        | exact absurd (Classical.not_not.mp h54) (by decide)
                        | skip
                          refine pr_seqT (pc' := 75) 9 rfl ⟨⟨⟨⟨⟨⟨⟨⟨⟨trivial, trivial⟩, trivial⟩, (by exact ⟨by assumption, by first | exact Or.inl rfl | exact Or.inr rfl⟩)⟩, (by first | assumption | (simp only [v1, g7, g5, g6t, g6f, g8t, g8f, gtt, gtf, gft, gff, pr_i_0, pr_i_1]; first | assumption | decide | exact ⟨by assumption, by assumption⟩ | exact ⟨Or.inl (by assumption), by assumption⟩ | omega) | decide | exact ⟨Or.inl (by assumption), by assumption⟩ | exact ⟨by assumption, by assumption⟩ | omega)⟩, trivial⟩, (by first | assumption | (simp only [v1, g7, g5, g6t, g6f, g8t, g8f, gtt, gtf, gft, gff, pr_i_0, pr_i_1]; first | assumption | decide | exact ⟨by assumption, by assumption⟩ | exact ⟨Or.inl (by assumption), by assumption⟩ | omega) | decide | exact ⟨Or.inl (by assumption), by assumption⟩ | exact ⟨by assumption, by assumption⟩ | omega)⟩, trivial⟩, trivial⟩, (by first | assumption | (simp only [v1, g7, g5, g6t, g6f, g8t, g8f, gtt, gtf, gft, gff, pr_i_0, pr_i_1]; first | assumption | decide | exact ⟨by assumption, by assumption⟩ | exact ⟨Or.inl (by assumption), by assumption⟩ | omega) | decide | exact ⟨Or.inl (by assumption), by assumption⟩ | exact ⟨by assumption, by assumption⟩ | omega)⟩ ?_
                          try simp only [v1, g7, g5, g6t, g6f, g8t, g8f, gtt, gtf, gft, gff, pr_i_0, pr_i_1]
                          exact pr_vrT rfl rfl (by exact ⟨rfl, rfl, f0⟩)
              · simp only [ab_cmp, pr_i_0, pr_i_1] at h30
                first
                | contradiction
                | exact absurd trivial h30
                | exact absurd h30 (by decide)
                | exact absurd (Classical.not_not.mp h30) (by decide)
                | skip
                  refine pr_seqT (pc' := 46) 6 rfl ⟨⟨⟨⟨⟨⟨trivial, trivial⟩, trivial⟩, (by exact ⟨by assumption, by first | exact Or.inl rfl | exact Or.inr rfl⟩)⟩, (by first | assumption | (simp only [v1, g7, g5, g6t, g6f, g8t, g8f, gtt, gtf, gft, gff, pr_i_0, pr_i_1]; first | assumption | decide | exact ⟨by assumption, by assumption⟩ | exact ⟨Or.inl (by assumption), by assumption⟩ | omega) | decide | exact ⟨Or.inl (by assumption), by assumption⟩ | exact ⟨by assumption, by assumption⟩ | omega)⟩, (by first | assumption | (simp only [v1, g7, g5, g6t, g6f, g8t, g8f, gtt, gtf, gft, gff, pr_i_0, pr_i_1]; first | assumption | decide | exact ⟨by assumption, by assumption⟩ | exact ⟨Or.inl (by assumption), by assumption⟩ | omega) | decide | exact ⟨Or.inl (by assumption), by assumption⟩ | exact ⟨by assumption, by assumption⟩ | omega)⟩, (by first | assumption | (simp only [v1, g7, g5, g6t, g6f, g8t, g8f, gtt, gtf, gft, gff, pr_i_0, pr_i_1]; first | assumption | decide | exact ⟨by assumption, by assumption⟩ | exact ⟨Or.inl (by assumption), by assumption⟩ | omega) | decide | exact ⟨Or.inl (by assumption), by assumption⟩ | exact ⟨by assumption, by assumption⟩ | omega)⟩ ?_
                  try simp only [v1, g7, g5, g6t, g6f, g8t, g8f, gtt, gtf, gft, gff, pr_i_0, pr_i_1]
                  refine pr_ifT rfl (fun h46 => ?_) (fun h46 => ?_)
                  · simp only [ab_cmp, pr_i_0, pr_i_1] at h46
                    first
                    | contradiction
                    | exact absurd trivial h46
                    | exact absurd h46 (by decide)
                    | exact absurd (Classical.not_not.mp h46) (by decide)
                    | skip
                      refine pr_seqT (pc' := 75) 8 rfl ⟨⟨⟨⟨⟨⟨⟨⟨trivial, trivial⟩, (by exact ⟨by assumption, by first | exact Or.inl rfl | exact Or.inr rfl⟩)⟩, (by first | assumption | (simp only [v1, g7, g5, g6t, g6f, g8t, g8f, gtt, gtf, gft, gff, pr_i_0, pr_i_1]; first | assumption | decide | exact ⟨by assumption, by assumption⟩ | exact ⟨Or.inl (by assumption), by assumption⟩ | omega) | decide | exact ⟨Or.inl (by assumption), by assumption⟩ | exact ⟨by assumption, by assumption⟩ | omega)⟩, trivial⟩, (by first | assumption | (simp only [v1, g7, g5, g6t, g6f, g8t, g8f, gtt, gtf, gft, gff, pr_i_0, pr_i_1]; first | assumption | decide | exact ⟨by assumption, by assumption⟩ | exact ⟨Or.inl (by assumption), by assumption⟩ | omega) | decide | exact ⟨Or.inl (by assumption), by assumption⟩ | exact ⟨by assumption, by assumption⟩ | omega)⟩, trivial⟩, trivial⟩, (by first | assumption | (simp only [v1, g7, g5, g6t, g6f, g8t, g8f, gtt, gtf, gft, gff, pr_i_0, pr_i_1]; first | assumption | decide | exact ⟨by assumption, by assumption⟩ | exact ⟨Or.inl (by assumption), by assumption⟩ | omega) | decide | exact ⟨Or.inl (by assumption), by assumption⟩ | exact ⟨by assumption, by assumption⟩ | omega)⟩ ?_
                      try simp only [v1, g7, g5, g6t, g6f, g8t, g8f, gtt, gtf, gft, gff, pr_i_0, pr_i_1]
                      exact pr_vrT rfl rfl (by exact ⟨rfl, rfl, f0⟩)
                  · simp only [ab_cmp, pr_i_0, pr_i_1] at h46
                    first
                    | contradiction
                    | exact absurd trivial h46
                    | exact absurd h46 (by decide)
                    | exact absurd (Classical.not_not.mp h46) (by decide)
                    | skip
                      refine pr_seqT (pc' := 54) 3 rfl ⟨⟨⟨trivial, trivial⟩, (by first | assumption | (simp only [v1, g7, g5, g6t, g6f, g8t, g8f, gtt, gtf, gft, gff, pr_i_0, pr_i_1]; first | assumption | decide | exact ⟨by assumption, by assumption⟩ | exact ⟨Or.inl (by assumption), by assumption⟩ | omega) | decide | exact ⟨Or.inl (by assumption), by assumption⟩ | exact ⟨by assumption, by assumption⟩ | omega)⟩, (by first | assumption | (simp only [v1, g7, g5, g6t, g6f, g8t, g8f, gtt, gtf, gft, gff, pr_i_0, pr_i_1]; first | assumption | decide | exact ⟨by assumption, by assumption⟩ | exact ⟨Or.inl (by assumption), by assumption⟩ | omega) | decide | exact ⟨Or.inl (by assumption), by assumption⟩ | exact ⟨by assumption, by assumption⟩ | omega)⟩ ?_
                      try simp only [v1, g7, g5, g6t, g6f, g8t, g8f, gtt, gtf, gft, gff, pr_i_0, pr_i_1]
                      refine pr_icT rfl (fun h54 => ?_) (fun h54 => ?_)
                      · simp only [ab_cmp, pr_i_0, pr_i_1] at h54
                        first
                        | contradiction
                        | exact absurd trivial h54
                        | exact absurd h54 (by decide)
                        | exact absurd (Classical.not_not.mp h54) (by decide)
                        | skip
                          refine pr_seqT (pc' := 75) 8 rfl ⟨⟨⟨⟨⟨⟨⟨⟨trivial, trivial⟩, (by exact ⟨by assumption, by first | exact Or.inl rfl | exact Or.inr rfl⟩)⟩, (by first | assumption | (simp only [v1, g7, g5, g6t, g6f, g8t, g8f, gtt, gtf, gft, gff, pr_i_0, pr_i_1]; first | assumption | decide | exact ⟨by assumption, by assumption⟩ | exact ⟨Or.inl (by assumption), by assumption⟩ | omega) | decide | exact ⟨Or.inl (by assumption), by assumption⟩ | exact ⟨by assumption, by assumption⟩ | omega)⟩, trivial⟩, (by first | assumption | (simp only [v1, g7, g5, g6t, g6f, g8t, g8f, gtt, gtf, gft, gff, pr_i_0, pr_i_1]; first | assumption | decide | exact ⟨by assumption, by assumption⟩ | exact ⟨Or.inl (by assumption), by assumption⟩ | omega) | decide | exact ⟨Or.inl (by assumption), by assumption⟩ | exact ⟨by assumption, by assumption⟩ | omega)⟩, trivial⟩, trivial⟩, (by first | assumption | (simp only [v1, g7, g5, g6t, g6f, g8t, g8f, gtt, gtf, gft, gff, pr_i_0, pr_i_1]; first | assumption | decide | exact ⟨by assumption, by assumption⟩ | exact ⟨Or.inl (by assumption), by assumption⟩ | omega) | decide | exact ⟨Or.inl (by assumption), by assumption⟩ | exact ⟨by assumption, by assumption⟩ | omega)⟩ ?_
                          try simp only [v1, g7, g5, g6t, g6f, g8t, g8f, gtt, gtf, gft, gff, pr_i_0, pr_i_1]
                          exact pr_vrT rfl rfl (by exact ⟨rfl, rfl, f0⟩)
                      · simp only [ab_cmp, pr_i_0, pr_i_1] at h54
                        first
                        | contradiction
                        | exact absurd trivial h54
                        | exact absurd h54 (by decide)
                        | exact absurd (Classical.not_not.mp h54) (by decide)
                        | skip
                          refine pr_seqT (pc' := 75) 9 rfl ⟨⟨⟨⟨⟨⟨⟨⟨⟨trivial, trivial⟩, trivial⟩, (by exact ⟨by assumption, by first | exact Or.inl rfl | exact Or.inr rfl⟩)⟩, (by first | assumption | (simp only [v1, g7, g5, g6t, g6f, g8t, g8f, gtt, gtf, gft, gff, pr_i_0, pr_i_1]; first | assumption | decide | exact ⟨by assumption, by assumption⟩ | exact ⟨Or.inl (by assumption), by assumption⟩ | omega) | decide | exact ⟨Or.inl (by assumption), by assumption⟩ | exact ⟨by assumption, by assumption⟩ | omega)⟩, trivial⟩, (by first | assumption | (simp only [v1, g7, g5, g6t, g6f, g8t, g8f, gtt, gtf, gft, gff, pr_i_0, pr_i_1]; first | assumption | decide | exact ⟨by assumption, by assumption⟩ | exact ⟨Or.inl (by assumption), by assumption⟩ | omega) | decide | exact ⟨Or.inl (by assumption), by assumption⟩ | exact ⟨by assumption, by assumption⟩ | omega)⟩, trivial⟩, trivial⟩, (by first | assumption | (simp only [v1, g7, g5, g6t, g6f, g8t, g8f, gtt, gtf, gft, gff, pr_i_0, pr_i_1]; first | assumption | decide | exact ⟨by assumption, by assumption⟩ | exact ⟨Or.inl (by assumption), by assumption⟩ | omega) | decide | exact ⟨Or.inl (by assumption), by assumption⟩ | exact ⟨by assumption, by assumption⟩ | omega)⟩ ?_
                          try simp only [v1, g7, g5, g6t, g6f, g8t, g8f, gtt, gtf, gft, gff, pr_i_0, pr_i_1]
                          exact pr_vrT rfl rfl (by exact ⟨rfl, rfl, f0⟩)
  · rw [if_neg z]
    have z' : ¬ nI n = 0 := nI_ne (b := 0) z (by omega) (by decide)
    obtain ⟨v5, v6⟩ := v2 z
    have g8 : ∀ e : Bool, ab_u M.1 58 7 (pr_b e) 58 8 = pr_b ob := fun e => by rw [ab_u_j (by decide)]; exact v4
    have g6 : ∀ e : Bool, ab_u M.1 58 7 (pr_b e) 58 6 = nI fb := fun e => by rw [ab_u_j (by decide)]; exact v6
    have g4 : ∀ e f : Bool, ab_u (ab_u M.1 58 7 (pr_b e)) 58 8 (pr_b f) 58 4 = nI n := fun e f => by rw [ab_u_j (by decide), ab_u_j (by decide)]; exact v1
    have f0 := fun e f => fin 0 0 e f M.1 n fa fb s1 (fun a ha => rfl) rfl v5 v6 v1
    have bx : (x = fa ∧ nI x = nI fa) ∨ (¬ x = fa ∧ ¬ nI x = nI fa) := by
      by_cases e : x = fa
      · exact Or.inl ⟨e, by rw [e]⟩
      · exact Or.inr ⟨e, nI_ne e (by omega) (by omega)⟩
    have by' : (y = fb ∧ nI y = nI fb) ∨ (¬ y = fb ∧ ¬ nI y = nI fb) := by
      by_cases e : y = fb
      · exact Or.inl ⟨e, by rw [e]⟩
      · exact Or.inr ⟨e, nI_ne e (by omega) (by omega)⟩
    rcases bx with ⟨ex, nx⟩ | ⟨ex, nx⟩ <;> rcases by' with ⟨ey, ny⟩ | ⟨ey, ny⟩ <;> cases oa <;> cases ob
    all_goals
      have f0 := f0
      have g6t := g6 true
      have g6f := g6 false
      have g8t := g8 true
      have g8f := g8 false
      have gtt := g4 true true
      have gtf := g4 true false
      have gft := g4 false true
      have gff := g4 false false
      have ftt := f0 true true
      have ftf := f0 true false
      have fft := f0 false true
      have fff := f0 false false
      simp only [pr_b] at v3 g6t g6f g8t g8f gtt gtf gft gff ftt ftf fft fff
      refine pr_seqT (pc' := 4) 2 rfl ⟨⟨trivial, (by first | assumption | (simp only [v1, v3, v5, g6t, g6f, g8t, g8f, gtt, gtf, gft, gff, pr_i_0, pr_i_1]; first | assumption | decide | exact ⟨by assumption, by assumption⟩ | exact ⟨Or.inl (by assumption), by assumption⟩ | omega) | decide | exact ⟨Or.inl (by assumption), by assumption⟩ | exact ⟨by assumption, by assumption⟩ | omega)⟩, (by first | assumption | (simp only [v1, v3, v5, g6t, g6f, g8t, g8f, gtt, gtf, gft, gff, pr_i_0, pr_i_1]; first | assumption | decide | exact ⟨by assumption, by assumption⟩ | exact ⟨Or.inl (by assumption), by assumption⟩ | omega) | decide | exact ⟨Or.inl (by assumption), by assumption⟩ | exact ⟨by assumption, by assumption⟩ | omega)⟩ ?_
      try simp only [v1, v3, v5, g6t, g6f, g8t, g8f, gtt, gtf, gft, gff, pr_i_0, pr_i_1]
      refine pr_ifT rfl (fun h4 => ?_) (fun h4 => ?_)
      · simp only [ab_cmp, pr_i_0, pr_i_1] at h4
        first
        | contradiction
        | exact absurd trivial h4
        | exact absurd h4 (by decide)
        | exact absurd (Classical.not_not.mp h4) (by decide)
        | skip
          refine pr_seqT (pc' := 22) 3 rfl ⟨⟨⟨trivial, (by first | assumption | (simp only [v1, v3, v5, g6t, g6f, g8t, g8f, gtt, gtf, gft, gff, pr_i_0, pr_i_1]; first | assumption | decide | exact ⟨by assumption, by assumption⟩ | exact ⟨Or.inl (by assumption), by assumption⟩ | omega) | decide | exact ⟨Or.inl (by assumption), by assumption⟩ | exact ⟨by assumption, by assumption⟩ | omega)⟩, (by first | assumption | (simp only [v1, v3, v5, g6t, g6f, g8t, g8f, gtt, gtf, gft, gff, pr_i_0, pr_i_1]; first | assumption | decide | exact ⟨by assumption, by assumption⟩ | exact ⟨Or.inl (by assumption), by assumption⟩ | omega) | decide | exact ⟨Or.inl (by assumption), by assumption⟩ | exact ⟨by assumption, by assumption⟩ | omega)⟩, (by first | assumption | (simp only [v1, v3, v5, g6t, g6f, g8t, g8f, gtt, gtf, gft, gff, pr_i_0, pr_i_1]; first | assumption | decide | exact ⟨by assumption, by assumption⟩ | exact ⟨Or.inl (by assumption), by assumption⟩ | omega) | decide | exact ⟨Or.inl (by assumption), by assumption⟩ | exact ⟨by assumption, by assumption⟩ | omega)⟩ ?_
          try simp only [v1, v3, v5, g6t, g6f, g8t, g8f, gtt, gtf, gft, gff, pr_i_0, pr_i_1]
          refine pr_ifT rfl (fun h22 => ?_) (fun h22 => ?_)
          · simp only [ab_cmp, pr_i_0, pr_i_1] at h22
            first
            | contradiction
            | exact absurd trivial h22
            | exact absurd h22 (by decide)
            | exact absurd (Classical.not_not.mp h22) (by decide)
            | skip
              refine pr_seqT (pc' := 46) 5 rfl ⟨⟨⟨⟨⟨trivial, trivial⟩, (by exact ⟨by assumption, by first | exact Or.inl rfl | exact Or.inr rfl⟩)⟩, (by first | assumption | (simp only [v1, v3, v5, g6t, g6f, g8t, g8f, gtt, gtf, gft, gff, pr_i_0, pr_i_1]; first | assumption | decide | exact ⟨by assumption, by assumption⟩ | exact ⟨Or.inl (by assumption), by assumption⟩ | omega) | decide | exact ⟨Or.inl (by assumption), by assumption⟩ | exact ⟨by assumption, by assumption⟩ | omega)⟩, (by first | assumption | (simp only [v1, v3, v5, g6t, g6f, g8t, g8f, gtt, gtf, gft, gff, pr_i_0, pr_i_1]; first | assumption | decide | exact ⟨by assumption, by assumption⟩ | exact ⟨Or.inl (by assumption), by assumption⟩ | omega) | decide | exact ⟨Or.inl (by assumption), by assumption⟩ | exact ⟨by assumption, by assumption⟩ | omega)⟩, (by first | assumption | (simp only [v1, v3, v5, g6t, g6f, g8t, g8f, gtt, gtf, gft, gff, pr_i_0, pr_i_1]; first | assumption | decide | exact ⟨by assumption, by assumption⟩ | exact ⟨Or.inl (by assumption), by assumption⟩ | omega) | decide | exact ⟨Or.inl (by assumption), by assumption⟩ | exact ⟨by assumption, by assumption⟩ | omega)⟩ ?_
              try simp only [v1, v3, v5, g6t, g6f, g8t, g8f, gtt, gtf, gft, gff, pr_i_0, pr_i_1]
              refine pr_ifT rfl (fun h46 => ?_) (fun h46 => ?_)
              · simp only [ab_cmp, pr_i_0, pr_i_1] at h46
                first
                | contradiction
                | exact absurd trivial h46
                | exact absurd h46 (by decide)
                | exact absurd (Classical.not_not.mp h46) (by decide)
                | skip
                  refine pr_seqT (pc' := 75) 8 rfl ⟨⟨⟨⟨⟨⟨⟨⟨trivial, trivial⟩, (by exact ⟨by assumption, by first | exact Or.inl rfl | exact Or.inr rfl⟩)⟩, (by first | assumption | (simp only [v1, v3, v5, g6t, g6f, g8t, g8f, gtt, gtf, gft, gff, pr_i_0, pr_i_1]; first | assumption | decide | exact ⟨by assumption, by assumption⟩ | exact ⟨Or.inl (by assumption), by assumption⟩ | omega) | decide | exact ⟨Or.inl (by assumption), by assumption⟩ | exact ⟨by assumption, by assumption⟩ | omega)⟩, trivial⟩, (by first | assumption | (simp only [v1, v3, v5, g6t, g6f, g8t, g8f, gtt, gtf, gft, gff, pr_i_0, pr_i_1]; first | assumption | decide | exact ⟨by assumption, by assumption⟩ | exact ⟨Or.inl (by assumption), by assumption⟩ | omega) | decide | exact ⟨Or.inl (by assumption), by assumption⟩ | exact ⟨by assumption, by assumption⟩ | omega)⟩, trivial⟩, trivial⟩, (by first | assumption | (simp only [v1, v3, v5, g6t, g6f, g8t, g8f, gtt, gtf, gft, gff, pr_i_0, pr_i_1]; first | assumption | decide | exact ⟨by assumption, by assumption⟩ | exact ⟨Or.inl (by assumption), by assumption⟩ | omega) | decide | exact ⟨Or.inl (by assumption), by assumption⟩ | exact ⟨by assumption, by assumption⟩ | omega)⟩ ?_
                  try simp only [v1, v3, v5, g6t, g6f, g8t, g8f, gtt, gtf, gft, gff, pr_i_0, pr_i_1]
                  exact pr_vrT rfl rfl (by refine ⟨rfl, rfl, ?_⟩; simp only [ex, ey, decide_true, decide_false, Bool.and_true, Bool.and_false, Bool.false_and, Bool.true_and]; first | exact ftt | exact ftf | exact fft | exact fff)
              · simp only [ab_cmp, pr_i_0, pr_i_1] at h46
                first
                | contradiction
                | exact absurd trivial h46
                | exact absurd h46 (by decide)
                | exact absurd (Classical.not_not.mp h46) (by decide)
                | skip
                  refine pr_seqT (pc' := 54) 3 rfl ⟨⟨⟨trivial, trivial⟩, (by first | assumption | (simp only [v1, v3, v5, g6t, g6f, g8t, g8f, gtt, gtf, gft, gff, pr_i_0, pr_i_1]; first | assumption | decide | exact ⟨by assumption, by assumption⟩ | exact ⟨Or.inl (by assumption), by assumption⟩ | omega) | decide | exact ⟨Or.inl (by assumption), by assumption⟩ | exact ⟨by assumption, by assumption⟩ | omega)⟩, (by first | assumption | (simp only [v1, v3, v5, g6t, g6f, g8t, g8f, gtt, gtf, gft, gff, pr_i_0, pr_i_1]; first | assumption | decide | exact ⟨by assumption, by assumption⟩ | exact ⟨Or.inl (by assumption), by assumption⟩ | omega) | decide | exact ⟨Or.inl (by assumption), by assumption⟩ | exact ⟨by assumption, by assumption⟩ | omega)⟩ ?_
                  try simp only [v1, v3, v5, g6t, g6f, g8t, g8f, gtt, gtf, gft, gff, pr_i_0, pr_i_1]
                  refine pr_icT rfl (fun h54 => ?_) (fun h54 => ?_)
                  · simp only [ab_cmp, pr_i_0, pr_i_1] at h54
                    first
                    | contradiction
                    | exact absurd trivial h54
                    | exact absurd h54 (by decide)
                    | exact absurd (Classical.not_not.mp h54) (by decide)
                    | skip
                      refine pr_seqT (pc' := 75) 8 rfl ⟨⟨⟨⟨⟨⟨⟨⟨trivial, trivial⟩, (by exact ⟨by assumption, by first | exact Or.inl rfl | exact Or.inr rfl⟩)⟩, (by first | assumption | (simp only [v1, v3, v5, g6t, g6f, g8t, g8f, gtt, gtf, gft, gff, pr_i_0, pr_i_1]; first | assumption | decide | exact ⟨by assumption, by assumption⟩ | exact ⟨Or.inl (by assumption), by assumption⟩ | omega) | decide | exact ⟨Or.inl (by assumption), by assumption⟩ | exact ⟨by assumption, by assumption⟩ | omega)⟩, trivial⟩, (by first | assumption | (simp only [v1, v3, v5, g6t, g6f, g8t, g8f, gtt, gtf, gft, gff, pr_i_0, pr_i_1]; first | assumption | decide | exact ⟨by assumption, by assumption⟩ | exact ⟨Or.inl (by assumption), by assumption⟩ | omega) | decide | exact ⟨Or.inl (by assumption), by assumption⟩ | exact ⟨by assumption, by assumption⟩ | omega)⟩, trivial⟩, trivial⟩, (by first | assumption | (simp only [v1, v3, v5, g6t, g6f, g8t, g8f, gtt, gtf, gft, gff, pr_i_0, pr_i_1]; first | assumption | decide | exact ⟨by assumption, by assumption⟩ | exact ⟨Or.inl (by assumption), by assumption⟩ | omega) | decide | exact ⟨Or.inl (by assumption), by assumption⟩ | exact ⟨by assumption, by assumption⟩ | omega)⟩ ?_
                      try simp only [v1, v3, v5, g6t, g6f, g8t, g8f, gtt, gtf, gft, gff, pr_i_0, pr_i_1]
                      exact pr_vrT rfl rfl (by refine ⟨rfl, rfl, ?_⟩; simp only [ex, ey, decide_true, decide_false, Bool.and_true, Bool.and_false, Bool.false_and, Bool.true_and]; first | exact ftt | exact ftf | exact fft | exact fff)
                  · simp only [ab_cmp, pr_i_0, pr_i_1] at h54
                    first
                    | contradiction
                    | exact absurd trivial h54
                    | exact absurd h54 (by decide)
                    | exact absurd (Classical.not_not.mp h54) (by decide)
                    | skip
                      refine pr_seqT (pc' := 75) 9 rfl ⟨⟨⟨⟨⟨⟨⟨⟨⟨trivial, trivial⟩, trivial⟩, (by exact ⟨by assumption, by first | exact Or.inl rfl | exact Or.inr rfl⟩)⟩, (by first | assumption | (simp only [v1, v3, v5, g6t, g6f, g8t, g8f, gtt, gtf, gft, gff, pr_i_0, pr_i_1]; first | assumption | decide | exact ⟨by assumption, by assumption⟩ | exact ⟨Or.inl (by assumption), by assumption⟩ | omega) | decide | exact ⟨Or.inl (by assumption), by assumption⟩ | exact ⟨by assumption, by assumption⟩ | omega)⟩, trivial⟩, (by first | assumption | (simp only [v1, v3, v5, g6t, g6f, g8t, g8f, gtt, gtf, gft, gff, pr_i_0, pr_i_1]; first | assumption | decide | exact ⟨by assumption, by assumption⟩ | exact ⟨Or.inl (by assumption), by assumption⟩ | omega) | decide | exact ⟨Or.inl (by assumption), by assumption⟩ | exact ⟨by assumption, by assumption⟩ | omega)⟩, trivial⟩, trivial⟩, (by first | assumption | (simp only [v1, v3, v5, g6t, g6f, g8t, g8f, gtt, gtf, gft, gff, pr_i_0, pr_i_1]; first | assumption | decide | exact ⟨by assumption, by assumption⟩ | exact ⟨Or.inl (by assumption), by assumption⟩ | omega) | decide | exact ⟨Or.inl (by assumption), by assumption⟩ | exact ⟨by assumption, by assumption⟩ | omega)⟩ ?_
                      try simp only [v1, v3, v5, g6t, g6f, g8t, g8f, gtt, gtf, gft, gff, pr_i_0, pr_i_1]
                      exact pr_vrT rfl rfl (by refine ⟨rfl, rfl, ?_⟩; simp only [ex, ey, decide_true, decide_false, Bool.and_true, Bool.and_false, Bool.false_and, Bool.true_and]; first | exact ftt | exact ftf | exact fft | exact fff)
          · simp only [ab_cmp, pr_i_0, pr_i_1] at h22
            first
            | contradiction
            | exact absurd trivial h22
            | exact absurd h22 (by decide)
            | exact absurd (Classical.not_not.mp h22) (by decide)
            | skip
              refine pr_seqT (pc' := 30) 3 rfl ⟨⟨⟨trivial, trivial⟩, (by first | assumption | (simp only [v1, v3, v5, g6t, g6f, g8t, g8f, gtt, gtf, gft, gff, pr_i_0, pr_i_1]; first | assumption | decide | exact ⟨by assumption, by assumption⟩ | exact ⟨Or.inl (by assumption), by assumption⟩ | omega) | decide | exact ⟨Or.inl (by assumption), by assumption⟩ | exact ⟨by assumption, by assumption⟩ | omega)⟩, (by first | assumption | (simp only [v1, v3, v5, g6t, g6f, g8t, g8f, gtt, gtf, gft, gff, pr_i_0, pr_i_1]; first | assumption | decide | exact ⟨by assumption, by assumption⟩ | exact ⟨Or.inl (by assumption), by assumption⟩ | omega) | decide | exact ⟨Or.inl (by assumption), by assumption⟩ | exact ⟨by assumption, by assumption⟩ | omega)⟩ ?_
              try simp only [v1, v3, v5, g6t, g6f, g8t, g8f, gtt, gtf, gft, gff, pr_i_0, pr_i_1]
              refine pr_icT rfl (fun h30 => ?_) (fun h30 => ?_)
              · simp only [ab_cmp, pr_i_0, pr_i_1] at h30
                first
                | contradiction
                | exact absurd trivial h30
                | exact absurd h30 (by decide)
                | exact absurd (Classical.not_not.mp h30) (by decide)
                | skip
                  refine pr_seqT (pc' := 46) 5 rfl ⟨⟨⟨⟨⟨trivial, trivial⟩, (by exact ⟨by assumption, by first | exact Or.inl rfl | exact Or.inr rfl⟩)⟩, (by first | assumption | (simp only [v1, v3, v5, g6t, g6f, g8t, g8f, gtt, gtf, gft, gff, pr_i_0, pr_i_1]; first | assumption | decide | exact ⟨by assumption, by assumption⟩ | exact ⟨Or.inl (by assumption), by assumption⟩ | omega) | decide | exact ⟨Or.inl (by assumption), by assumption⟩ | exact ⟨by assumption, by assumption⟩ | omega)⟩, (by first | assumption | (simp only [v1, v3, v5, g6t, g6f, g8t, g8f, gtt, gtf, gft, gff, pr_i_0, pr_i_1]; first | assumption | decide | exact ⟨by assumption, by assumption⟩ | exact ⟨Or.inl (by assumption), by assumption⟩ | omega) | decide | exact ⟨Or.inl (by assumption), by assumption⟩ | exact ⟨by assumption, by assumption⟩ | omega)⟩, (by first | assumption | (simp only [v1, v3, v5, g6t, g6f, g8t, g8f, gtt, gtf, gft, gff, pr_i_0, pr_i_1]; first | assumption | decide | exact ⟨by assumption, by assumption⟩ | exact ⟨Or.inl (by assumption), by assumption⟩ | omega) | decide | exact ⟨Or.inl (by assumption), by assumption⟩ | exact ⟨by assumption, by assumption⟩ | omega)⟩ ?_
                  try simp only [v1, v3, v5, g6t, g6f, g8t, g8f, gtt, gtf, gft, gff, pr_i_0, pr_i_1]
                  refine pr_ifT rfl (fun h46 => ?_) (fun h46 => ?_)
                  · simp only [ab_cmp, pr_i_0, pr_i_1] at h46
                    first
                    | contradiction
                    | exact absurd trivial h46
                    | exact absurd h46 (by decide)
                    | exact absurd (Classical.not_not.mp h46) (by decide)
                    | skip
                      refine pr_seqT (pc' := 75) 8 rfl ⟨⟨⟨⟨⟨⟨⟨⟨trivial, trivial⟩, (by exact ⟨by assumption, by first | exact Or.inl rfl | exact Or.inr rfl⟩)⟩, (by first | assumption | (simp only [v1, v3, v5, g6t, g6f, g8t, g8f, gtt, gtf, gft, gff, pr_i_0, pr_i_1]; first | assumption | decide | exact ⟨by assumption, by assumption⟩ | exact ⟨Or.inl (by assumption), by assumption⟩ | omega) | decide | exact ⟨Or.inl (by assumption), by assumption⟩ | exact ⟨by assumption, by assumption⟩ | omega)⟩, trivial⟩, (by first | assumption | (simp only [v1, v3, v5, g6t, g6f, g8t, g8f, gtt, gtf, gft, gff, pr_i_0, pr_i_1]; first | assumption | decide | exact ⟨by assumption, by assumption⟩ | exact ⟨Or.inl (by assumption), by assumption⟩ | omega) | decide | exact ⟨Or.inl (by assumption), by assumption⟩ | exact ⟨by assumption, by assumption⟩ | omega)⟩, trivial⟩, trivial⟩, (by first | assumption | (simp only [v1, v3, v5, g6t, g6f, g8t, g8f, gtt, gtf, gft, gff, pr_i_0, pr_i_1]; first | assumption | decide | exact ⟨by assumption, by assumption⟩ | exact ⟨Or.inl (by assumption), by assumption⟩ | omega) | decide | exact ⟨Or.inl (by assumption), by assumption⟩ | exact ⟨by assumption, by assumption⟩ | omega)⟩ ?_
                      try simp only [v1, v3, v5, g6t, g6f, g8t, g8f, gtt, gtf, gft, gff, pr_i_0, pr_i_1]
                      exact pr_vrT rfl rfl (by refine ⟨rfl, rfl, ?_⟩; simp only [ex, ey, decide_true, decide_false, Bool.and_true, Bool.and_false, Bool.false_and, Bool.true_and]; first | exact ftt | exact ftf | exact fft | exact fff)
                  · simp only [ab_cmp, pr_i_0, pr_i_1] at h46
                    first
                    | contradiction
                    | exact absurd trivial h46
                    | exact absurd h46 (by decide)
                    | exact absurd (Classical.not_not.mp h46) (by decide)
                    | skip
                      refine pr_seqT (pc' := 54) 3 rfl ⟨⟨⟨trivial, trivial⟩, (by first | assumption | (simp only [v1, v3, v5, g6t, g6f, g8t, g8f, gtt, gtf, gft, gff, pr_i_0, pr_i_1]; first | assumption | decide | exact ⟨by assumption, by assumption⟩ | exact ⟨Or.inl (by assumption), by assumption⟩ | omega) | decide | exact ⟨Or.inl (by assumption), by assumption⟩ | exact ⟨by assumption, by assumption⟩ | omega)⟩, (by first | assumption | (simp only [v1, v3, v5, g6t, g6f, g8t, g8f, gtt, gtf, gft, gff, pr_i_0, pr_i_1]; first | assumption | decide | exact ⟨by assumption, by assumption⟩ | exact ⟨Or.inl (by assumption), by assumption⟩ | omega) | decide | exact ⟨Or.inl (by assumption), by assumption⟩ | exact ⟨by assumption, by assumption⟩ | omega)⟩ ?_
                      try simp only [v1, v3, v5, g6t, g6f, g8t, g8f, gtt, gtf, gft, gff, pr_i_0, pr_i_1]
                      refine pr_icT rfl (fun h54 => ?_) (fun h54 => ?_)
                      · simp only [ab_cmp, pr_i_0, pr_i_1] at h54
                        first
                        | contradiction
                        | exact absurd trivial h54
                        | exact absurd h54 (by decide)
                        | exact absurd (Classical.not_not.mp h54) (by decide)
                        | skip
                          refine pr_seqT (pc' := 75) 8 rfl ⟨⟨⟨⟨⟨⟨⟨⟨trivial, trivial⟩, (by exact ⟨by assumption, by first | exact Or.inl rfl | exact Or.inr rfl⟩)⟩, (by first | assumption | (simp only [v1, v3, v5, g6t, g6f, g8t, g8f, gtt, gtf, gft, gff, pr_i_0, pr_i_1]; first | assumption | decide | exact ⟨by assumption, by assumption⟩ | exact ⟨Or.inl (by assumption), by assumption⟩ | omega) | decide | exact ⟨Or.inl (by assumption), by assumption⟩ | exact ⟨by assumption, by assumption⟩ | omega)⟩, trivial⟩, (by first | assumption | (simp only [v1, v3, v5, g6t, g6f, g8t, g8f, gtt, gtf, gft, gff, pr_i_0, pr_i_1]; first | assumption | decide | exact ⟨by assumption, by assumption⟩ | exact ⟨Or.inl (by assumption), by assumption⟩ | omega) | decide | exact ⟨Or.inl (by assumption), by assumption⟩ | exact ⟨by assumption, by assumption⟩ | omega)⟩, trivial⟩, trivial⟩, (by first | assumption | (simp only [v1, v3, v5, g6t, g6f, g8t, g8f, gtt, gtf, gft, gff, pr_i_0, pr_i_1]; first | assumption | decide | exact ⟨by assumption, by assumption⟩ | exact ⟨Or.inl (by assumption), by assumption⟩ | omega) | decide | exact ⟨Or.inl (by assumption), by assumption⟩ | exact ⟨by assumption, by assumption⟩ | omega)⟩ ?_
                          try simp only [v1, v3, v5, g6t, g6f, g8t, g8f, gtt, gtf, gft, gff, pr_i_0, pr_i_1]
                          exact pr_vrT rfl rfl (by refine ⟨rfl, rfl, ?_⟩; simp only [ex, ey, decide_true, decide_false, Bool.and_true, Bool.and_false, Bool.false_and, Bool.true_and]; first | exact ftt | exact ftf | exact fft | exact fff)
                      · simp only [ab_cmp, pr_i_0, pr_i_1] at h54
                        first
                        | contradiction
                        | exact absurd trivial h54
                        | exact absurd h54 (by decide)
                        | exact absurd (Classical.not_not.mp h54) (by decide)
                        | skip
                          refine pr_seqT (pc' := 75) 9 rfl ⟨⟨⟨⟨⟨⟨⟨⟨⟨trivial, trivial⟩, trivial⟩, (by exact ⟨by assumption, by first | exact Or.inl rfl | exact Or.inr rfl⟩)⟩, (by first | assumption | (simp only [v1, v3, v5, g6t, g6f, g8t, g8f, gtt, gtf, gft, gff, pr_i_0, pr_i_1]; first | assumption | decide | exact ⟨by assumption, by assumption⟩ | exact ⟨Or.inl (by assumption), by assumption⟩ | omega) | decide | exact ⟨Or.inl (by assumption), by assumption⟩ | exact ⟨by assumption, by assumption⟩ | omega)⟩, trivial⟩, (by first | assumption | (simp only [v1, v3, v5, g6t, g6f, g8t, g8f, gtt, gtf, gft, gff, pr_i_0, pr_i_1]; first | assumption | decide | exact ⟨by assumption, by assumption⟩ | exact ⟨Or.inl (by assumption), by assumption⟩ | omega) | decide | exact ⟨Or.inl (by assumption), by assumption⟩ | exact ⟨by assumption, by assumption⟩ | omega)⟩, trivial⟩, trivial⟩, (by first | assumption | (simp only [v1, v3, v5, g6t, g6f, g8t, g8f, gtt, gtf, gft, gff, pr_i_0, pr_i_1]; first | assumption | decide | exact ⟨by assumption, by assumption⟩ | exact ⟨Or.inl (by assumption), by assumption⟩ | omega) | decide | exact ⟨Or.inl (by assumption), by assumption⟩ | exact ⟨by assumption, by assumption⟩ | omega)⟩ ?_
                          try simp only [v1, v3, v5, g6t, g6f, g8t, g8f, gtt, gtf, gft, gff, pr_i_0, pr_i_1]
                          exact pr_vrT rfl rfl (by refine ⟨rfl, rfl, ?_⟩; simp only [ex, ey, decide_true, decide_false, Bool.and_true, Bool.and_false, Bool.false_and, Bool.true_and]; first | exact ftt | exact ftf | exact fft | exact fff)
              · simp only [ab_cmp, pr_i_0, pr_i_1] at h30
                first
                | contradiction
                | exact absurd trivial h30
                | exact absurd h30 (by decide)
                | exact absurd (Classical.not_not.mp h30) (by decide)
                | skip
                  refine pr_seqT (pc' := 46) 6 rfl ⟨⟨⟨⟨⟨⟨trivial, trivial⟩, trivial⟩, (by exact ⟨by assumption, by first | exact Or.inl rfl | exact Or.inr rfl⟩)⟩, (by first | assumption | (simp only [v1, v3, v5, g6t, g6f, g8t, g8f, gtt, gtf, gft, gff, pr_i_0, pr_i_1]; first | assumption | decide | exact ⟨by assumption, by assumption⟩ | exact ⟨Or.inl (by assumption), by assumption⟩ | omega) | decide | exact ⟨Or.inl (by assumption), by assumption⟩ | exact ⟨by assumption, by assumption⟩ | omega)⟩, (by first | assumption | (simp only [v1, v3, v5, g6t, g6f, g8t, g8f, gtt, gtf, gft, gff, pr_i_0, pr_i_1]; first | assumption | decide | exact ⟨by assumption, by assumption⟩ | exact ⟨Or.inl (by assumption), by assumption⟩ | omega) | decide | exact ⟨Or.inl (by assumption), by assumption⟩ | exact ⟨by assumption, by assumption⟩ | omega)⟩, (by first | assumption | (simp only [v1, v3, v5, g6t, g6f, g8t, g8f, gtt, gtf, gft, gff, pr_i_0, pr_i_1]; first | assumption | decide | exact ⟨by assumption, by assumption⟩ | exact ⟨Or.inl (by assumption), by assumption⟩ | omega) | decide | exact ⟨Or.inl (by assumption), by assumption⟩ | exact ⟨by assumption, by assumption⟩ | omega)⟩ ?_
                  try simp only [v1, v3, v5, g6t, g6f, g8t, g8f, gtt, gtf, gft, gff, pr_i_0, pr_i_1]
                  refine pr_ifT rfl (fun h46 => ?_) (fun h46 => ?_)
                  · simp only [ab_cmp, pr_i_0, pr_i_1] at h46
                    first
                    | contradiction
                    | exact absurd trivial h46
                    | exact absurd h46 (by decide)
                    | exact absurd (Classical.not_not.mp h46) (by decide)
                    | skip
                      refine pr_seqT (pc' := 75) 8 rfl ⟨⟨⟨⟨⟨⟨⟨⟨trivial, trivial⟩, (by exact ⟨by assumption, by first | exact Or.inl rfl | exact Or.inr rfl⟩)⟩, (by first | assumption | (simp only [v1, v3, v5, g6t, g6f, g8t, g8f, gtt, gtf, gft, gff, pr_i_0, pr_i_1]; first | assumption | decide | exact ⟨by assumption, by assumption⟩ | exact ⟨Or.inl (by assumption), by assumption⟩ | omega) | decide | exact ⟨Or.inl (by assumption), by assumption⟩ | exact ⟨by assumption, by assumption⟩ | omega)⟩, trivial⟩, (by first | assumption | (simp only [v1, v3, v5, g6t, g6f, g8t, g8f, gtt, gtf, gft, gff, pr_i_0, pr_i_1]; first | assumption | decide | exact ⟨by assumption, by assumption⟩ | exact ⟨Or.inl (by assumption), by assumption⟩ | omega) | decide | exact ⟨Or.inl (by assumption), by assumption⟩ | exact ⟨by assumption, by assumption⟩ | omega)⟩, trivial⟩, trivial⟩, (by first | assumption | (simp only [v1, v3, v5, g6t, g6f, g8t, g8f, gtt, gtf, gft, gff, pr_i_0, pr_i_1]; first | assumption | decide | exact ⟨by assumption, by assumption⟩ | exact ⟨Or.inl (by assumption), by assumption⟩ | omega) | decide | exact ⟨Or.inl (by assumption), by assumption⟩ | exact ⟨by assumption, by assumption⟩ | omega)⟩ ?_
                      try simp only [v1, v3, v5, g6t, g6f, g8t, g8f, gtt, gtf, gft, gff, pr_i_0, pr_i_1]
                      exact pr_vrT rfl rfl (by refine ⟨rfl, rfl, ?_⟩; simp only [ex, ey, decide_true, decide_false, Bool.and_true, Bool.and_false, Bool.false_and, Bool.true_and]; first | exact ftt | exact ftf | exact fft | exact fff)
                  · simp only [ab_cmp, pr_i_0, pr_i_1] at h46
                    first
                    | contradiction
                    | exact absurd trivial h46
                    | exact absurd h46 (by decide)
                    | exact absurd (Classical.not_not.mp h46) (by decide)
                    | skip
                      refine pr_seqT (pc' := 54) 3 rfl ⟨⟨⟨trivial, trivial⟩, (by first | assumption | (simp only [v1, v3, v5, g6t, g6f, g8t, g8f, gtt, gtf, gft, gff, pr_i_0, pr_i_1]; first | assumption | decide | exact ⟨by assumption, by assumption⟩ | exact ⟨Or.inl (by assumption), by assumption⟩ | omega) | decide | exact ⟨Or.inl (by assumption), by assumption⟩ | exact ⟨by assumption, by assumption⟩ | omega)⟩, (by first | assumption | (simp only [v1, v3, v5, g6t, g6f, g8t, g8f, gtt, gtf, gft, gff, pr_i_0, pr_i_1]; first | assumption | decide | exact ⟨by assumption, by assumption⟩ | exact ⟨Or.inl (by assumption), by assumption⟩ | omega) | decide | exact ⟨Or.inl (by assumption), by assumption⟩ | exact ⟨by assumption, by assumption⟩ | omega)⟩ ?_
                      try simp only [v1, v3, v5, g6t, g6f, g8t, g8f, gtt, gtf, gft, gff, pr_i_0, pr_i_1]
                      refine pr_icT rfl (fun h54 => ?_) (fun h54 => ?_)
                      · simp only [ab_cmp, pr_i_0, pr_i_1] at h54
                        first
                        | contradiction
                        | exact absurd trivial h54
                        | exact absurd h54 (by decide)
                        | exact absurd (Classical.not_not.mp h54) (by decide)
                        | skip
                          refine pr_seqT (pc' := 75) 8 rfl ⟨⟨⟨⟨⟨⟨⟨⟨trivial, trivial⟩, (by exact ⟨by assumption, by first | exact Or.inl rfl | exact Or.inr rfl⟩)⟩, (by first | assumption | (simp only [v1, v3, v5, g6t, g6f, g8t, g8f, gtt, gtf, gft, gff, pr_i_0, pr_i_1]; first | assumption | decide | exact ⟨by assumption, by assumption⟩ | exact ⟨Or.inl (by assumption), by assumption⟩ | omega) | decide | exact ⟨Or.inl (by assumption), by assumption⟩ | exact ⟨by assumption, by assumption⟩ | omega)⟩, trivial⟩, (by first | assumption | (simp only [v1, v3, v5, g6t, g6f, g8t, g8f, gtt, gtf, gft, gff, pr_i_0, pr_i_1]; first | assumption | decide | exact ⟨by assumption, by assumption⟩ | exact ⟨Or.inl (by assumption), by assumption⟩ | omega) | decide | exact ⟨Or.inl (by assumption), by assumption⟩ | exact ⟨by assumption, by assumption⟩ | omega)⟩, trivial⟩, trivial⟩, (by first | assumption | (simp only [v1, v3, v5, g6t, g6f, g8t, g8f, gtt, gtf, gft, gff, pr_i_0, pr_i_1]; first | assumption | decide | exact ⟨by assumption, by assumption⟩ | exact ⟨Or.inl (by assumption), by assumption⟩ | omega) | decide | exact ⟨Or.inl (by assumption), by assumption⟩ | exact ⟨by assumption, by assumption⟩ | omega)⟩ ?_
                          try simp only [v1, v3, v5, g6t, g6f, g8t, g8f, gtt, gtf, gft, gff, pr_i_0, pr_i_1]
                          exact pr_vrT rfl rfl (by refine ⟨rfl, rfl, ?_⟩; simp only [ex, ey, decide_true, decide_false, Bool.and_true, Bool.and_false, Bool.false_and, Bool.true_and]; first | exact ftt | exact ftf | exact fft | exact fff)
                      · simp only [ab_cmp, pr_i_0, pr_i_1] at h54
                        first
                        | contradiction
                        | exact absurd trivial h54
                        | exact absurd h54 (by decide)
                        | exact absurd (Classical.not_not.mp h54) (by decide)
                        | skip
                          refine pr_seqT (pc' := 75) 9 rfl ⟨⟨⟨⟨⟨⟨⟨⟨⟨trivial, trivial⟩, trivial⟩, (by exact ⟨by assumption, by first | exact Or.inl rfl | exact Or.inr rfl⟩)⟩, (by first | assumption | (simp only [v1, v3, v5, g6t, g6f, g8t, g8f, gtt, gtf, gft, gff, pr_i_0, pr_i_1]; first | assumption | decide | exact ⟨by assumption, by assumption⟩ | exact ⟨Or.inl (by assumption), by assumption⟩ | omega) | decide | exact ⟨Or.inl (by assumption), by assumption⟩ | exact ⟨by assumption, by assumption⟩ | omega)⟩, trivial⟩, (by first | assumption | (simp only [v1, v3, v5, g6t, g6f, g8t, g8f, gtt, gtf, gft, gff, pr_i_0, pr_i_1]; first | assumption | decide | exact ⟨by assumption, by assumption⟩ | exact ⟨Or.inl (by assumption), by assumption⟩ | omega) | decide | exact ⟨Or.inl (by assumption), by assumption⟩ | exact ⟨by assumption, by assumption⟩ | omega)⟩, trivial⟩, trivial⟩, (by first | assumption | (simp only [v1, v3, v5, g6t, g6f, g8t, g8f, gtt, gtf, gft, gff, pr_i_0, pr_i_1]; first | assumption | decide | exact ⟨by assumption, by assumption⟩ | exact ⟨Or.inl (by assumption), by assumption⟩ | omega) | decide | exact ⟨Or.inl (by assumption), by assumption⟩ | exact ⟨by assumption, by assumption⟩ | omega)⟩ ?_
                          try simp only [v1, v3, v5, g6t, g6f, g8t, g8f, gtt, gtf, gft, gff, pr_i_0, pr_i_1]
                          exact pr_vrT rfl rfl (by refine ⟨rfl, rfl, ?_⟩; simp only [ex, ey, decide_true, decide_false, Bool.and_true, Bool.and_false, Bool.false_and, Bool.true_and]; first | exact ftt | exact ftf | exact fft | exact fff)
      · simp only [ab_cmp, pr_i_0, pr_i_1] at h4
        first
        | contradiction
        | exact absurd trivial h4
        | exact absurd h4 (by decide)
        | exact absurd (Classical.not_not.mp h4) (by decide)
        | skip
          refine pr_seqT (pc' := 22) 9 rfl ⟨⟨⟨⟨⟨⟨⟨⟨⟨trivial, (by first | assumption | (simp only [v1, v3, v5, g6t, g6f, g8t, g8f, gtt, gtf, gft, gff, pr_i_0, pr_i_1]; first | assumption | decide | exact ⟨by assumption, by assumption⟩ | exact ⟨Or.inl (by assumption), by assumption⟩ | omega) | decide | exact ⟨Or.inl (by assumption), by assumption⟩ | exact ⟨by assumption, by assumption⟩ | omega)⟩, trivial⟩, (by first | assumption | (simp only [v1, v3, v5, g6t, g6f, g8t, g8f, gtt, gtf, gft, gff, pr_i_0, pr_i_1]; first | assumption | decide | exact ⟨by assumption, by assumption⟩ | exact ⟨Or.inl (by assumption), by assumption⟩ | omega) | decide | exact ⟨Or.inl (by assumption), by assumption⟩ | exact ⟨by assumption, by assumption⟩ | omega)⟩, (by first | assumption | (simp only [v1, v3, v5, g6t, g6f, g8t, g8f, gtt, gtf, gft, gff, pr_i_0, pr_i_1]; first | assumption | decide | exact ⟨by assumption, by assumption⟩ | exact ⟨Or.inl (by assumption), by assumption⟩ | omega) | decide | exact ⟨Or.inl (by assumption), by assumption⟩ | exact ⟨by assumption, by assumption⟩ | omega)⟩, trivial⟩, (by first | assumption | (simp only [v1, v3, v5, g6t, g6f, g8t, g8f, gtt, gtf, gft, gff, pr_i_0, pr_i_1]; first | assumption | decide | exact ⟨by assumption, by assumption⟩ | exact ⟨Or.inl (by assumption), by assumption⟩ | omega) | decide | exact ⟨Or.inl (by assumption), by assumption⟩ | exact ⟨by assumption, by assumption⟩ | omega)⟩, (by first | assumption | (simp only [v1, v3, v5, g6t, g6f, g8t, g8f, gtt, gtf, gft, gff, pr_i_0, pr_i_1]; first | assumption | decide | exact ⟨by assumption, by assumption⟩ | exact ⟨Or.inl (by assumption), by assumption⟩ | omega) | decide | exact ⟨Or.inl (by assumption), by assumption⟩ | exact ⟨by assumption, by assumption⟩ | omega)⟩, (by first | assumption | (simp only [v1, v3, v5, g6t, g6f, g8t, g8f, gtt, gtf, gft, gff, pr_i_0, pr_i_1]; first | assumption | decide | exact ⟨by assumption, by assumption⟩ | exact ⟨Or.inl (by assumption), by assumption⟩ | omega) | decide | exact ⟨Or.inl (by assumption), by assumption⟩ | exact ⟨by assumption, by assumption⟩ | omega)⟩, (by first | assumption | (simp only [v1, v3, v5, g6t, g6f, g8t, g8f, gtt, gtf, gft, gff, pr_i_0, pr_i_1]; first | assumption | decide | exact ⟨by assumption, by assumption⟩ | exact ⟨Or.inl (by assumption), by assumption⟩ | omega) | decide | exact ⟨Or.inl (by assumption), by assumption⟩ | exact ⟨by assumption, by assumption⟩ | omega)⟩ ?_
          try simp only [v1, v3, v5, g6t, g6f, g8t, g8f, gtt, gtf, gft, gff, pr_i_0, pr_i_1]
          refine pr_ifT rfl (fun h22 => ?_) (fun h22 => ?_)
          · simp only [ab_cmp, pr_i_0, pr_i_1] at h22
            first
            | contradiction
            | exact absurd trivial h22
            | exact absurd h22 (by decide)
            | exact absurd (Classical.not_not.mp h22) (by decide)
            | skip
              refine pr_seqT (pc' := 46) 5 rfl ⟨⟨⟨⟨⟨trivial, trivial⟩, (by exact ⟨by assumption, by first | exact Or.inl rfl | exact Or.inr rfl⟩)⟩, (by first | assumption | (simp only [v1, v3, v5, g6t, g6f, g8t, g8f, gtt, gtf, gft, gff, pr_i_0, pr_i_1]; first | assumption | decide | exact ⟨by assumption, by assumption⟩ | exact ⟨Or.inl (by assumption), by assumption⟩ | omega) | decide | exact ⟨Or.inl (by assumption), by assumption⟩ | exact ⟨by assumption, by assumption⟩ | omega)⟩, (by first | assumption | (simp only [v1, v3, v5, g6t, g6f, g8t, g8f, gtt, gtf, gft, gff, pr_i_0, pr_i_1]; first | assumption | decide | exact ⟨by assumption, by assumption⟩ | exact ⟨Or.inl (by assumption), by assumption⟩ | omega) | decide | exact ⟨Or.inl (by assumption), by assumption⟩ | exact ⟨by assumption, by assumption⟩ | omega)⟩, (by first | assumption | (simp only [v1, v3, v5, g6t, g6f, g8t, g8f, gtt, gtf, gft, gff, pr_i_0, pr_i_1]; first | assumption | decide | exact ⟨by assumption, by assumption⟩ | exact ⟨Or.inl (by assumption), by assumption⟩ | omega) | decide | exact ⟨Or.inl (by assumption), by assumption⟩ | exact ⟨by assumption, by assumption⟩ | omega)⟩ ?_
              try simp only [v1, v3, v5, g6t, g6f, g8t, g8f, gtt, gtf, gft, gff, pr_i_0, pr_i_1]
              refine pr_ifT rfl (fun h46 => ?_) (fun h46 => ?_)
              · simp only [ab_cmp, pr_i_0, pr_i_1] at h46
                first
                | contradiction
                | exact absurd trivial h46
                | exact absurd h46 (by decide)
                | exact absurd (Classical.not_not.mp h46) (by decide)
                | skip
                  refine pr_seqT (pc' := 75) 8 rfl ⟨⟨⟨⟨⟨⟨⟨⟨trivial, trivial⟩, (by exact ⟨by assumption, by first | exact Or.inl rfl | exact Or.inr rfl⟩)⟩, (by first | assumption | (simp only [v1, v3, v5, g6t, g6f, g8t, g8f, gtt, gtf, gft, gff, pr_i_0, pr_i_1]; first | assumption | decide | exact ⟨by assumption, by assumption⟩ | exact ⟨Or.inl (by assumption), by assumption⟩ | omega) | decide | exact ⟨Or.inl (by assumption), by assumption⟩ | exact ⟨by assumption, by assumption⟩ | omega)⟩, trivial⟩, (by first | assumption | (simp only [v1, v3, v5, g6t, g6f, g8t, g8f, gtt, gtf, gft, gff, pr_i_0, pr_i_1]; first | assumption | decide | exact ⟨by assumption, by assumption⟩ | exact ⟨Or.inl (by assumption), by assumption⟩ | omega) | decide | exact ⟨Or.inl (by assumption), by assumption⟩ | exact ⟨by assumption, by assumption⟩ | omega)⟩, trivial⟩, trivial⟩, (by first | assumption | (simp only [v1, v3, v5, g6t, g6f, g8t, g8f, gtt, gtf, gft, gff, pr_i_0, pr_i_1]; first | assumption | decide | exact ⟨by assumption, by assumption⟩ | exact ⟨Or.inl (by assumption), by assumption⟩ | omega) | decide | exact ⟨Or.inl (by assumption), by assumption⟩ | exact ⟨by assumption, by assumption⟩ | omega)⟩ ?_
                  try simp only [v1, v3, v5, g6t, g6f, g8t, g8f, gtt, gtf, gft, gff, pr_i_0, pr_i_1]
                  exact pr_vrT rfl rfl (by refine ⟨rfl, rfl, ?_⟩; simp only [ex, ey, decide_true, decide_false, Bool.and_true, Bool.and_false, Bool.false_and, Bool.true_and]; first | exact ftt | exact ftf | exact fft | exact fff)
              · simp only [ab_cmp, pr_i_0, pr_i_1] at h46
                first
                | contradiction
                | exact absurd trivial h46
                | exact absurd h46 (by decide)
                | exact absurd (Classical.not_not.mp h46) (by decide)
                | skip
                  refine pr_seqT (pc' := 54) 3 rfl ⟨⟨⟨trivial, trivial⟩, (by first | assumption | (simp only [v1, v3, v5, g6t, g6f, g8t, g8f, gtt, gtf, gft, gff, pr_i_0, pr_i_1]; first | assumption | decide | exact ⟨by assumption, by assumption⟩ | exact ⟨Or.inl (by assumption), by assumption⟩ | omega) | decide | exact ⟨Or.inl (by assumption), by assumption⟩ | exact ⟨by assumption, by assumption⟩ | omega)⟩, (by first | assumption | (simp only [v1, v3, v5, g6t, g6f, g8t, g8f, gtt, gtf, gft, gff, pr_i_0, pr_i_1]; first | assumption | decide | exact ⟨by assumption, by assumption⟩ | exact ⟨Or.inl (by assumption), by assumption⟩ | omega) | decide | exact ⟨Or.inl (by assumption), by assumption⟩ | exact ⟨by assumption, by assumption⟩ | omega)⟩ ?_
                  try simp only [v1, v3, v5, g6t, g6f, g8t, g8f, gtt, gtf, gft, gff, pr_i_0, pr_i_1]
                  refine pr_icT rfl (fun h54 => ?_) (fun h54 => ?_)
                  · simp only [ab_cmp, pr_i_0, pr_i_1] at h54
                    first
                    | contradiction
                    | exact absurd trivial h54
                    | exact absurd h54 (by decide)
                    | exact absurd (Classical.not_not.mp h54) (by decide)
                    | skip
                      refine pr_seqT (pc' := 75) 8 rfl ⟨⟨⟨⟨⟨⟨⟨⟨trivial, trivial⟩, (by exact ⟨by assumption, by first | exact Or.inl rfl | exact Or.inr rfl⟩)⟩, (by first | assumption | (simp only [v1, v3, v5, g6t, g6f, g8t, g8f, gtt, gtf, gft, gff, pr_i_0, pr_i_1]; first | assumption | decide | exact ⟨by assumption, by assumption⟩ | exact ⟨Or.inl (by assumption), by assumption⟩ | omega) | decide | exact ⟨Or.inl (by assumption), by assumption⟩ | exact ⟨by assumption, by assumption⟩ | omega)⟩, trivial⟩, (by first | assumption | (simp only [v1, v3, v5, g6t, g6f, g8t, g8f, gtt, gtf, gft, gff, pr_i_0, pr_i_1]; first | assumption | decide | exact ⟨by assumption, by assumption⟩ | exact ⟨Or.inl (by assumption), by assumption⟩ | omega) | decide | exact ⟨Or.inl (by assumption), by assumption⟩ | exact ⟨by assumption, by assumption⟩ | omega)⟩, trivial⟩, trivial⟩, (by first | assumption | (simp only [v1, v3, v5, g6t, g6f, g8t, g8f, gtt, gtf, gft, gff, pr_i_0, pr_i_1]; first | assumption | decide | exact ⟨by assumption, by assumption⟩ | exact ⟨Or.inl (by assumption), by assumption⟩ | omega) | decide | exact ⟨Or.inl (by assumption), by assumption⟩ | exact ⟨by assumption, by assumption⟩ | omega)⟩ ?_
                      try simp only [v1, v3, v5, g6t, g6f, g8t, g8f, gtt, gtf, gft, gff, pr_i_0, pr_i_1]
                      exact pr_vrT rfl rfl (by refine ⟨rfl, rfl, ?_⟩; simp only [ex, ey, decide_true, decide_false, Bool.and_true, Bool.and_false, Bool.false_and, Bool.true_and]; first | exact ftt | exact ftf | exact fft | exact fff)
                  · simp only [ab_cmp, pr_i_0, pr_i_1] at h54
                    first
                    | contradiction
                    | exact absurd trivial h54
                    | exact absurd h54 (by decide)
                    | exact absurd (Classical.not_not.mp h54) (by decide)
                    | skip
                      refine pr_seqT (pc' := 75) 9 rfl ⟨⟨⟨⟨⟨⟨⟨⟨⟨trivial, trivial⟩, trivial⟩, (by exact ⟨by assumption, by first | exact Or.inl rfl | exact Or.inr rfl⟩)⟩, (by first | assumption | (simp only [v1, v3, v5, g6t, g6f, g8t, g8f, gtt, gtf, gft, gff, pr_i_0, pr_i_1]; first | assumption | decide | exact ⟨by assumption, by assumption⟩ | exact ⟨Or.inl (by assumption), by assumption⟩ | omega) | decide | exact ⟨Or.inl (by assumption), by assumption⟩ | exact ⟨by assumption, by assumption⟩ | omega)⟩, trivial⟩, (by first | assumption | (simp only [v1, v3, v5, g6t, g6f, g8t, g8f, gtt, gtf, gft, gff, pr_i_0, pr_i_1]; first | assumption | decide | exact ⟨by assumption, by assumption⟩ | exact ⟨Or.inl (by assumption), by assumption⟩ | omega) | decide | exact ⟨Or.inl (by assumption), by assumption⟩ | exact ⟨by assumption, by assumption⟩ | omega)⟩, trivial⟩, trivial⟩, (by first | assumption | (simp only [v1, v3, v5, g6t, g6f, g8t, g8f, gtt, gtf, gft, gff, pr_i_0, pr_i_1]; first | assumption | decide | exact ⟨by assumption, by assumption⟩ | exact ⟨Or.inl (by assumption), by assumption⟩ | omega) | decide | exact ⟨Or.inl (by assumption), by assumption⟩ | exact ⟨by assumption, by assumption⟩ | omega)⟩ ?_
                      try simp only [v1, v3, v5, g6t, g6f, g8t, g8f, gtt, gtf, gft, gff, pr_i_0, pr_i_1]
                      exact pr_vrT rfl rfl (by refine ⟨rfl, rfl, ?_⟩; simp only [ex, ey, decide_true, decide_false, Bool.and_true, Bool.and_false, Bool.false_and, Bool.true_and]; first | exact ftt | exact ftf | exact fft | exact fff)
          · simp only [ab_cmp, pr_i_0, pr_i_1] at h22
            first
            | contradiction
            | exact absurd trivial h22
            | exact absurd h22 (by decide)
            | exact absurd (Classical.not_not.mp h22) (by decide)
            | skip
              refine pr_seqT (pc' := 30) 3 rfl ⟨⟨⟨trivial, trivial⟩, (by first | assumption | (simp only [v1, v3, v5, g6t, g6f, g8t, g8f, gtt, gtf, gft, gff, pr_i_0, pr_i_1]; first | assumption | decide | exact ⟨by assumption, by assumption⟩ | exact ⟨Or.inl (by assumption), by assumption⟩ | omega) | decide | exact ⟨Or.inl (by assumption), by assumption⟩ | exact ⟨by assumption, by assumption⟩ | omega)⟩, (by first | assumption | (simp only [v1, v3, v5, g6t, g6f, g8t, g8f, gtt, gtf, gft, gff, pr_i_0, pr_i_1]; first | assumption | decide | exact ⟨by assumption, by assumption⟩ | exact ⟨Or.inl (by assumption), by assumption⟩ | omega) | decide | exact ⟨Or.inl (by assumption), by assumption⟩ | exact ⟨by assumption, by assumption⟩ | omega)⟩ ?_
              try simp only [v1, v3, v5, g6t, g6f, g8t, g8f, gtt, gtf, gft, gff, pr_i_0, pr_i_1]
              refine pr_icT rfl (fun h30 => ?_) (fun h30 => ?_)
              · simp only [ab_cmp, pr_i_0, pr_i_1] at h30
                first
                | contradiction
                | exact absurd trivial h30
                | exact absurd h30 (by decide)
                | exact absurd (Classical.not_not.mp h30) (by decide)
                | skip
                  refine pr_seqT (pc' := 46) 5 rfl ⟨⟨⟨⟨⟨trivial, trivial⟩, (by exact ⟨by assumption, by first | exact Or.inl rfl | exact Or.inr rfl⟩)⟩, (by first | assumption | (simp only [v1, v3, v5, g6t, g6f, g8t, g8f, gtt, gtf, gft, gff, pr_i_0, pr_i_1]; first | assumption | decide | exact ⟨by assumption, by assumption⟩ | exact ⟨Or.inl (by assumption), by assumption⟩ | omega) | decide | exact ⟨Or.inl (by assumption), by assumption⟩ | exact ⟨by assumption, by assumption⟩ | omega)⟩, (by first | assumption | (simp only [v1, v3, v5, g6t, g6f, g8t, g8f, gtt, gtf, gft, gff, pr_i_0, pr_i_1]; first | assumption | decide | exact ⟨by assumption, by assumption⟩ | exact ⟨Or.inl (by assumption), by assumption⟩ | omega) | decide | exact ⟨Or.inl (by assumption), by assumption⟩ | exact ⟨by assumption, by assumption⟩ | omega)⟩, (by first | assumption | (simp only [v1, v3, v5, g6t, g6f, g8t, g8f, gtt, gtf, gft, gff, pr_i_0, pr_i_1]; first | assumption | decide | exact ⟨by assumption, by assumption⟩ | exact ⟨Or.inl (by assumption), by assumption⟩ | omega) | decide | exact ⟨Or.inl (by assumption), by assumption⟩ | exact ⟨by assumption, by assumption⟩ | omega)⟩ ?_
                  try simp only [v1, v3, v5, g6t, g6f, g8t, g8f, gtt, gtf, gft, gff, pr_i_0, pr_i_1]
                  refine pr_ifT rfl (fun h46 => ?_) (fun h46 => ?_)
                  · simp only [ab_cmp, pr_i_0, pr_i_1] at h46
                    first
                    | contradiction
                    | exact absurd trivial h46
                    | exact absurd h46 (by decide)
                    | exact absurd (Classical.not_not.mp h46) (by decide)
                    | skip
                      refine pr_seqT (pc' := 75) 8 rfl ⟨⟨⟨⟨⟨⟨⟨⟨trivial, trivial⟩, (by exact ⟨by assumption, by first | exact Or.inl rfl | exact Or.inr rfl⟩)⟩, (by first | assumption | (simp only [v1, v3, v5, g6t, g6f, g8t, g8f, gtt, gtf, gft, gff, pr_i_0, pr_i_1]; first | assumption | decide | exact ⟨by assumption, by assumption⟩ | exact ⟨Or.inl (by assumption), by assumption⟩ | omega) | decide | exact ⟨Or.inl (by assumption), by assumption⟩ | exact ⟨by assumption, by assumption⟩ | omega)⟩, trivial⟩, (by first | assumption | (simp only [v1, v3, v5, g6t, g6f, g8t, g8f, gtt, gtf, gft, gff, pr_i_0, pr_i_1]; first | assumption | decide | exact ⟨by assumption, by assumption⟩ | exact ⟨Or.inl (by assumption), by assumption⟩ | omega) | decide | exact ⟨Or.inl (by assumption), by assumption⟩ | exact ⟨by assumption, by assumption⟩ | omega)⟩, trivial⟩, trivial⟩, (by first | assumption | (simp only [v1, v3, v5, g6t, g6f, g8t, g8f, gtt, gtf, gft, gff, pr_i_0, pr_i_1]; first | assumption | decide | exact ⟨by assumption, by assumption⟩ | exact ⟨Or.inl (by assumption), by assumption⟩ | omega) | decide | exact ⟨Or.inl (by assumption), by assumption⟩ | exact ⟨by assumption, by assumption⟩ | omega)⟩ ?_
                      try simp only [v1, v3, v5, g6t, g6f, g8t, g8f, gtt, gtf, gft, gff, pr_i_0, pr_i_1]
                      exact pr_vrT rfl rfl (by refine ⟨rfl, rfl, ?_⟩; simp only [ex, ey, decide_true, decide_false, Bool.and_true, Bool.and_false, Bool.false_and, Bool.true_and]; first | exact ftt | exact ftf | exact fft | exact fff)
                  · simp only [ab_cmp, pr_i_0, pr_i_1] at h46
                    first
                    | contradiction
                    | exact absurd trivial h46
                    | exact absurd h46 (by decide)
                    | exact absurd (Classical.not_not.mp h46) (by decide)
                    | skip
                      refine pr_seqT (pc' := 54) 3 rfl ⟨⟨⟨trivial, trivial⟩, (by first | assumption | (simp only [v1, v3, v5, g6t, g6f, g8t, g8f, gtt, gtf, gft, gff, pr_i_0, pr_i_1]; first | assumption | decide | exact ⟨by assumption, by assumption⟩ | exact ⟨Or.inl (by assumption), by assumption⟩ | omega) | decide | exact ⟨Or.inl (by assumption), by assumption⟩ | exact ⟨by assumption, by assumption⟩ | omega)⟩, (by first | assumption | (simp only [v1, v3, v5, g6t, g6f, g8t, g8f, gtt, gtf, gft, gff, pr_i_0, pr_i_1]; first | assumption | decide | exact ⟨by assumption, by assumption⟩ | exact ⟨Or.inl (by assumption), by assumption⟩ | omega) | decide | exact ⟨Or.inl (by assumption), by assumption⟩ | exact ⟨by assumption, by assumption⟩ | omega)⟩ ?_
                      try simp only [v1, v3, v5, g6t, g6f, g8t, g8f, gtt, gtf, gft, gff, pr_i_0, pr_i_1]
                      refine pr_icT rfl (fun h54 => ?_) (fun h54 => ?_)
                      · simp only [ab_cmp, pr_i_0, pr_i_1] at h54
                        first
                        | contradiction
                        | exact absurd trivial h54
                        | exact absurd h54 (by decide)
                        | exact absurd (Classical.not_not.mp h54) (by decide)
                        | skip
                          refine pr_seqT (pc' := 75) 8 rfl ⟨⟨⟨⟨⟨⟨⟨⟨trivial, trivial⟩, (by exact ⟨by assumption, by first | exact Or.inl rfl | exact Or.inr rfl⟩)⟩, (by first | assumption | (simp only [v1, v3, v5, g6t, g6f, g8t, g8f, gtt, gtf, gft, gff, pr_i_0, pr_i_1]; first | assumption | decide | exact ⟨by assumption, by assumption⟩ | exact ⟨Or.inl (by assumption), by assumption⟩ | omega) | decide | exact ⟨Or.inl (by assumption), by assumption⟩ | exact ⟨by assumption, by assumption⟩ | omega)⟩, trivial⟩, (by first | assumption | (simp only [v1, v3, v5, g6t, g6f, g8t, g8f, gtt, gtf, gft, gff, pr_i_0, pr_i_1]; first | assumption | decide | exact ⟨by assumption, by assumption⟩ | exact ⟨Or.inl (by assumption), by assumption⟩ | omega) | decide | exact ⟨Or.inl (by assumption), by assumption⟩ | exact ⟨by assumption, by assumption⟩ | omega)⟩, trivial⟩, trivial⟩, (by first | assumption | (simp only [v1, v3, v5, g6t, g6f, g8t, g8f, gtt, gtf, gft, gff, pr_i_0, pr_i_1]; first | assumption | decide | exact ⟨by assumption, by assumption⟩ | exact ⟨Or.inl (by assumption), by assumption⟩ | omega) | decide | exact ⟨Or.inl (by assumption), by assumption⟩ | exact ⟨by assumption, by assumption⟩ | omega)⟩ ?_
                          try simp only [v1, v3, v5, g6t, g6f, g8t, g8f, gtt, gtf, gft, gff, pr_i_0, pr_i_1]
                          exact pr_vrT rfl rfl (by refine ⟨rfl, rfl, ?_⟩; simp only [ex, ey, decide_true, decide_false, Bool.and_true, Bool.and_false, Bool.false_and, Bool.true_and]; first | exact ftt | exact ftf | exact fft | exact fff)
                      · simp only [ab_cmp, pr_i_0, pr_i_1] at h54
                        first
                        | contradiction
                        | exact absurd trivial h54
                        | exact absurd h54 (by decide)
                        | exact absurd (Classical.not_not.mp h54) (by decide)
                        | skip
                          refine pr_seqT (pc' := 75) 9 rfl ⟨⟨⟨⟨⟨⟨⟨⟨⟨trivial, trivial⟩, trivial⟩, (by exact ⟨by assumption, by first | exact Or.inl rfl | exact Or.inr rfl⟩)⟩, (by first | assumption | (simp only [v1, v3, v5, g6t, g6f, g8t, g8f, gtt, gtf, gft, gff, pr_i_0, pr_i_1]; first | assumption | decide | exact ⟨by assumption, by assumption⟩ | exact ⟨Or.inl (by assumption), by assumption⟩ | omega) | decide | exact ⟨Or.inl (by assumption), by assumption⟩ | exact ⟨by assumption, by assumption⟩ | omega)⟩, trivial⟩, (by first | assumption | (simp only [v1, v3, v5, g6t, g6f, g8t, g8f, gtt, gtf, gft, gff, pr_i_0, pr_i_1]; first | assumption | decide | exact ⟨by assumption, by assumption⟩ | exact ⟨Or.inl (by assumption), by assumption⟩ | omega) | decide | exact ⟨Or.inl (by assumption), by assumption⟩ | exact ⟨by assumption, by assumption⟩ | omega)⟩, trivial⟩, trivial⟩, (by first | assumption | (simp only [v1, v3, v5, g6t, g6f, g8t, g8f, gtt, gtf, gft, gff, pr_i_0, pr_i_1]; first | assumption | decide | exact ⟨by assumption, by assumption⟩ | exact ⟨Or.inl (by assumption), by assumption⟩ | omega) | decide | exact ⟨Or.inl (by assumption), by assumption⟩ | exact ⟨by assumption, by assumption⟩ | omega)⟩ ?_
                          try simp only [v1, v3, v5, g6t, g6f, g8t, g8f, gtt, gtf, gft, gff, pr_i_0, pr_i_1]
                          exact pr_vrT rfl rfl (by refine ⟨rfl, rfl, ?_⟩; simp only [ex, ey, decide_true, decide_false, Bool.and_true, Bool.and_false, Bool.false_and, Bool.true_and]; first | exact ftt | exact ftf | exact fft | exact fff)
              · simp only [ab_cmp, pr_i_0, pr_i_1] at h30
                first
                | contradiction
                | exact absurd trivial h30
                | exact absurd h30 (by decide)
                | exact absurd (Classical.not_not.mp h30) (by decide)
                | skip
                  refine pr_seqT (pc' := 46) 6 rfl ⟨⟨⟨⟨⟨⟨trivial, trivial⟩, trivial⟩, (by exact ⟨by assumption, by first | exact Or.inl rfl | exact Or.inr rfl⟩)⟩, (by first | assumption | (simp only [v1, v3, v5, g6t, g6f, g8t, g8f, gtt, gtf, gft, gff, pr_i_0, pr_i_1]; first | assumption | decide | exact ⟨by assumption, by assumption⟩ | exact ⟨Or.inl (by assumption), by assumption⟩ | omega) | decide | exact ⟨Or.inl (by assumption), by assumption⟩ | exact ⟨by assumption, by assumption⟩ | omega)⟩, (by first | assumption | (simp only [v1, v3, v5, g6t, g6f, g8t, g8f, gtt, gtf, gft, gff, pr_i_0, pr_i_1]; first | assumption | decide | exact ⟨by assumption, by assumption⟩ | exact ⟨Or.inl (by assumption), by assumption⟩ | omega) | decide | exact ⟨Or.inl (by assumption), by assumption⟩ | exact ⟨by assumption, by assumption⟩ | omega)⟩, (by first | assumption | (simp only [v1, v3, v5, g6t, g6f, g8t, g8f, gtt, gtf, gft, gff, pr_i_0, pr_i_1]; first | assumption | decide | exact ⟨by assumption, by assumption⟩ | exact ⟨Or.inl (by assumption), by assumption⟩ | omega) | decide | exact ⟨Or.inl (by assumption), by assumption⟩ | exact ⟨by assumption, by assumption⟩ | omega)⟩ ?_
                  try simp only [v1, v3, v5, g6t, g6f, g8t, g8f, gtt, gtf, gft, gff, pr_i_0, pr_i_1]
                  refine pr_ifT rfl (fun h46 => ?_) (fun h46 => ?_)
                  · simp only [ab_cmp, pr_i_0, pr_i_1] at h46
                    first
                    | contradiction
                    | exact absurd trivial h46
                    | exact absurd h46 (by decide)
                    | exact absurd (Classical.not_not.mp h46) (by decide)
                    | skip
                      refine pr_seqT (pc' := 75) 8 rfl ⟨⟨⟨⟨⟨⟨⟨⟨trivial, trivial⟩, (by exact ⟨by assumption, by first | exact Or.inl rfl | exact Or.inr rfl⟩)⟩, (by first | assumption | (simp only [v1, v3, v5, g6t, g6f, g8t, g8f, gtt, gtf, gft, gff, pr_i_0, pr_i_1]; first | assumption | decide | exact ⟨by assumption, by assumption⟩ | exact ⟨Or.inl (by assumption), by assumption⟩ | omega) | decide | exact ⟨Or.inl (by assumption), by assumption⟩ | exact ⟨by assumption, by assumption⟩ | omega)⟩, trivial⟩, (by first | assumption | (simp only [v1, v3, v5, g6t, g6f, g8t, g8f, gtt, gtf, gft, gff, pr_i_0, pr_i_1]; first | assumption | decide | exact ⟨by assumption, by assumption⟩ | exact ⟨Or.inl (by assumption), by assumption⟩ | omega) | decide | exact ⟨Or.inl (by assumption), by assumption⟩ | exact ⟨by assumption, by assumption⟩ | omega)⟩, trivial⟩, trivial⟩, (by first | assumption | (simp only [v1, v3, v5, g6t, g6f, g8t, g8f, gtt, gtf, gft, gff, pr_i_0, pr_i_1]; first | assumption | decide | exact ⟨by assumption, by assumption⟩ | exact ⟨Or.inl (by assumption), by assumption⟩ | omega) | decide | exact ⟨Or.inl (by assumption), by assumption⟩ | exact ⟨by assumption, by assumption⟩ | omega)⟩ ?_
                      try simp only [v1, v3, v5, g6t, g6f, g8t, g8f, gtt, gtf, gft, gff, pr_i_0, pr_i_1]
                      exact pr_vrT rfl rfl (by refine ⟨rfl, rfl, ?_⟩; simp only [ex, ey, decide_true, decide_false, Bool.and_true, Bool.and_false, Bool.false_and, Bool.true_and]; first | exact ftt | exact ftf | exact fft | exact fff)
                  · simp only [ab_cmp, pr_i_0, pr_i_1] at h46
                    first
                    | contradiction
                    | exact absurd trivial h46
                    | exact absurd h46 (by decide)
                    | exact absurd (Classical.not_not.mp h46) (by decide)
                    | skip
                      refine pr_seqT (pc' := 54) 3 rfl ⟨⟨⟨trivial, trivial⟩, (by first | assumption | (simp only [v1, v3, v5, g6t, g6f, g8t, g8f, gtt, gtf, gft, gff, pr_i_0, pr_i_1]; first | assumption | decide | exact ⟨by assumption, by assumption⟩ | exact ⟨Or.inl (by assumption), by assumption⟩ | omega) | decide | exact ⟨Or.inl (by assumption), by assumption⟩ | exact ⟨by assumption, by assumption⟩ | omega)⟩, (by first | assumption | (simp only [v1, v3, v5, g6t, g6f, g8t, g8f, gtt, gtf, gft, gff, pr_i_0, pr_i_1]; first | assumption | decide | exact ⟨by assumption, by assumption⟩ | exact ⟨Or.inl (by assumption), by assumption⟩ | omega) | decide | exact ⟨Or.inl (by assumption), by assumption⟩ | exact ⟨by assumption, by assumption⟩ | omega)⟩ ?_
                      try simp only [v1, v3, v5, g6t, g6f, g8t, g8f, gtt, gtf, gft, gff, pr_i_0, pr_i_1]
                      refine pr_icT rfl (fun h54 => ?_) (fun h54 => ?_)
                      · simp only [ab_cmp, pr_i_0, pr_i_1] at h54
                        first
                        | contradiction
                        | exact absurd trivial h54
                        | exact absurd h54 (by decide)
                        | exact absurd (Classical.not_not.mp h54) (by decide)
                        | skip
                          refine pr_seqT (pc' := 75) 8 rfl ⟨⟨⟨⟨⟨⟨⟨⟨trivial, trivial⟩, (by exact ⟨by assumption, by first | exact Or.inl rfl | exact Or.inr rfl⟩)⟩, (by first | assumption | (simp only [v1, v3, v5, g6t, g6f, g8t, g8f, gtt, gtf, gft, gff, pr_i_0, pr_i_1]; first | assumption | decide | exact ⟨by assumption, by assumption⟩ | exact ⟨Or.inl (by assumption), by assumption⟩ | omega) | decide | exact ⟨Or.inl (by assumption), by assumption⟩ | exact ⟨by assumption, by assumption⟩ | omega)⟩, trivial⟩, (by first | assumption | (simp only [v1, v3, v5, g6t, g6f, g8t, g8f, gtt, gtf, gft, gff, pr_i_0, pr_i_1]; first | assumption | decide | exact ⟨by assumption, by assumption⟩ | exact ⟨Or.inl (by assumption), by assumption⟩ | omega) | decide | exact ⟨Or.inl (by assumption), by assumption⟩ | exact ⟨by assumption, by assumption⟩ | omega)⟩, trivial⟩, trivial⟩, (by first | assumption | (simp only [v1, v3, v5, g6t, g6f, g8t, g8f, gtt, gtf, gft, gff, pr_i_0, pr_i_1]; first | assumption | decide | exact ⟨by assumption, by assumption⟩ | exact ⟨Or.inl (by assumption), by assumption⟩ | omega) | decide | exact ⟨Or.inl (by assumption), by assumption⟩ | exact ⟨by assumption, by assumption⟩ | omega)⟩ ?_
                          try simp only [v1, v3, v5, g6t, g6f, g8t, g8f, gtt, gtf, gft, gff, pr_i_0, pr_i_1]
                          exact pr_vrT rfl rfl (by refine ⟨rfl, rfl, ?_⟩; simp only [ex, ey, decide_true, decide_false, Bool.and_true, Bool.and_false, Bool.false_and, Bool.true_and]; first | exact ftt | exact ftf | exact fft | exact fff)
                      · simp only [ab_cmp, pr_i_0, pr_i_1] at h54
                        first
                        | contradiction
                        | exact absurd trivial h54
                        | exact absurd h54 (by decide)
                        | exact absurd (Classical.not_not.mp h54) (by decide)
                        | skip
                          refine pr_seqT (pc' := 75) 9 rfl ⟨⟨⟨⟨⟨⟨⟨⟨⟨trivial, trivial⟩, trivial⟩, (by exact ⟨by assumption, by first | exact Or.inl rfl | exact Or.inr rfl⟩)⟩, (by first | assumption | (simp only [v1, v3, v5, g6t, g6f, g8t, g8f, gtt, gtf, gft, gff, pr_i_0, pr_i_1]; first | assumption | decide | exact ⟨by assumption, by assumption⟩ | exact ⟨Or.inl (by assumption), by assumption⟩ | omega) | decide | exact ⟨Or.inl (by assumption), by assumption⟩ | exact ⟨by assumption, by assumption⟩ | omega)⟩, trivial⟩, (by first | assumption | (simp only [v1, v3, v5, g6t, g6f, g8t, g8f, gtt, gtf, gft, gff, pr_i_0, pr_i_1]; first | assumption | decide | exact ⟨by assumption, by assumption⟩ | exact ⟨Or.inl (by assumption), by assumption⟩ | omega) | decide | exact ⟨Or.inl (by assumption), by assumption⟩ | exact ⟨by assumption, by assumption⟩ | omega)⟩, trivial⟩, trivial⟩, (by first | assumption | (simp only [v1, v3, v5, g6t, g6f, g8t, g8f, gtt, gtf, gft, gff, pr_i_0, pr_i_1]; first | assumption | decide | exact ⟨by assumption, by assumption⟩ | exact ⟨Or.inl (by assumption), by assumption⟩ | omega) | decide | exact ⟨Or.inl (by assumption), by assumption⟩ | exact ⟨by assumption, by assumption⟩ | omega)⟩ ?_
                          try simp only [v1, v3, v5, g6t, g6f, g8t, g8f, gtt, gtf, gft, gff, pr_i_0, pr_i_1]
                          exact pr_vrT rfl rfl (by refine ⟨rfl, rfl, ?_⟩; simp only [ex, ey, decide_true, decide_false, Bool.and_true, Bool.and_false, Bool.false_and, Bool.true_and]; first | exact ftt | exact ftf | exact fft | exact fff)
