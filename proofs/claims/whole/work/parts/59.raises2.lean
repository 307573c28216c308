
/-! ===== Raises: takeShares, addPlace, find ===== -/
theorem rC_le (w : List Nat) (i : Nat) : rC w i ≤ 4 := by unfold rC; split <;> omega
theorem rC_pos (w : List Nat) (i : Nat) : 1 ≤ rC w i := by unfold rC; omega
theorem rC_lt {w : List Nat} {i r : Nat} (hl : w.getD i 0 < 26) (hr : r < rC w i) : w.getD i 0 + r < 26 := by unfold rC at hr; split at hr <;> omega
theorem c_takeShares {g o i : Nat} {d : Ld} {q : Pn} (h : ab_H) (M : ab_M) (hp : pr_Ra h M.2.2) (hg : pr_Ld h M.2.2 g) (hd : ld_v M.1 g d) (ho : pr_On h M.2.2 o) (hq : on_v M.1 o q) (hgr : g + 27 ≤ 55 ∨ 57 < g) (hor : o + 3 ≤ 55 ∨ 57 < o) (hi : i < q.2.2.2.length) : pr_X pX5_takeShares [.ref 55, .ref g, .ref o, .int (nI i)] h M (fun r M' => r = none ∧ M'.2 = M.2 ∧ ss_v M'.1 (rC q.2.2.2 i) (rS d q.1 q.2.2.2 i) ∧ M'.1 55 3 = M.1 55 3 ∧ M'.1 55 4 = M.1 55 4 ∧ ∀ a, a ≠ 55 → a ≠ 57 → M'.1 a = M.1 a) := by
  obtain ⟨k1, r0, r1, a1, a2, b1, b2⟩ := id hp
  obtain ⟨o0, o1, o2, o3⟩ := id ho
  obtain ⟨g0, g1, -⟩ := id hg
  obtain ⟨q1, q2, q3, q4, q5, q6, q7⟩ := id hq
  have n1 := o3.2.1
  have n55 : (55 : Nat) ≠ 0 := by decide
  have hl := (q7.2.2 i hi).2
  have h20 := q7.2.1
  have hla := c_letterAt (nI i) h M o3 q7
  rw [nm_q_in hi h20] at hla
  have ec : (if (25 : Int32) - nI (q.2.2.2.getD i 0) < 3 then (25 : Int32) - nI (q.2.2.2.getD i 0) else 3) + 1 = nI (rC q.2.2.2 i) := by
    rw [show (25 : Int32) = nI 25 from rfl, i_sub (by omega), show (3 : Int32) = nI 3 from rfl]
    unfold rC
    by_cases c : 25 - q.2.2.2.getD i 0 < 3
    · rw [if_pos ((nI_ltI (by omega) (by omega)).mpr c), if_pos c, nI_1]
    · rw [if_neg (fun z => c ((nI_ltI (by omega) (by omega)).mp z)), if_neg c, nI_1]
  have loop : ∀ dd r, r + dd = rC q.2.2.2 i → ∀ I : Nat → Nat → Int32, I 55 2 = nI (rC q.2.2.2 i) → (∀ r', r' < r → I 57 r' = nI (rS d q.1 q.2.2.2 i r')) → I 55 3 = M.1 55 3 → I 55 4 = M.1 55 4 → (∀ a, a ≠ 55 → a ≠ 57 → I a = M.1 a) → pr_T pX5_takeShares 28 [some (.ref 55), some (.ref g), some (.ref o), some (.int (nI i)), some (.int (nI (q.2.2.2.getD i 0))), some (.int (nI r))] [] h (I, M.2.1, M.2.2) (fun r M' => r = none ∧ M'.2 = M.2 ∧ ss_v M'.1 (rC q.2.2.2 i) (rS d q.1 q.2.2.2 i) ∧ M'.1 55 3 = M.1 55 3 ∧ M'.1 55 4 = M.1 55 4 ∧ ∀ a, a ≠ 55 → a ≠ 57 → M'.1 a = M.1 a) := by
    intro dd
    induction dd with
    | zero =>
      intro r hr I i2 hss i3 i4 hf
      obtain rfl : r = rC q.2.2.2 i := by omega
      have hc4 := rC_le q.2.2.2 i
      have e1 : nI (rC q.2.2.2 i) ≤ nI (rC q.2.2.2 i) := nI_le (Nat.le_refl _) (by omega)
      refine pr_seqT (pc' := 34) 3 rfl ⟨⟨⟨trivial, trivial⟩, (by first | assumption | (simp only [i2, pr_8_25, pr_i_0, pr_i_1, pr_i_3]; first | assumption | decide | exact ⟨by assumption, by assumption⟩ | exact ⟨Or.inl (by assumption), by assumption⟩ | omega) | decide | exact ⟨Or.inl (by assumption), by assumption⟩ | exact ⟨by assumption, by assumption⟩ | omega)⟩, (by first | assumption | (simp only [i2, pr_8_25, pr_i_0, pr_i_1, pr_i_3]; first | assumption | decide | exact ⟨by assumption, by assumption⟩ | exact ⟨Or.inl (by assumption), by assumption⟩ | omega) | decide | exact ⟨Or.inl (by assumption), by assumption⟩ | exact ⟨by assumption, by assumption⟩ | omega)⟩ ?_
      try simp only [i2, pr_8_25, pr_i_0, pr_i_1, pr_i_3]
      refine pr_icT rfl (fun h34 => ?_) (fun h34 => ?_)
      · simp only [ab_cmp, pr_8_25, pr_i_0, pr_i_1, pr_i_3] at h34
        first
        | contradiction
        | exact absurd trivial h34
        | exact absurd h34 (by decide)
        | exact absurd (Classical.not_not.mp h34) (by decide)
        | skip
          exact pr_vrT rfl rfl (by exact ⟨rfl, rfl, ⟨i2, rC_le _ _, hss⟩, i3, i4, hf⟩)
      · simp only [ab_cmp, pr_8_25, pr_i_0, pr_i_1, pr_i_3] at h34
        first
        | contradiction
        | exact absurd trivial h34
        | exact absurd h34 (by decide)
        | exact absurd (Classical.not_not.mp h34) (by decide)
        | skip
          fail
    | succ dd ih =>
      intro r hr I i2 hss i3 i4 hf
      have hc4 := rC_le q.2.2.2 i
      have e1 : ¬ nI (rC q.2.2.2 i) ≤ nI r := nI_ge (by omega) (by omega)
      have e3 : (nI r).toNatClampNeg = r := nI_clamp (by omega)
      have w1 : vp_in (nI r) (ab_n h 57) := by rw [b2]; exact vp_in_nI (by omega) (by decide)
      have hlr := rC_lt hl (show r < rC q.2.2.2 i by omega)
      have x1 : I o 1 = nI q.1 := by rw [hf o (by omega) (by omega)]; exact q1
      have hsh := c_shareOf (l := q.2.2.2.getD i 0 + r) (i := i) (kind := q.1) h (I, M.2.1, M.2.2) hg (ld_v_congr (fun a _ _ => hf a (by omega) (by omega)) hd) hlr (by omega) (by omega)
      rw [← nI_add] at hsh
      have hsh : pr_C pX1_shareOf [.ref g, .int (nI (q.2.2.2.getD i 0) + nI r), .int (nI i), .int (nI q.1)] h (I, M.2.1, M.2.2) (some (.int (nI (rS d q.1 q.2.2.2 i r)))) h (I, M.2.1, M.2.2) := hsh
      have hh := ih (r + 1) (by omega) (ab_u I 57 r (nI (rS d q.1 q.2.2.2 i r))) (by rw [ab_u_ne (by decide)]; exact i2) (fun r' hr' => by
        by_cases e : r' = r
        · subst e; rw [ab_u_at]
        · rw [ab_u_j e]; exact hss r' (by omega)) (by rw [ab_u_ne (by decide)]; exact i3) (by rw [ab_u_ne (by decide)]; exact i4) (fun a x y => by rw [ab_u_ne y]; exact hf a x y)
      rw [← nI_1] at hh
      refine pr_seqT (pc' := 34) 3 rfl ⟨⟨⟨trivial, trivial⟩, (by first | assumption | (simp only [i2, r1, e3, x1, pr_8_25, pr_i_0, pr_i_1, pr_i_3]; first | assumption | decide | exact ⟨by assumption, by assumption⟩ | exact ⟨Or.inl (by assumption), by assumption⟩ | omega) | decide | exact ⟨Or.inl (by assumption), by assumption⟩ | exact ⟨by assumption, by assumption⟩ | omega)⟩, (by first | assumption | (simp only [i2, r1, e3, x1, pr_8_25, pr_i_0, pr_i_1, pr_i_3]; first | assumption | decide | exact ⟨by assumption, by assumption⟩ | exact ⟨Or.inl (by assumption), by assumption⟩ | omega) | decide | exact ⟨Or.inl (by assumption), by assumption⟩ | exact ⟨by assumption, by assumption⟩ | omega)⟩ ?_
      try simp only [i2, r1, e3, x1, pr_8_25, pr_i_0, pr_i_1, pr_i_3]
      refine pr_icT rfl (fun h34 => ?_) (fun h34 => ?_)
      · simp only [ab_cmp, pr_8_25, pr_i_0, pr_i_1, pr_i_3] at h34
        first
        | contradiction
        | exact absurd trivial h34
        | exact absurd h34 (by decide)
        | exact absurd (Classical.not_not.mp h34) (by decide)
        | skip
          fail
      · simp only [ab_cmp, pr_8_25, pr_i_0, pr_i_1, pr_i_3] at h34
        first
        | contradiction
        | exact absurd trivial h34
        | exact absurd h34 (by decide)
        | exact absurd (Classical.not_not.mp h34) (by decide)
        | skip
          refine pr_seqT (pc' := 54) 10 rfl ⟨⟨⟨⟨⟨⟨⟨⟨⟨⟨trivial, (by first | assumption | (simp only [i2, r1, e3, x1, pr_8_25, pr_i_0, pr_i_1, pr_i_3]; first | assumption | decide | exact ⟨by assumption, by assumption⟩ | exact ⟨Or.inl (by assumption), by assumption⟩ | omega) | decide | exact ⟨Or.inl (by assumption), by assumption⟩ | exact ⟨by assumption, by assumption⟩ | omega)⟩, (by first | assumption | (simp only [i2, r1, e3, x1, pr_8_25, pr_i_0, pr_i_1, pr_i_3]; first | assumption | decide | exact ⟨by assumption, by assumption⟩ | exact ⟨Or.inl (by assumption), by assumption⟩ | omega) | decide | exact ⟨Or.inl (by assumption), by assumption⟩ | exact ⟨by assumption, by assumption⟩ | omega)⟩, trivial⟩, (by first | assumption | (simp only [i2, r1, e3, x1, pr_8_25, pr_i_0, pr_i_1, pr_i_3]; first | assumption | decide | exact ⟨by assumption, by assumption⟩ | exact ⟨Or.inl (by assumption), by assumption⟩ | omega) | decide | exact ⟨Or.inl (by assumption), by assumption⟩ | exact ⟨by assumption, by assumption⟩ | omega)⟩, trivial⟩, trivial⟩, trivial⟩, trivial⟩, (by first | assumption | (simp only [i2, r1, e3, x1, pr_8_25, pr_i_0, pr_i_1, pr_i_3]; first | assumption | decide | exact ⟨by assumption, by assumption⟩ | exact ⟨Or.inl (by assumption), by assumption⟩ | omega) | decide | exact ⟨Or.inl (by assumption), by assumption⟩ | exact ⟨by assumption, by assumption⟩ | omega)⟩, (by first | assumption | (simp only [i2, r1, e3, x1, pr_8_25, pr_i_0, pr_i_1, pr_i_3]; first | assumption | decide | exact ⟨by assumption, by assumption⟩ | exact ⟨Or.inl (by assumption), by assumption⟩ | omega) | decide | exact ⟨Or.inl (by assumption), by assumption⟩ | exact ⟨by assumption, by assumption⟩ | omega)⟩ ?_
          try simp only [i2, r1, e3, x1, pr_8_25, pr_i_0, pr_i_1, pr_i_3]
          refine pr_cvT [_, _, _] rfl rfl rfl rfl rfl (Nat.le_of_ble_eq_true rfl) (by first | assumption | (simp only [i2, r1, e3, x1, pr_8_25, pr_i_0, pr_i_1, pr_i_3]; first | assumption | decide | exact ⟨by assumption, by assumption⟩ | exact ⟨Or.inl (by assumption), by assumption⟩ | omega) | decide | exact ⟨Or.inl (by assumption), by assumption⟩ | exact ⟨by assumption, by assumption⟩ | omega) (Nat.le_of_ble_eq_true rfl) (hsh) ?_
          refine pr_seqT (pc' := 28) 3 rfl ⟨⟨⟨trivial, (by first | assumption | (simp only [i2, r1, e3, x1, pr_8_25, pr_i_0, pr_i_1, pr_i_3]; first | assumption | decide | exact ⟨by assumption, by assumption⟩ | exact ⟨Or.inl (by assumption), by assumption⟩ | omega) | decide | exact ⟨Or.inl (by assumption), by assumption⟩ | exact ⟨by assumption, by assumption⟩ | omega)⟩, trivial⟩, trivial⟩ ?_
          try simp only [i2, r1, e3, x1, pr_8_25, pr_i_0, pr_i_1, pr_i_3]
          exact hh
  have h0 := loop (rC q.2.2.2 i) 0 (by omega) (ab_u M.1 55 2 (nI (rC q.2.2.2 i))) ab_u_at (fun r' hr' => absurd hr' (by omega)) (ab_u_j (by decide)) (ab_u_j (by decide)) (fun a x y => ab_u_ne x)
  refine pr_seqT (pc' := 5) 3 rfl ⟨⟨⟨trivial, (by first | assumption | (simp only [o2, ec, pr_8_25, pr_i_0, pr_i_1, pr_i_3]; first | assumption | decide | exact ⟨by assumption, by assumption⟩ | exact ⟨Or.inl (by assumption), by assumption⟩ | omega) | decide | exact ⟨Or.inl (by assumption), by assumption⟩ | exact ⟨by assumption, by assumption⟩ | omega)⟩, (by first | assumption | (simp only [o2, ec, pr_8_25, pr_i_0, pr_i_1, pr_i_3]; first | assumption | decide | exact ⟨by assumption, by assumption⟩ | exact ⟨Or.inl (by assumption), by assumption⟩ | omega) | decide | exact ⟨Or.inl (by assumption), by assumption⟩ | exact ⟨by assumption, by assumption⟩ | omega)⟩, trivial⟩ ?_
  try simp only [o2, ec, pr_8_25, pr_i_0, pr_i_1, pr_i_3]
  refine pr_cvT [_] rfl rfl rfl rfl rfl (Nat.le_of_ble_eq_true rfl) (by first | assumption | (simp only [o2, ec, pr_8_25, pr_i_0, pr_i_1, pr_i_3]; first | assumption | decide | exact ⟨by assumption, by assumption⟩ | exact ⟨Or.inl (by assumption), by assumption⟩ | omega) | decide | exact ⟨Or.inl (by assumption), by assumption⟩ | exact ⟨by assumption, by assumption⟩ | omega) (Nat.le_of_ble_eq_true rfl) (hla) ?_
  refine pr_seqT (pc' := 28) 12 rfl ⟨⟨⟨⟨⟨⟨⟨⟨⟨⟨⟨⟨trivial, trivial⟩, (by first | assumption | (simp only [o2, ec, pr_8_25, pr_i_0, pr_i_1, pr_i_3]; first | assumption | decide | exact ⟨by assumption, by assumption⟩ | exact ⟨Or.inl (by assumption), by assumption⟩ | omega) | decide | exact ⟨Or.inl (by assumption), by assumption⟩ | exact ⟨by assumption, by assumption⟩ | omega)⟩, trivial⟩, trivial⟩, trivial⟩, trivial⟩, (by exact (Nat.le_of_ble_eq_true rfl))⟩, trivial⟩, trivial⟩, (by first | assumption | (simp only [o2, ec, pr_8_25, pr_i_0, pr_i_1, pr_i_3]; first | assumption | decide | exact ⟨by assumption, by assumption⟩ | exact ⟨Or.inl (by assumption), by assumption⟩ | omega) | decide | exact ⟨Or.inl (by assumption), by assumption⟩ | exact ⟨by assumption, by assumption⟩ | omega)⟩, trivial⟩, trivial⟩ ?_
  try simp only [o2, ec, pr_8_25, pr_i_0, pr_i_1, pr_i_3]
  exact h0
def fmn (g : Nat → Nat) : Nat → Nat
  | 0 => g 0
  | k + 1 => if g (k + 1) < fmn g k then g (k + 1) else fmn g k
def fmx (g : Nat → Nat) : Nat → Nat
  | 0 => g 0
  | k + 1 => if fmx g k < g (k + 1) then g (k + 1) else fmx g k
theorem fmn_le (g : Nat → Nat) : ∀ k r, r ≤ k → fmn g k ≤ g r ∧ g r ≤ fmx g k
  | 0, r, h => by
    obtain rfl : r = 0 := by omega
    exact ⟨Nat.le_refl _, Nat.le_refl _⟩
  | k + 1, r, h => by
    unfold fmn fmx
    by_cases e : r = k + 1
    · subst e
      split <;> split <;> omega
    · have := fmn_le g k r (by omega)
      split <;> split <;> omega
theorem fmx_le {g : Nat → Nat} {G : Nat} : ∀ k, (∀ r, r ≤ k → g r ≤ G) → fmx g k ≤ G
  | 0, h => h 0 (Nat.le_refl _)
  | k + 1, h => by
    unfold fmx
    have h1 := fmx_le k (fun r hr => h r (by omega))
    have h2 := h (k + 1) (Nat.le_refl _)
    split <;> omega
theorem fmn_fmx (g : Nat → Nat) (k : Nat) : fmn g k ≤ fmx g k := Nat.le_trans (fmn_le g k 0 (Nat.zero_le _)).1 (fmn_le g k 0 (Nat.zero_le _)).2
theorem dGo_in {low high c u s x : Nat} {E : Nat → Option Nat} {g : Nat → Nat} (v6 : ∀ s, (s < low ∨ high < s) → E s = none) : ∀ k, k ≤ c → dGo E g u s k = some x → low + fmn g (c - 1) ≤ s ∧ s ≤ high + fmx g (c - 1) := by
  intro k
  induction k with
  | zero => intro _ h; cases h
  | succ r ih =>
    intro hk h
    unfold dGo at h
    rcases oMin_some h with h1 | h1
    · exact ih (by omega) h1
    · by_cases q : g r ≤ s
      · rw [if_pos q] at h1
        cases hE : E (s - g r) with
        | none => rw [hE] at h1; cases h1
        | some y =>
          have := fmn_le g (c - 1) r (by omega)
          by_cases q2 : s - g r < low ∨ high < s - g r
          · rw [v6 _ q2] at hE; cases hE
          · omega
      · rw [if_neg q] at h1
        cases h1
set_option maxHeartbeats 4000000 in
theorem c_addPlace {low high c i G : Nat} {E : Nat → Option Nat} {g : Nat → Nat} (h : ab_H) (M : ab_M) (hp : pr_Ra h M.2.2) (hv : ra_v M.1 M.2.1 low high high E) (hs : ss_v M.1 c g) (hc1 : 1 ≤ c) (hG : ∀ r, r < c → g r ≤ G) (hhG : high + G ≤ 8400) (hi : i < 20) (hb : ∀ s x, E s = some x → x ≤ 2 ^ 46 + 2 ^ 45) : pr_X pX5_addPlace [.ref 55, .int (nI i)] h M (fun r M' => r = none ∧ M'.2.2 = M.2.2 ∧ (∃ low' high', high' ≤ high + G ∧ ra_v M'.1 M'.2.1 low' high' high' (fun s => dGo E g (un i) s c)) ∧ (∀ a, a ≠ 55 → M'.1 a = M.1 a) ∧ ∀ a, a ≠ 56 → M'.2.1 a = M.2.1 a) := by
  obtain ⟨k1, r0, r1, a1, a2, b1, b2⟩ := id hp
  obtain ⟨v1, v2, v3, v4, v5, v6, v7⟩ := id hv
  obtain ⟨z1, z2, z3⟩ := id hs
  have n55 : (55 : Nat) ≠ 0 := by decide
  have hgG : ∀ r, r < c → g r ≤ 8400 := fun r hr => by have := hG r hr; omega
  have hu : un i ≤ 2 ^ 41 := by
    unfold un
    have : 4 ^ (19 - i) ≤ 4 ^ 19 := Nat.pow_le_pow_right (by decide) (by omega)
    have : (4 : Nat) ^ 19 = 2 ^ 38 := by decide
    omega
  have hmx : fmx g (c - 1) ≤ G := fmx_le _ (fun r hr => hG r (by omega))
  have hmm := fmn_fmx g (c - 1)
  have E'b : ∀ s x, dGo E g (un i) s c = some x → x < 2 ^ 47 := fun s x hx => by
    have h1 := dGo_lt hb c x hx
    have h2 : (c - 1) * un i ≤ 3 * 2 ^ 41 := Nat.mul_le_mul (by omega) hu
    omega
  -- the second loop
  have loop2 : ∀ k, low + fmn g (c - 1) + k ≤ high + fmx g (c - 1) + 1 → ∀ J : Nat → Nat → Int64, (∀ a, a ≠ 56 → J a = M.2.1 a) → (∀ t, t < low + fmn g (c - 1) + k → J 56 t = M.2.1 56 t) → (∀ t, low + fmn g (c - 1) + k ≤ t → t ≤ high + fmx g (c - 1) → J 56 t = eL (dGo E g (un i) t c)) → pr_T pX5_addPlace 74 [some (.ref 55), some (.int (nI i)), some (.int (nI (fmn g (c - 1)))), some (.int (nI (fmx g (c - 1)))), some (.int (nI (high + fmx g (c - 1)))), some (.int (nI (low + fmn g (c - 1) + k) - 1))] [] h (M.1, J, M.2.2) (fun r M' => r = none ∧ M'.2.2 = M.2.2 ∧ (∃ low' high', high' ≤ high + G ∧ ra_v M'.1 M'.2.1 low' high' high' (fun s => dGo E g (un i) s c)) ∧ (∀ a, a ≠ 55 → M'.1 a = M.1 a) ∧ ∀ a, a ≠ 56 → M'.2.1 a = M.2.1 a) := by
    intro k
    induction k with
    | zero =>
      intro hk J j1 j2 j3
      have elo : nI low + nI (fmn g (c - 1)) = nI (low + fmn g (c - 1)) := nI_add _ _
      have e1 : nI (low + fmn g (c - 1) + 0) - 1 < nI (low + fmn g (c - 1)) := by
        rw [Nat.add_zero]
        rcases Nat.eq_zero_or_pos (low + fmn g (c - 1)) with z | z
        · rw [z]; decide
        · rw [show low + fmn g (c - 1) = (low + fmn g (c - 1) - 1) + 1 by omega, show nI (low + fmn g (c - 1) - 1 + 1) - 1 = nI (low + fmn g (c - 1) - 1) from nI_pred _]
          exact (nI_ltI (by omega) (by omega)).mpr (by omega)
      have fin : ra_v (ab_u (ab_u M.1 55 3 (nI (low + fmn g (c - 1)))) 55 4 (nI (high + fmx g (c - 1)))) J (low + fmn g (c - 1)) (high + fmx g (c - 1)) (high + fmx g (c - 1)) (fun s => dGo E g (un i) s c) := by
        refine ⟨by rw [ab_u_j (by decide), ab_u_at], ab_u_at, by omega, by omega, fun s x1 x2 _ => j3 s (by omega) x2, fun s hs => ?_, E'b⟩
        cases hx : dGo E g (un i) s c with
        | none => exact hx
        | some x =>
          have := dGo_in v6 c (Nat.le_refl _) hx
          omega
      refine pr_seqT (pc' := 82) 5 rfl ⟨⟨⟨⟨⟨trivial, trivial⟩, (by first | assumption | (simp only [v1, elo, pr_16_8400, pr_i_0, pr_i_1, pr_i_m1]; first | assumption | decide | exact ⟨by assumption, by assumption⟩ | exact ⟨Or.inl (by assumption), by assumption⟩ | omega) | decide | exact ⟨Or.inl (by assumption), by assumption⟩ | exact ⟨by assumption, by assumption⟩ | omega)⟩, (by first | assumption | (simp only [v1, elo, pr_16_8400, pr_i_0, pr_i_1, pr_i_m1]; first | assumption | decide | exact ⟨by assumption, by assumption⟩ | exact ⟨Or.inl (by assumption), by assumption⟩ | omega) | decide | exact ⟨Or.inl (by assumption), by assumption⟩ | exact ⟨by assumption, by assumption⟩ | omega)⟩, trivial⟩, trivial⟩ ?_
      try simp only [v1, elo, pr_16_8400, pr_i_0, pr_i_1, pr_i_m1]
      refine pr_icT rfl (fun h82 => ?_) (fun h82 => ?_)
      · simp only [ab_cmp, pr_16_8400, pr_i_0, pr_i_1, pr_i_m1] at h82
        first
        | contradiction
        | exact absurd trivial h82
        | exact absurd h82 (by decide)
        | exact absurd (Classical.not_not.mp h82) (by decide)
        | skip
          refine pr_seqT (pc' := 129) 9 rfl ⟨⟨⟨⟨⟨⟨⟨⟨⟨trivial, (by first | assumption | (simp only [v1, elo, pr_16_8400, pr_i_0, pr_i_1, pr_i_m1]; first | assumption | decide | exact ⟨by assumption, by assumption⟩ | exact ⟨Or.inl (by assumption), by assumption⟩ | omega) | decide | exact ⟨Or.inl (by assumption), by assumption⟩ | exact ⟨by assumption, by assumption⟩ | omega)⟩, trivial⟩, (by first | assumption | (simp only [v1, elo, pr_16_8400, pr_i_0, pr_i_1, pr_i_m1]; first | assumption | decide | exact ⟨by assumption, by assumption⟩ | exact ⟨Or.inl (by assumption), by assumption⟩ | omega) | decide | exact ⟨Or.inl (by assumption), by assumption⟩ | exact ⟨by assumption, by assumption⟩ | omega)⟩, trivial⟩, trivial⟩, (by first | assumption | (simp only [v1, elo, pr_16_8400, pr_i_0, pr_i_1, pr_i_m1]; first | assumption | decide | exact ⟨by assumption, by assumption⟩ | exact ⟨Or.inl (by assumption), by assumption⟩ | omega) | decide | exact ⟨Or.inl (by assumption), by assumption⟩ | exact ⟨by assumption, by assumption⟩ | omega)⟩, (by first | assumption | (simp only [v1, elo, pr_16_8400, pr_i_0, pr_i_1, pr_i_m1]; first | assumption | decide | exact ⟨by assumption, by assumption⟩ | exact ⟨Or.inl (by assumption), by assumption⟩ | omega) | decide | exact ⟨Or.inl (by assumption), by assumption⟩ | exact ⟨by assumption, by assumption⟩ | omega)⟩, trivial⟩, (by first | assumption | (simp only [v1, elo, pr_16_8400, pr_i_0, pr_i_1, pr_i_m1]; first | assumption | decide | exact ⟨by assumption, by assumption⟩ | exact ⟨Or.inl (by assumption), by assumption⟩ | omega) | decide | exact ⟨Or.inl (by assumption), by assumption⟩ | exact ⟨by assumption, by assumption⟩ | omega)⟩ ?_
          try simp only [v1, elo, pr_16_8400, pr_i_0, pr_i_1, pr_i_m1]
          exact pr_vrT rfl rfl (by exact ⟨rfl, rfl, ⟨_, _, by omega, fin⟩, fun a ha => by show ab_u (ab_u M.1 55 3 _) 55 4 _ a = M.1 a; rw [ab_u_ne ha, ab_u_ne ha], j1⟩)
      · simp only [ab_cmp, pr_16_8400, pr_i_0, pr_i_1, pr_i_m1] at h82
        first
        | contradiction
        | exact absurd trivial h82
        | exact absurd h82 (by decide)
        | exact absurd (Classical.not_not.mp h82) (by decide)
        | skip
          fail
    | succ k ih =>
      intro hk J j1 j2 j3
      have elo : nI low + nI (fmn g (c - 1)) = nI (low + fmn g (c - 1)) := nI_add _ _
      rw [show low + fmn g (c - 1) + (k + 1) = low + fmn g (c - 1) + k + 1 by omega, show nI (low + fmn g (c - 1) + k + 1) - 1 = nI (low + fmn g (c - 1) + k) from nI_pred _]
      have e1 : ¬ nI (low + fmn g (c - 1) + k) < nI (low + fmn g (c - 1)) := fun q => by
        have := (nI_ltI (by omega) (by omega)).mp q
        omega
      have e2 : ¬ nI (low + fmn g (c - 1) + k) < 0 := nI_pos (by omega)
      have e3 : (nI (low + fmn g (c - 1) + k)).toNatClampNeg = low + fmn g (c - 1) + k := nI_clamp (by omega)
      have w1 : vp_in (nI (low + fmn g (c - 1) + k)) (ab_n h 56) := by rw [a2]; exact vp_in_nI (by omega) (by decide)
      have hv' : ra_v M.1 J low high (low + fmn g (c - 1) + k) E := ⟨v1, v2, v3, v4, fun s x1 x2 x3 => by rw [j2 s (by omega)]; exact v5 s x1 x2 x2, v6, v7⟩
      have hle := c_leastEntry (s := low + fmn g (c - 1) + k) h (M.1, J, M.2.2) hp hv' (Nat.le_refl _) hs hgG (by omega) hu (fun s x hx => by have := hb s x hx; omega)
      have hh := ih (by omega) (ab_u J 56 (low + fmn g (c - 1) + k) (eL (dGo E g (un i) (low + fmn g (c - 1) + k) c))) (fun a ha => by rw [ab_u_ne ha]; exact j1 a ha) (fun t ht => by rw [ab_u_j (by omega)]; exact j2 t (by omega)) (fun t x1 x2 => by
        by_cases e : t = low + fmn g (c - 1) + k
        · subst e; rw [ab_u_at]
        · rw [ab_u_j e]; exact j3 t (by omega) x2)
      rw [Int32.sub_eq_add_neg] at hh
      refine pr_seqT (pc' := 82) 5 rfl ⟨⟨⟨⟨⟨trivial, trivial⟩, (by first | assumption | (simp only [v1, elo, r0, e3, pr_16_8400, pr_i_0, pr_i_1, pr_i_m1]; first | assumption | decide | exact ⟨by assumption, by assumption⟩ | exact ⟨Or.inl (by assumption), by assumption⟩ | omega) | decide | exact ⟨Or.inl (by assumption), by assumption⟩ | exact ⟨by assumption, by assumption⟩ | omega)⟩, (by first | assumption | (simp only [v1, elo, r0, e3, pr_16_8400, pr_i_0, pr_i_1, pr_i_m1]; first | assumption | decide | exact ⟨by assumption, by assumption⟩ | exact ⟨Or.inl (by assumption), by assumption⟩ | omega) | decide | exact ⟨Or.inl (by assumption), by assumption⟩ | exact ⟨by assumption, by assumption⟩ | omega)⟩, trivial⟩, trivial⟩ ?_
      try simp only [v1, elo, r0, e3, pr_16_8400, pr_i_0, pr_i_1, pr_i_m1]
      refine pr_icT rfl (fun h82 => ?_) (fun h82 => ?_)
      · simp only [ab_cmp, pr_16_8400, pr_i_0, pr_i_1, pr_i_m1] at h82
        first
        | contradiction
        | exact absurd trivial h82
        | exact absurd h82 (by decide)
        | exact absurd (Classical.not_not.mp h82) (by decide)
        | skip
          fail
      · simp only [ab_cmp, pr_16_8400, pr_i_0, pr_i_1, pr_i_m1] at h82
        first
        | contradiction
        | exact absurd trivial h82
        | exact absurd h82 (by decide)
        | exact absurd (Classical.not_not.mp h82) (by decide)
        | skip
          refine pr_seqT (pc' := 87) 1 rfl ⟨trivial, trivial⟩ ?_
          try simp only [v1, elo, r0, e3, pr_16_8400, pr_i_0, pr_i_1, pr_i_m1]
          refine pr_ifT rfl (fun h87 => ?_) (fun h87 => ?_)
          · simp only [ab_cmp, pr_16_8400, pr_i_0, pr_i_1, pr_i_m1] at h87
            first
            | contradiction
            | exact absurd trivial h87
            | exact absurd h87 (by decide)
            | exact absurd (Classical.not_not.mp h87) (by decide)
            | skip
              fail
          · simp only [ab_cmp, pr_16_8400, pr_i_0, pr_i_1, pr_i_m1] at h87
            first
            | contradiction
            | exact absurd trivial h87
            | exact absurd h87 (by decide)
            | exact absurd (Classical.not_not.mp h87) (by decide)
            | skip
              refine pr_seqT (pc' := 100) 6 rfl ⟨⟨⟨⟨⟨⟨trivial, (by first | assumption | (simp only [v1, elo, r0, e3, pr_16_8400, pr_i_0, pr_i_1, pr_i_m1]; first | assumption | decide | exact ⟨by assumption, by assumption⟩ | exact ⟨Or.inl (by assumption), by assumption⟩ | omega) | decide | exact ⟨Or.inl (by assumption), by assumption⟩ | exact ⟨by assumption, by assumption⟩ | omega)⟩, (by first | assumption | (simp only [v1, elo, r0, e3, pr_16_8400, pr_i_0, pr_i_1, pr_i_m1]; first | assumption | decide | exact ⟨by assumption, by assumption⟩ | exact ⟨Or.inl (by assumption), by assumption⟩ | omega) | decide | exact ⟨Or.inl (by assumption), by assumption⟩ | exact ⟨by assumption, by assumption⟩ | omega)⟩, trivial⟩, (by first | assumption | (simp only [v1, elo, r0, e3, pr_16_8400, pr_i_0, pr_i_1, pr_i_m1]; first | assumption | decide | exact ⟨by assumption, by assumption⟩ | exact ⟨Or.inl (by assumption), by assumption⟩ | omega) | decide | exact ⟨Or.inl (by assumption), by assumption⟩ | exact ⟨by assumption, by assumption⟩ | omega)⟩, trivial⟩, trivial⟩ ?_
              try simp only [v1, elo, r0, e3, pr_16_8400, pr_i_0, pr_i_1, pr_i_m1]
              refine pr_csT [_] rfl rfl rfl rfl rfl (Nat.le_of_ble_eq_true rfl) (Nat.le_of_ble_eq_true rfl) (c_unit hi h (M.1, J, M.2.2)) ?_
              refine pr_cvT [_, _] rfl rfl rfl rfl rfl (Nat.le_of_ble_eq_true rfl) (by first | assumption | (simp only [v1, elo, r0, e3, pr_16_8400, pr_i_0, pr_i_1, pr_i_m1]; first | assumption | decide | exact ⟨by assumption, by assumption⟩ | exact ⟨Or.inl (by assumption), by assumption⟩ | omega) | decide | exact ⟨Or.inl (by assumption), by assumption⟩ | exact ⟨by assumption, by assumption⟩ | omega) (Nat.le_of_ble_eq_true rfl) (hle) ?_
              refine pr_seqT (pc' := 74) 3 rfl ⟨⟨⟨trivial, (by first | assumption | (simp only [v1, elo, r0, e3, pr_16_8400, pr_i_0, pr_i_1, pr_i_m1]; first | assumption | decide | exact ⟨by assumption, by assumption⟩ | exact ⟨Or.inl (by assumption), by assumption⟩ | omega) | decide | exact ⟨Or.inl (by assumption), by assumption⟩ | exact ⟨by assumption, by assumption⟩ | omega)⟩, trivial⟩, trivial⟩ ?_
              try simp only [v1, elo, r0, e3, pr_16_8400, pr_i_0, pr_i_1, pr_i_m1]
              exact hh
  have h2 := loop2 (high + fmx g (c - 1) + 1 - (low + fmn g (c - 1))) (by omega) M.2.1 (fun a _ => rfl) (fun t _ => rfl) (fun t x1 x2 => absurd x1 (by omega))
  rw [show low + fmn g (c - 1) + (high + fmx g (c - 1) + 1 - (low + fmn g (c - 1))) = high + fmx g (c - 1) + 1 by omega, show nI (high + fmx g (c - 1) + 1) - 1 = nI (high + fmx g (c - 1)) from nI_pred _] at h2
  have etop : (if (8400 : Int32) < nI high + nI (fmx g (c - 1)) then (8400 : Int32) else nI high + nI (fmx g (c - 1))) = nI (high + fmx g (c - 1)) := by
    rw [nI_add, if_neg (fun q => by
      have := (nI_ltI (a := 8400) (b := high + fmx g (c - 1)) (by omega) (by omega)).mp q
      omega)]
  have loop1 : ∀ dd r, r + 1 + dd = c → ∀ o5 : Option Value, pr_T pX5_addPlace 17 [some (.ref 55), some (.int (nI i)), some (.int (nI (fmn g r))), some (.int (nI (fmx g r))), some (.int (nI (r + 1))), o5] [] h M (fun r M' => r = none ∧ M'.2.2 = M.2.2 ∧ (∃ low' high', high' ≤ high + G ∧ ra_v M'.1 M'.2.1 low' high' high' (fun s => dGo E g (un i) s c)) ∧ (∀ a, a ≠ 55 → M'.1 a = M.1 a) ∧ ∀ a, a ≠ 56 → M'.2.1 a = M.2.1 a) := by
    intro dd
    induction dd with
    | zero =>
      intro r hr o5
      obtain rfl : c = r + 1 := by omega
      rw [Nat.add_sub_cancel] at h2 etop
      have e1 : nI (r + 1) ≤ nI (r + 1) := nI_le (Nat.le_refl _) (by omega)
      refine pr_seqT (pc' := 23) 3 rfl ⟨⟨⟨trivial, trivial⟩, (by first | assumption | (simp only [z1, v2, etop, pr_16_8400, pr_i_0, pr_i_1, pr_i_m1]; first | assumption | decide | exact ⟨by assumption, by assumption⟩ | exact ⟨Or.inl (by assumption), by assumption⟩ | omega) | decide | exact ⟨Or.inl (by assumption), by assumption⟩ | exact ⟨by assumption, by assumption⟩ | omega)⟩, (by first | assumption | (simp only [z1, v2, etop, pr_16_8400, pr_i_0, pr_i_1, pr_i_m1]; first | assumption | decide | exact ⟨by assumption, by assumption⟩ | exact ⟨Or.inl (by assumption), by assumption⟩ | omega) | decide | exact ⟨Or.inl (by assumption), by assumption⟩ | exact ⟨by assumption, by assumption⟩ | omega)⟩ ?_
      try simp only [z1, v2, etop, pr_16_8400, pr_i_0, pr_i_1, pr_i_m1]
      refine pr_icT rfl (fun h23 => ?_) (fun h23 => ?_)
      · simp only [ab_cmp, pr_16_8400, pr_i_0, pr_i_1, pr_i_m1] at h23
        first
        | contradiction
        | exact absurd trivial h23
        | exact absurd h23 (by decide)
        | exact absurd (Classical.not_not.mp h23) (by decide)
        | skip
          refine pr_seqT (pc' := 74) 9 rfl ⟨⟨⟨⟨⟨⟨⟨⟨⟨trivial, (by first | assumption | (simp only [z1, v2, etop, pr_16_8400, pr_i_0, pr_i_1, pr_i_m1]; first | assumption | decide | exact ⟨by assumption, by assumption⟩ | exact ⟨Or.inl (by assumption), by assumption⟩ | omega) | decide | exact ⟨Or.inl (by assumption), by assumption⟩ | exact ⟨by assumption, by assumption⟩ | omega)⟩, (by first | assumption | (simp only [z1, v2, etop, pr_16_8400, pr_i_0, pr_i_1, pr_i_m1]; first | assumption | decide | exact ⟨by assumption, by assumption⟩ | exact ⟨Or.inl (by assumption), by assumption⟩ | omega) | decide | exact ⟨Or.inl (by assumption), by assumption⟩ | exact ⟨by assumption, by assumption⟩ | omega)⟩, trivial⟩, trivial⟩, trivial⟩, (by exact (Nat.le_of_ble_eq_true rfl))⟩, trivial⟩, trivial⟩, trivial⟩ ?_
          try simp only [z1, v2, etop, pr_16_8400, pr_i_0, pr_i_1, pr_i_m1]
          exact h2
      · simp only [ab_cmp, pr_16_8400, pr_i_0, pr_i_1, pr_i_m1] at h23
        first
        | contradiction
        | exact absurd trivial h23
        | exact absurd h23 (by decide)
        | exact absurd (Classical.not_not.mp h23) (by decide)
        | skip
          fail
    | succ dd ih =>
      intro r hr o5
      have e1 : ¬ nI c ≤ nI (r + 1) := nI_ge (by omega) (by omega)
      have e3 : (nI (r + 1)).toNatClampNeg = r + 1 := nI_clamp (by omega)
      have w1 : vp_in (nI (r + 1)) (ab_n h 57) := by rw [b2]; exact vp_in_nI (by omega) (by decide)
      have x1 := z3 (r + 1) (by omega)
      have b1' := fmn_le g r 0 (by omega)
      have b2' := fmx_le (g := g) (G := 8400) r (fun t ht => hgG t (by omega))
      have b3' := hgG (r + 1) (by omega)
      have em : (if nI (g (r + 1)) < nI (fmn g r) then nI (g (r + 1)) else nI (fmn g r)) = nI (fmn g (r + 1)) := by
        have b4 := hgG 0 (by omega)
        show _ = nI (if g (r + 1) < fmn g r then g (r + 1) else fmn g r)
        by_cases q : g (r + 1) < fmn g r
        · rw [if_pos ((nI_ltI (by omega) (by omega)).mpr q), if_pos q]
        · rw [if_neg (fun z => q ((nI_ltI (by omega) (by omega)).mp z)), if_neg q]
      have ex : (if nI (fmx g r) < nI (g (r + 1)) then nI (g (r + 1)) else nI (fmx g r)) = nI (fmx g (r + 1)) := by
        show _ = nI (if fmx g r < g (r + 1) then g (r + 1) else fmx g r)
        by_cases q : fmx g r < g (r + 1)
        · rw [if_pos ((nI_ltI (by omega) (by omega)).mpr q), if_pos q]
        · rw [if_neg (fun z => q ((nI_ltI (by omega) (by omega)).mp z)), if_neg q]
      have hh := ih (r + 1) (by omega) o5
      rw [← nI_1 (r + 1)] at hh
      refine pr_seqT (pc' := 23) 3 rfl ⟨⟨⟨trivial, trivial⟩, (by first | assumption | (simp only [z1, r1, e3, x1, em, ex, pr_16_8400, pr_i_0, pr_i_1, pr_i_m1]; first | assumption | decide | exact ⟨by assumption, by assumption⟩ | exact ⟨Or.inl (by assumption), by assumption⟩ | omega) | decide | exact ⟨Or.inl (by assumption), by assumption⟩ | exact ⟨by assumption, by assumption⟩ | omega)⟩, (by first | assumption | (simp only [z1, r1, e3, x1, em, ex, pr_16_8400, pr_i_0, pr_i_1, pr_i_m1]; first | assumption | decide | exact ⟨by assumption, by assumption⟩ | exact ⟨Or.inl (by assumption), by assumption⟩ | omega) | decide | exact ⟨Or.inl (by assumption), by assumption⟩ | exact ⟨by assumption, by assumption⟩ | omega)⟩ ?_
      try simp only [z1, r1, e3, x1, em, ex, pr_16_8400, pr_i_0, pr_i_1, pr_i_m1]
      refine pr_icT rfl (fun h23 => ?_) (fun h23 => ?_)
      · simp only [ab_cmp, pr_16_8400, pr_i_0, pr_i_1, pr_i_m1] at h23
        first
        | contradiction
        | exact absurd trivial h23
        | exact absurd h23 (by decide)
        | exact absurd (Classical.not_not.mp h23) (by decide)
        | skip
          fail
      · simp only [ab_cmp, pr_16_8400, pr_i_0, pr_i_1, pr_i_m1] at h23
        first
        | contradiction
        | exact absurd trivial h23
        | exact absurd h23 (by decide)
        | exact absurd (Classical.not_not.mp h23) (by decide)
        | skip
          refine pr_seqT (pc' := 17) 16 rfl ⟨⟨⟨⟨⟨⟨⟨⟨⟨⟨⟨⟨⟨⟨⟨⟨trivial, trivial⟩, (by first | assumption | (simp only [z1, r1, e3, x1, em, ex, pr_16_8400, pr_i_0, pr_i_1, pr_i_m1]; first | assumption | decide | exact ⟨by assumption, by assumption⟩ | exact ⟨Or.inl (by assumption), by assumption⟩ | omega) | decide | exact ⟨Or.inl (by assumption), by assumption⟩ | exact ⟨by assumption, by assumption⟩ | omega)⟩, (by first | assumption | (simp only [z1, r1, e3, x1, em, ex, pr_16_8400, pr_i_0, pr_i_1, pr_i_m1]; first | assumption | decide | exact ⟨by assumption, by assumption⟩ | exact ⟨Or.inl (by assumption), by assumption⟩ | omega) | decide | exact ⟨Or.inl (by assumption), by assumption⟩ | exact ⟨by assumption, by assumption⟩ | omega)⟩, trivial⟩, (by first | assumption | (simp only [z1, r1, e3, x1, em, ex, pr_16_8400, pr_i_0, pr_i_1, pr_i_m1]; first | assumption | decide | exact ⟨by assumption, by assumption⟩ | exact ⟨Or.inl (by assumption), by assumption⟩ | omega) | decide | exact ⟨Or.inl (by assumption), by assumption⟩ | exact ⟨by assumption, by assumption⟩ | omega)⟩, (by exact (Nat.le_of_ble_eq_true rfl))⟩, trivial⟩, trivial⟩, (by first | assumption | (simp only [z1, r1, e3, x1, em, ex, pr_16_8400, pr_i_0, pr_i_1, pr_i_m1]; first | assumption | decide | exact ⟨by assumption, by assumption⟩ | exact ⟨Or.inl (by assumption), by assumption⟩ | omega) | decide | exact ⟨Or.inl (by assumption), by assumption⟩ | exact ⟨by assumption, by assumption⟩ | omega)⟩, (by first | assumption | (simp only [z1, r1, e3, x1, em, ex, pr_16_8400, pr_i_0, pr_i_1, pr_i_m1]; first | assumption | decide | exact ⟨by assumption, by assumption⟩ | exact ⟨Or.inl (by assumption), by assumption⟩ | omega) | decide | exact ⟨Or.inl (by assumption), by assumption⟩ | exact ⟨by assumption, by assumption⟩ | omega)⟩, trivial⟩, (by first | assumption | (simp only [z1, r1, e3, x1, em, ex, pr_16_8400, pr_i_0, pr_i_1, pr_i_m1]; first | assumption | decide | exact ⟨by assumption, by assumption⟩ | exact ⟨Or.inl (by assumption), by assumption⟩ | omega) | decide | exact ⟨Or.inl (by assumption), by assumption⟩ | exact ⟨by assumption, by assumption⟩ | omega)⟩, (by exact (Nat.le_of_ble_eq_true rfl))⟩, trivial⟩, trivial⟩, trivial⟩ ?_
          try simp only [z1, r1, e3, x1, em, ex, pr_16_8400, pr_i_0, pr_i_1, pr_i_m1]
          exact hh
  have h1 := loop1 (c - 1) 0 (by omega) none
  have e0 : (Int32.toNatClampNeg 0) = 0 := rfl
  have w0 : vp_in 0 (ab_n h 57) := by rw [b2]; exact vp_in_nI (n := 0) (by omega) (by decide)
  have x0 := z3 0 (by omega)
  refine pr_seqT (pc' := 17) 12 rfl ⟨⟨⟨⟨⟨⟨⟨⟨⟨⟨⟨⟨trivial, (by first | assumption | (simp only [r1, e0, x0, pr_16_8400, pr_i_0, pr_i_1, pr_i_m1]; first | assumption | decide | exact ⟨by assumption, by assumption⟩ | exact ⟨Or.inl (by assumption), by assumption⟩ | omega) | decide | exact ⟨Or.inl (by assumption), by assumption⟩ | exact ⟨by assumption, by assumption⟩ | omega)⟩, (by first | assumption | (simp only [r1, e0, x0, pr_16_8400, pr_i_0, pr_i_1, pr_i_m1]; first | assumption | decide | exact ⟨by assumption, by assumption⟩ | exact ⟨Or.inl (by assumption), by assumption⟩ | omega) | decide | exact ⟨Or.inl (by assumption), by assumption⟩ | exact ⟨by assumption, by assumption⟩ | omega)⟩, trivial⟩, (by first | assumption | (simp only [r1, e0, x0, pr_16_8400, pr_i_0, pr_i_1, pr_i_m1]; first | assumption | decide | exact ⟨by assumption, by assumption⟩ | exact ⟨Or.inl (by assumption), by assumption⟩ | omega) | decide | exact ⟨Or.inl (by assumption), by assumption⟩ | exact ⟨by assumption, by assumption⟩ | omega)⟩, trivial⟩, (by first | assumption | (simp only [r1, e0, x0, pr_16_8400, pr_i_0, pr_i_1, pr_i_m1]; first | assumption | decide | exact ⟨by assumption, by assumption⟩ | exact ⟨Or.inl (by assumption), by assumption⟩ | omega) | decide | exact ⟨Or.inl (by assumption), by assumption⟩ | exact ⟨by assumption, by assumption⟩ | omega)⟩, (by first | assumption | (simp only [r1, e0, x0, pr_16_8400, pr_i_0, pr_i_1, pr_i_m1]; first | assumption | decide | exact ⟨by assumption, by assumption⟩ | exact ⟨Or.inl (by assumption), by assumption⟩ | omega) | decide | exact ⟨Or.inl (by assumption), by assumption⟩ | exact ⟨by assumption, by assumption⟩ | omega)⟩, trivial⟩, (by first | assumption | (simp only [r1, e0, x0, pr_16_8400, pr_i_0, pr_i_1, pr_i_m1]; first | assumption | decide | exact ⟨by assumption, by assumption⟩ | exact ⟨Or.inl (by assumption), by assumption⟩ | omega) | decide | exact ⟨Or.inl (by assumption), by assumption⟩ | exact ⟨by assumption, by assumption⟩ | omega)⟩, trivial⟩, trivial⟩, trivial⟩ ?_
  try simp only [r1, e0, x0, pr_16_8400, pr_i_0, pr_i_1, pr_i_m1]
  exact h1
theorem dE_bd {c : Nat → Nat} {sh : Nat → Nat → Nat} (hc : ∀ i, c i ≤ 4) : ∀ i, i ≤ 20 → ∀ s x, dE c sh i s = some x → x ≤ i * (3 * (2 ^ 40 + 2 ^ 38))
  | 0, _, s, x, h => by
    unfold dE at h
    by_cases e : s = 0
    · rw [if_pos e] at h; cases h; omega
    · rw [if_neg e] at h; cases h
  | i + 1, hi, s, x, h => by
    have ih := dE_bd (sh := sh) hc i (by omega)
    have h1 : dGo (dE c sh i) (sh i) (un i) s (c i) = some x := h
    have h2 := dGo_lt ih (c i) x h1
    have hu : un i ≤ 2 ^ 40 + 2 ^ 38 := by
      unfold un
      have : 4 ^ (19 - i) ≤ 4 ^ 19 := Nat.pow_le_pow_right (by decide) (by omega)
      have : (4 : Nat) ^ 19 = 2 ^ 38 := by decide
      omega
    have h3 : (c i - 1) * un i ≤ 3 * (2 ^ 40 + 2 ^ 38) := Nat.mul_le_mul (by have := hc i; omega) hu
    rw [Nat.succ_mul]
    omega
theorem rS_le {d : Ld} {kind i r : Nat} {w : List Nat} (hd : ∀ l, l < 26 → d.1 l ≤ 40) (hl : w.getD i 0 < 26) (hr : r < rC w i) : rS d kind w i r ≤ (i + 1) * 40 := Nat.mul_le_mul a_w_le (hd _ (rC_lt hl hr))
set_option maxHeartbeats 4000000 in
theorem c_rfind {g o : Nat} {d : Ld} {q : Pn} (h : ab_H) (M : ab_M) (hp : pr_Ra h M.2.2) (hg : pr_Ld h M.2.2 g) (hd : ld_v M.1 g d) (ho : pr_On h M.2.2 o) (hq : on_v M.1 o q) (hgr : g + 27 ≤ 55 ∨ 57 < g) (hor : o + 3 ≤ 55 ∨ 57 < o) : pr_X pX5_find [.ref 55, .ref g, .ref o] h M (fun r M' => r = none ∧ M'.2.2 = M.2.2 ∧ (∃ low high, ra_v M'.1 M'.2.1 low high high (dE (rC q.2.2.2) (rS d q.1 q.2.2.2) q.2.2.2.length)) ∧ ∀ a, (a < 55 ∨ 57 < a) → M'.1 a = M.1 a) := by
  obtain ⟨k1, r0, r1, a1, a2, b1, b2⟩ := id hp
  obtain ⟨o0, o1, o2, o3⟩ := id ho
  obtain ⟨g0, g1, -⟩ := id hg
  have d7 := hd.2.2.2.2.2.2.1
  have q7 := hq.2.2.2.2.2.2
  have n1 := o3.2.1
  have n0 := o3.1
  have n55 : (55 : Nat) ≠ 0 := by decide
  have h20 := q7.2.1
  have loop : ∀ dd i, i + dd = q.2.2.2.length → ∀ (I : Nat → Nat → Int32) (J : Nat → Nat → Int64) (low high : Nat), high ≤ 20 * (i * (i + 1)) → ra_v I J low high high (dE (rC q.2.2.2) (rS d q.1 q.2.2.2) i) → (∀ a, (a < 55 ∨ 57 < a) → I a = M.1 a) → pr_T pX5_find 19 [some (.ref 55), some (.ref g), some (.ref o), some (.int (nI i))] [] h (I, J, M.2.2) (fun r M' => r = none ∧ M'.2.2 = M.2.2 ∧ (∃ low high, ra_v M'.1 M'.2.1 low high high (dE (rC q.2.2.2) (rS d q.1 q.2.2.2) q.2.2.2.length)) ∧ ∀ a, (a < 55 ∨ 57 < a) → M'.1 a = M.1 a) := by
    intro dd
    induction dd with
    | zero =>
      intro i hi I J low high hh hra hf
      obtain rfl : i = q.2.2.2.length := by omega
      have x1 : I (o + 1) 1 = nI q.2.2.2.length := by rw [hf _ (by omega)]; exact q7.1
      have e1 : nI q.2.2.2.length ≤ nI q.2.2.2.length := nI_le (Nat.le_refl _) (by omega)
      refine pr_seqT (pc' := 27) 4 rfl ⟨⟨⟨⟨trivial, trivial⟩, (by first | assumption | (simp only [o2, x1, pr_i_0, pr_i_1]; first | assumption | decide | exact ⟨by assumption, by assumption⟩ | exact ⟨Or.inl (by assumption), by assumption⟩ | omega) | decide | exact ⟨Or.inl (by assumption), by assumption⟩ | exact ⟨by assumption, by assumption⟩ | omega)⟩, (by first | assumption | (simp only [o2, x1, pr_i_0, pr_i_1]; first | assumption | decide | exact ⟨by assumption, by assumption⟩ | exact ⟨Or.inl (by assumption), by assumption⟩ | omega) | decide | exact ⟨Or.inl (by assumption), by assumption⟩ | exact ⟨by assumption, by assumption⟩ | omega)⟩, (by first | assumption | (simp only [o2, x1, pr_i_0, pr_i_1]; first | assumption | decide | exact ⟨by assumption, by assumption⟩ | exact ⟨Or.inl (by assumption), by assumption⟩ | omega) | decide | exact ⟨Or.inl (by assumption), by assumption⟩ | exact ⟨by assumption, by assumption⟩ | omega)⟩ ?_
      try simp only [o2, x1, pr_i_0, pr_i_1]
      refine pr_icT rfl (fun h27 => ?_) (fun h27 => ?_)
      · simp only [ab_cmp, pr_i_0, pr_i_1] at h27
        first
        | contradiction
        | exact absurd trivial h27
        | exact absurd h27 (by decide)
        | exact absurd (Classical.not_not.mp h27) (by decide)
        | skip
          exact pr_vrT rfl rfl (by exact ⟨rfl, rfl, ⟨_, _, hra⟩, hf⟩)
      · simp only [ab_cmp, pr_i_0, pr_i_1] at h27
        first
        | contradiction
        | exact absurd trivial h27
        | exact absurd h27 (by decide)
        | exact absurd (Classical.not_not.mp h27) (by decide)
        | skip
          fail
    | succ dd ih =>
      intro i hi I J low high hh hra hf
      have x1 : I (o + 1) 1 = nI q.2.2.2.length := by rw [hf _ (by omega)]; exact q7.1
      have e1 : ¬ nI q.2.2.2.length ≤ nI i := nI_ge (by omega) (by omega)
      have hqI : on_v I o q := on_v_congr (hf _ (by omega)) (hf _ (by omega)) (hf _ (by omega)) hq
      have hts := c_takeShares (i := i) h (I, J, M.2.2) hp hg (ld_v_congr (fun a _ _ => hf a (by omega)) hd) ho hqI hgr hor (by omega)
      have hl := (q7.2.2 i (by omega)).2
      have hb := dE_bd (sh := rS d q.1 q.2.2.2) (rC_le q.2.2.2) i (by omega)
      have bnd : 20 * (i * (i + 1)) + (i + 1) * 40 = 20 * ((i + 1) * (i + 1 + 1)) := by
        rw [Nat.mul_comm i (i + 1), Nat.mul_add (i + 1) (i + 1) 1, Nat.mul_add (i + 1) i 1]
        omega
      have bnd2 : 20 * ((i + 1) * (i + 1 + 1)) ≤ 8400 := by
        have : (i + 1) * (i + 1 + 1) ≤ 20 * 21 := Nat.mul_le_mul (by omega) (by omega)
        omega
      have hap := fun (I1 : Nat → Nat → Int32) (hv1 : ra_v I1 J low high high (dE (rC q.2.2.2) (rS d q.1 q.2.2.2) i)) (hs1 : ss_v I1 (rC q.2.2.2 i) (rS d q.1 q.2.2.2 i)) => c_addPlace (i := i) (G := (i + 1) * 40) h (I1, J, M.2.2) hp hv1 hs1 (rC_pos _ _) (fun r hr => rS_le (fun l hl => (d7 l hl).2) hl hr) (by omega) (by omega) (fun s x hx => by
        have h1 := hb s x hx
        have h2 : i * (3 * (2 ^ 40 + 2 ^ 38)) ≤ 19 * (3 * (2 ^ 40 + 2 ^ 38)) := Nat.mul_le_mul_right _ (by omega)
        omega)
      have hh2 := ih (i + 1) (by omega)
      rw [← nI_1] at hh2
      refine pr_seqT (pc' := 27) 4 rfl ⟨⟨⟨⟨trivial, trivial⟩, (by first | assumption | (simp only [o2, x1, pr_i_0, pr_i_1]; first | assumption | decide | exact ⟨by assumption, by assumption⟩ | exact ⟨Or.inl (by assumption), by assumption⟩ | omega) | decide | exact ⟨Or.inl (by assumption), by assumption⟩ | exact ⟨by assumption, by assumption⟩ | omega)⟩, (by first | assumption | (simp only [o2, x1, pr_i_0, pr_i_1]; first | assumption | decide | exact ⟨by assumption, by assumption⟩ | exact ⟨Or.inl (by assumption), by assumption⟩ | omega) | decide | exact ⟨Or.inl (by assumption), by assumption⟩ | exact ⟨by assumption, by assumption⟩ | omega)⟩, (by first | assumption | (simp only [o2, x1, pr_i_0, pr_i_1]; first | assumption | decide | exact ⟨by assumption, by assumption⟩ | exact ⟨Or.inl (by assumption), by assumption⟩ | omega) | decide | exact ⟨Or.inl (by assumption), by assumption⟩ | exact ⟨by assumption, by assumption⟩ | omega)⟩ ?_
      try simp only [o2, x1, pr_i_0, pr_i_1]
      refine pr_icT rfl (fun h27 => ?_) (fun h27 => ?_)
      · simp only [ab_cmp, pr_i_0, pr_i_1] at h27
        first
        | contradiction
        | exact absurd trivial h27
        | exact absurd h27 (by decide)
        | exact absurd (Classical.not_not.mp h27) (by decide)
        | skip
          fail
      · simp only [ab_cmp, pr_i_0, pr_i_1] at h27
        first
        | contradiction
        | exact absurd trivial h27
        | exact absurd h27 (by decide)
        | exact absurd (Classical.not_not.mp h27) (by decide)
        | skip
          refine pr_seqT (pc' := 34) 4 rfl ⟨⟨⟨⟨trivial, (by first | assumption | (simp only [o2, x1, pr_i_0, pr_i_1]; first | assumption | decide | exact ⟨by assumption, by assumption⟩ | exact ⟨Or.inl (by assumption), by assumption⟩ | omega) | decide | exact ⟨Or.inl (by assumption), by assumption⟩ | exact ⟨by assumption, by assumption⟩ | omega)⟩, (by first | assumption | (simp only [o2, x1, pr_i_0, pr_i_1]; first | assumption | decide | exact ⟨by assumption, by assumption⟩ | exact ⟨Or.inl (by assumption), by assumption⟩ | omega) | decide | exact ⟨Or.inl (by assumption), by assumption⟩ | exact ⟨by assumption, by assumption⟩ | omega)⟩, (by first | assumption | (simp only [o2, x1, pr_i_0, pr_i_1]; first | assumption | decide | exact ⟨by assumption, by assumption⟩ | exact ⟨Or.inl (by assumption), by assumption⟩ | omega) | decide | exact ⟨Or.inl (by assumption), by assumption⟩ | exact ⟨by assumption, by assumption⟩ | omega)⟩, trivial⟩ ?_
          try simp only [o2, x1, pr_i_0, pr_i_1]
          refine pr_cvX [_, _, _] rfl rfl rfl rfl rfl (Nat.le_of_ble_eq_true rfl) (by first | assumption | (simp only [o2, x1, pr_i_0, pr_i_1]; first | assumption | decide | exact ⟨by assumption, by assumption⟩ | exact ⟨Or.inl (by assumption), by assumption⟩ | omega) | decide | exact ⟨Or.inl (by assumption), by assumption⟩ | exact ⟨by assumption, by assumption⟩ | omega) (Nat.le_of_ble_eq_true rfl) (hts) (fun v34 M34 q34 => ?_)
          obtain ⟨rfl, z2, z3, z4, z5, z6⟩ := q34
          obtain ⟨I1, Z1⟩ := M34
          dsimp only at z2 z3 z4 z5 z6
          subst z2
          have hv1 : ra_v I1 J low high high (dE (rC q.2.2.2) (rS d q.1 q.2.2.2) i) := ⟨by rw [z4]; exact hra.1, by rw [z5]; exact hra.2.1, hra.2.2⟩
          refine pr_seqT (pc' := 39) 2 rfl ⟨⟨trivial, (by first | assumption | (simp only [o2, x1, pr_i_0, pr_i_1]; first | assumption | decide | exact ⟨by assumption, by assumption⟩ | exact ⟨Or.inl (by assumption), by assumption⟩ | omega) | decide | exact ⟨Or.inl (by assumption), by assumption⟩ | exact ⟨by assumption, by assumption⟩ | omega)⟩, trivial⟩ ?_
          try simp only [o2, x1, pr_i_0, pr_i_1]
          refine pr_cvX [_] rfl rfl rfl rfl rfl (Nat.le_of_ble_eq_true rfl) (by first | assumption | (simp only [o2, x1, pr_i_0, pr_i_1]; first | assumption | decide | exact ⟨by assumption, by assumption⟩ | exact ⟨Or.inl (by assumption), by assumption⟩ | omega) | decide | exact ⟨Or.inl (by assumption), by assumption⟩ | exact ⟨by assumption, by assumption⟩ | omega) (Nat.le_of_ble_eq_true rfl) (hap I1 hv1 z3) (fun v39 M39 q39 => ?_)
          obtain ⟨rfl, y2, ⟨low', high', y3, y4⟩, y5, y6⟩ := q39
          obtain ⟨I2, J2, Z2⟩ := M39
          dsimp only at y2 y3 y4 y5 y6
          subst y2
          refine pr_seqT (pc' := 19) 2 rfl ⟨⟨trivial, trivial⟩, trivial⟩ ?_
          try simp only [o2, x1, pr_i_0, pr_i_1]
          exact hh2 I2 J2 low' high' (by omega) y4 (fun a ha => by rw [y5 a (by omega), z6 a (by omega) (by omega)]; exact hf a ha)
  have h0 := loop q.2.2.2.length 0 (by omega) (ab_u (ab_u M.1 55 3 0) 55 4 0) (ab_u M.2.1 56 0 (jN 0)) 0 0 (by omega) ⟨by rw [ab_u_j (by decide), ab_u_at]; rfl, by rw [ab_u_at]; rfl, Nat.le_refl _, by decide, fun s x1 x2 _ => by
      obtain rfl : s = 0 := by omega
      rw [ab_u_at]; unfold dE; rw [if_pos rfl]; rfl, fun s hs => by unfold dE; rw [if_neg (by omega)], fun s x hx => by
      have := dE_bd (sh := rS d q.1 q.2.2.2) (rC_le q.2.2.2) 0 (by omega) s x hx
      omega⟩ (fun a ha => by rw [ab_u_ne (by omega), ab_u_ne (by omega)])
  have e0 : (Int32.toNatClampNeg 0) = 0 := rfl
  have w0 : vp_in 0 (ab_n h 56) := by rw [a2]; exact vp_in_nI (n := 0) (by omega) (by decide)
  refine pr_seqT (pc' := 19) 13 rfl ⟨⟨⟨⟨⟨⟨⟨⟨⟨⟨⟨⟨⟨trivial, (by first | assumption | (simp only [r0, e0, pr_i_0, pr_i_1]; first | assumption | decide | exact ⟨by assumption, by assumption⟩ | exact ⟨Or.inl (by assumption), by assumption⟩ | omega) | decide | exact ⟨Or.inl (by assumption), by assumption⟩ | exact ⟨by assumption, by assumption⟩ | omega)⟩, trivial⟩, (by first | assumption | (simp only [r0, e0, pr_i_0, pr_i_1]; first | assumption | decide | exact ⟨by assumption, by assumption⟩ | exact ⟨Or.inl (by assumption), by assumption⟩ | omega) | decide | exact ⟨Or.inl (by assumption), by assumption⟩ | exact ⟨by assumption, by assumption⟩ | omega)⟩, (by first | assumption | (simp only [r0, e0, pr_i_0, pr_i_1]; first | assumption | decide | exact ⟨by assumption, by assumption⟩ | exact ⟨Or.inl (by assumption), by assumption⟩ | omega) | decide | exact ⟨Or.inl (by assumption), by assumption⟩ | exact ⟨by assumption, by assumption⟩ | omega)⟩, trivial⟩, (by first | assumption | (simp only [r0, e0, pr_i_0, pr_i_1]; first | assumption | decide | exact ⟨by assumption, by assumption⟩ | exact ⟨Or.inl (by assumption), by assumption⟩ | omega) | decide | exact ⟨Or.inl (by assumption), by assumption⟩ | exact ⟨by assumption, by assumption⟩ | omega)⟩, (by first | assumption | (simp only [r0, e0, pr_i_0, pr_i_1]; first | assumption | decide | exact ⟨by assumption, by assumption⟩ | exact ⟨Or.inl (by assumption), by assumption⟩ | omega) | decide | exact ⟨Or.inl (by assumption), by assumption⟩ | exact ⟨by assumption, by assumption⟩ | omega)⟩, (by first | assumption | (simp only [r0, e0, pr_i_0, pr_i_1]; first | assumption | decide | exact ⟨by assumption, by assumption⟩ | exact ⟨Or.inl (by assumption), by assumption⟩ | omega) | decide | exact ⟨Or.inl (by assumption), by assumption⟩ | exact ⟨by assumption, by assumption⟩ | omega)⟩, trivial⟩, trivial⟩, (by first | assumption | (simp only [r0, e0, pr_i_0, pr_i_1]; first | assumption | decide | exact ⟨by assumption, by assumption⟩ | exact ⟨Or.inl (by assumption), by assumption⟩ | omega) | decide | exact ⟨Or.inl (by assumption), by assumption⟩ | exact ⟨by assumption, by assumption⟩ | omega)⟩, trivial⟩, trivial⟩ ?_
  try simp only [r0, e0, pr_i_0, pr_i_1]
  exact h0
