/-! ===== Told, Census ===== -/
abbrev Tl : Type := Ld × List (List Nat) × List (Nat × Nat)
def tl_v (I : Nat → Nat → Int32) (t : Nat) (T : Tl) : Prop := ld_v I (t + 1) T.1 ∧ I t 4 = nI T.2.1.length ∧ T.2.1.length ≤ 6 ∧ I t 5 = nI T.2.2.length ∧ T.2.2.length ≤ 6 ∧ (∀ q w, T.2.1[q]? = some w → nm_v I (t + 31 + 2 * q) w ∧ w.length ≤ 10) ∧ ∀ i k, T.2.2[i]? = some k → I (t + 29) i = nI k.1 ∧ I (t + 30) i = nI k.2 ∧ k.1 < T.2.1.length ∧ k.2 ≤ 999
def pr_Tl (h : ab_H) (R : Nat → Nat → Nat) (t : Nat) : Prop := t ≠ 0 ∧ ab_k h t = 10 ∧ R t 0 = t + 1 ∧ R t 1 = t + 28 ∧ R t 2 = t + 29 ∧ R t 3 = t + 30 ∧ pr_Ld h R (t + 1) ∧ (ab_k h (t + 28) = 25 ∧ ab_n h (t + 28) = 6) ∧ (ab_k h (t + 29) = 20 ∧ ab_n h (t + 29) = 6) ∧ (ab_k h (t + 30) = 20 ∧ ab_n h (t + 30) = 6) ∧ ∀ q, q < 6 → R (t + 28) q = t + 31 + 2 * q ∧ pr_Nm h R (t + 31 + 2 * q)
theorem c_lists {t m : Nat} (x : Int32) (h : ab_H) (M : ab_M) (h0 : t ≠ 0) (hk : ab_k h t = 10) (hm : M.1 t 4 = nI m) : pr_C pX9_lists [.ref t, .int x] h M (some (.int (pr_b (!decide (x < 0) && !decide (nI m ≤ x))))) h M := by
  refine pr_seq (pc' := 1) 1 rfl ⟨trivial, trivial⟩ ?_
  try simp only [hm, pr_i_0, pr_i_1]
  refine pr_if rfl (fun h1 => ?_) (fun h1 => ?_)
  · simp only [ab_cmp, pr_i_0, pr_i_1] at h1
    refine pr_seq (pc' := 17) 1 rfl ⟨trivial, trivial⟩ ?_
    try simp only [hm, pr_i_0, pr_i_1]
    exact pr_irM rfl (by first | rfl | (simp only [hm, pr_i_0, pr_i_1]; done) | (simp [pr_b, pr_i_0, pr_i_1, *]; done) | (simp_all [pr_b, pr_i_0, pr_i_1]; done)) (by first | exact Or.inl rfl | exact Or.inr rfl | exact pr_b01 _ | assumption) (by rfl)
  · simp only [ab_cmp, pr_i_0, pr_i_1] at h1
    refine pr_seq (pc' := 9) 3 rfl ⟨⟨⟨trivial, trivial⟩, (by first | assumption | decide | omega | exact ⟨Or.inl (by assumption), by assumption⟩ | exact ⟨by assumption, by assumption⟩ | (simp only [hm, pr_i_0, pr_i_1]; first | assumption | omega | exact ⟨by assumption, by assumption⟩ | exact ⟨Or.inl (by assumption), by assumption⟩))⟩, (by first | assumption | decide | omega | exact ⟨Or.inl (by assumption), by assumption⟩ | exact ⟨by assumption, by assumption⟩ | (simp only [hm, pr_i_0, pr_i_1]; first | assumption | omega | exact ⟨by assumption, by assumption⟩ | exact ⟨Or.inl (by assumption), by assumption⟩))⟩ ?_
    try simp only [hm, pr_i_0, pr_i_1]
    refine pr_ic rfl (fun h9 => ?_) (fun h9 => ?_)
    · simp only [ab_cmp, pr_i_0, pr_i_1] at h9
      refine pr_seq (pc' := 17) 1 rfl ⟨trivial, trivial⟩ ?_
      try simp only [hm, pr_i_0, pr_i_1]
      exact pr_irM rfl (by first | rfl | (simp only [hm, pr_i_0, pr_i_1]; done) | (simp [pr_b, pr_i_0, pr_i_1, *]; done) | (simp_all [pr_b, pr_i_0, pr_i_1]; done)) (by first | exact Or.inl rfl | exact Or.inr rfl | exact pr_b01 _ | assumption) (by rfl)
    · simp only [ab_cmp, pr_i_0, pr_i_1] at h9
      refine pr_seq (pc' := 17) 2 rfl ⟨⟨trivial, trivial⟩, trivial⟩ ?_
      try simp only [hm, pr_i_0, pr_i_1]
      exact pr_irM rfl (by first | rfl | (simp only [hm, pr_i_0, pr_i_1]; done) | (simp [pr_b, pr_i_0, pr_i_1, *]; done) | (simp_all [pr_b, pr_i_0, pr_i_1]; done)) (by first | exact Or.inl rfl | exact Or.inr rfl | exact pr_b01 _ | assumption) (by rfl)
/-- an index is one of m, or none -/
theorem pr_ix (x : Int32) {m : Nat} (hm : m ≤ 1000000) : ((!decide (x < 0) && !decide (nI m ≤ x)) = false) ∨ ∃ j, j < m ∧ x = nI j ∧ (!decide (x < 0) && !decide (nI m ≤ x)) = true := by
  rcases pk_ix x (nI_lt31 hm) with q | q | ⟨j, hj, rfl⟩
  · left; rw [decide_eq_true q]; rfl
  · left; rw [decide_eq_true q]; simp
  · right
    refine ⟨j, hj, rfl, ?_⟩
    rw [decide_eq_false (nI_pos (Nat.lt_trans hj (nI_lt31 hm))), decide_eq_false (nI_ge hj (nI_lt31 hm))]
    rfl
theorem c_listedSum {t q : Nat} {T : Tl} {w : List Nat} (h : ab_H) (M : ab_M) (ht : pr_Tl h M.2.2 t) (hT : tl_v M.1 t T) (hq : T.2.1[q]? = some w) : pr_C pX9_listedSum [.ref t, .int (nI q)] h M (some (.int (nI (a_sum T.1.1 T.1.2.2.1 0 w)))) h M := by
  obtain ⟨t0, t1, r0, r1, r2, r3, hl, ⟨k1, k2⟩, -, -, hn⟩ := id ht
  obtain ⟨v1, v2, v3, v4, v5, v6, v7⟩ := id hT
  have hlt : q < T.2.1.length := (List.getElem?_eq_some_iff.mp hq).1
  have h6 : q < 6 := by omega
  obtain ⟨n1, n2⟩ := hn q h6
  have hb : (!decide (nI q < 0) && !decide (nI T.2.1.length ≤ nI q)) = true := by
    rw [decide_eq_false (nI_pos (by omega)), decide_eq_false (nI_ge hlt (by omega))]
    rfl
  have hp := c_lists (nI q) h M t0 t1 v2
  rw [hb] at hp
  have e3 : (nI q).toNatClampNeg = q := nI_clamp (by omega)
  have g1 := hl.2.1
  have vi : (24 ≤ ab_k h (t + 28) ∧ ab_k h (t + 28) ≤ 27) ∧ vp_in (nI q) (ab_n h (t + 28)) := ⟨by rw [k1]; decide, by rw [k2]; exact vp_in_nI h6 (by decide)⟩
  refine pr_seq (pc' := 2) 2 rfl ⟨⟨trivial, (by first | assumption | decide | omega | exact ⟨Or.inl (by assumption), by assumption⟩ | exact ⟨by assumption, by assumption⟩ | (simp only [r0, r1, e3, n1, pr_i_0, pr_i_m1]; first | assumption | omega | exact ⟨by assumption, by assumption⟩ | exact ⟨Or.inl (by assumption), by assumption⟩))⟩, trivial⟩ ?_
  try simp only [r0, r1, e3, n1, pr_i_0, pr_i_m1]
  refine pr_cv [_] rfl rfl rfl rfl rfl (Nat.le_of_ble_eq_true rfl) (by first | assumption | decide | omega | exact ⟨Or.inl (by assumption), by assumption⟩ | exact ⟨by assumption, by assumption⟩ | (simp only [r0, r1, e3, n1, pr_i_0, pr_i_m1]; first | assumption | omega | exact ⟨by assumption, by assumption⟩ | exact ⟨Or.inl (by assumption), by assumption⟩)) (Nat.le_of_ble_eq_true rfl) (hp) ?_
  refine pr_if rfl (fun h5 => ?_) (fun h5 => ?_)
  · simp only [ab_cmp, pr_i_0, pr_i_m1] at h5
    exact absurd h5 (by decide)
  · simp only [ab_cmp, pr_i_0, pr_i_m1] at h5
    refine pr_seq (pc' := 19) 7 rfl ⟨⟨⟨⟨⟨⟨⟨trivial, (by first | assumption | decide | omega | exact ⟨Or.inl (by assumption), by assumption⟩ | exact ⟨by assumption, by assumption⟩ | (simp only [r0, r1, e3, n1, pr_i_0, pr_i_m1]; first | assumption | omega | exact ⟨by assumption, by assumption⟩ | exact ⟨Or.inl (by assumption), by assumption⟩))⟩, (by first | assumption | decide | omega | exact ⟨Or.inl (by assumption), by assumption⟩ | exact ⟨by assumption, by assumption⟩ | (simp only [r0, r1, e3, n1, pr_i_0, pr_i_m1]; first | assumption | omega | exact ⟨by assumption, by assumption⟩ | exact ⟨Or.inl (by assumption), by assumption⟩))⟩, (by first | assumption | decide | omega | exact ⟨Or.inl (by assumption), by assumption⟩ | exact ⟨by assumption, by assumption⟩ | (simp only [r0, r1, e3, n1, pr_i_0, pr_i_m1]; first | assumption | omega | exact ⟨by assumption, by assumption⟩ | exact ⟨Or.inl (by assumption), by assumption⟩))⟩, (by first | assumption | decide | omega | exact ⟨Or.inl (by assumption), by assumption⟩ | exact ⟨by assumption, by assumption⟩ | (simp only [r0, r1, e3, n1, pr_i_0, pr_i_m1]; first | assumption | omega | exact ⟨by assumption, by assumption⟩ | exact ⟨Or.inl (by assumption), by assumption⟩))⟩, trivial⟩, (by first | assumption | decide | omega | exact ⟨Or.inl (by assumption), by assumption⟩ | exact ⟨by assumption, by assumption⟩ | (simp only [r0, r1, e3, n1, pr_i_0, pr_i_m1]; first | assumption | omega | exact ⟨by assumption, by assumption⟩ | exact ⟨Or.inl (by assumption), by assumption⟩))⟩, trivial⟩ ?_
    try simp only [r0, r1, e3, n1, pr_i_0, pr_i_m1]
    refine pr_cv [_, _] rfl rfl rfl rfl rfl (Nat.le_of_ble_eq_true rfl) (by first | assumption | decide | omega | exact ⟨Or.inl (by assumption), by assumption⟩ | exact ⟨by assumption, by assumption⟩ | (simp only [r0, r1, e3, n1, pr_i_0, pr_i_m1]; first | assumption | omega | exact ⟨by assumption, by assumption⟩ | exact ⟨Or.inl (by assumption), by assumption⟩)) (Nat.le_of_ble_eq_true rfl) (c_sumOf (kind := 0) h M hl v1 n2 (v6 q w hq).1 (by decide)) ?_
    refine pr_seq (pc' := 26) 1 rfl ⟨trivial, trivial⟩ ?_
    try simp only [r0, r1, e3, n1, pr_i_0, pr_i_m1]
    exact pr_irM rfl (by rfl) trivial (by rfl)
theorem c_addKnown {t n s m : Nat} (h : ab_H) (M : ab_M) (ht : pr_Tl h M.2.2 t) (hm : M.1 t 5 = nI m) (hm6 : m ≤ 6) : pr_C pX9_addKnown [.ref t, .int (nI n), .int (nI s)] h M (some (.int (pr_b (decide (m < 6))))) h (if m < 6 then ab_u (ab_u (ab_u M.1 (t + 29) m (nI n)) (t + 30) m (nI s)) t 5 (nI (m + 1)) else M.1, M.2.1, M.2.2) := by
  obtain ⟨t0, t1, r0, r1, r2, r3, hl, -, ⟨k1, k2⟩, ⟨k3, k4⟩, -⟩ := id ht
  by_cases hc : m < 6
  · rw [decide_eq_true hc, if_pos hc]
    have e1 : nI m < (6 : Int32) := nI_lt hc (by decide)
    have e3 : (nI m).toNatClampNeg = m := nI_clamp (by omega)
    have v1 : vp_in (nI m) (ab_n h (t + 29)) := by rw [k2]; exact vp_in_nI hc (by decide)
    have v2 : vp_in (nI m) (ab_n h (t + 30)) := by rw [k4]; exact vp_in_nI hc (by decide)
    have f1 : ∀ x : Int32, ab_u M.1 (t + 29) m x t 5 = nI m := fun x => by rw [ab_u_ne (by omega)]; exact hm
    have f2 : ∀ x y : Int32, ab_u (ab_u M.1 (t + 29) m x) (t + 30) m y t 5 = nI m := fun x y => by rw [ab_u_ne (by omega), ab_u_ne (by omega)]; exact hm
    refine pr_seq (pc' := 6) 3 rfl ⟨⟨⟨trivial, (by first | assumption | decide | omega | exact ⟨Or.inl (by assumption), by assumption⟩ | exact ⟨by assumption, by assumption⟩ | (simp only [hm, r2, r3, e3, f1, f2, nI_1, pr_8_6, pr_i_0, pr_i_1]; first | assumption | omega | exact ⟨by assumption, by assumption⟩ | exact ⟨Or.inl (by assumption), by assumption⟩))⟩, (by first | assumption | decide | omega | exact ⟨Or.inl (by assumption), by assumption⟩ | exact ⟨by assumption, by assumption⟩ | (simp only [hm, r2, r3, e3, f1, f2, nI_1, pr_8_6, pr_i_0, pr_i_1]; first | assumption | omega | exact ⟨by assumption, by assumption⟩ | exact ⟨Or.inl (by assumption), by assumption⟩))⟩, trivial⟩ ?_
    try simp only [hm, r2, r3, e3, f1, f2, nI_1, pr_8_6, pr_i_0, pr_i_1]
    refine pr_ic rfl (fun h6 => ?_) (fun h6 => ?_)
    · simp only [ab_cmp, pr_8_6, pr_i_0, pr_i_1] at h6
      refine pr_seq (pc' := 42) 19 rfl ⟨⟨⟨⟨⟨⟨⟨⟨⟨⟨⟨⟨⟨⟨⟨⟨⟨⟨⟨trivial, (by first | assumption | decide | omega | exact ⟨Or.inl (by assumption), by assumption⟩ | exact ⟨by assumption, by assumption⟩ | (simp only [hm, r2, r3, e3, f1, f2, nI_1, pr_8_6, pr_i_0, pr_i_1]; first | assumption | omega | exact ⟨by assumption, by assumption⟩ | exact ⟨Or.inl (by assumption), by assumption⟩))⟩, (by first | assumption | decide | omega | exact ⟨Or.inl (by assumption), by assumption⟩ | exact ⟨by assumption, by assumption⟩ | (simp only [hm, r2, r3, e3, f1, f2, nI_1, pr_8_6, pr_i_0, pr_i_1]; first | assumption | omega | exact ⟨by assumption, by assumption⟩ | exact ⟨Or.inl (by assumption), by assumption⟩))⟩, (by first | assumption | decide | omega | exact ⟨Or.inl (by assumption), by assumption⟩ | exact ⟨by assumption, by assumption⟩ | (simp only [hm, r2, r3, e3, f1, f2, nI_1, pr_8_6, pr_i_0, pr_i_1]; first | assumption | omega | exact ⟨by assumption, by assumption⟩ | exact ⟨Or.inl (by assumption), by assumption⟩))⟩, (by first | assumption | decide | omega | exact ⟨Or.inl (by assumption), by assumption⟩ | exact ⟨by assumption, by assumption⟩ | (simp only [hm, r2, r3, e3, f1, f2, nI_1, pr_8_6, pr_i_0, pr_i_1]; first | assumption | omega | exact ⟨by assumption, by assumption⟩ | exact ⟨Or.inl (by assumption), by assumption⟩))⟩, trivial⟩, (by first | assumption | decide | omega | exact ⟨Or.inl (by assumption), by assumption⟩ | exact ⟨by assumption, by assumption⟩ | (simp only [hm, r2, r3, e3, f1, f2, nI_1, pr_8_6, pr_i_0, pr_i_1]; first | assumption | omega | exact ⟨by assumption, by assumption⟩ | exact ⟨Or.inl (by assumption), by assumption⟩))⟩, (by first | assumption | decide | omega | exact ⟨Or.inl (by assumption), by assumption⟩ | exact ⟨by assumption, by assumption⟩ | (simp only [hm, r2, r3, e3, f1, f2, nI_1, pr_8_6, pr_i_0, pr_i_1]; first | assumption | omega | exact ⟨by assumption, by assumption⟩ | exact ⟨Or.inl (by assumption), by assumption⟩))⟩, (by first | assumption | decide | omega | exact ⟨Or.inl (by assumption), by assumption⟩ | exact ⟨by assumption, by assumption⟩ | (simp only [hm, r2, r3, e3, f1, f2, nI_1, pr_8_6, pr_i_0, pr_i_1]; first | assumption | omega | exact ⟨by assumption, by assumption⟩ | exact ⟨Or.inl (by assumption), by assumption⟩))⟩, (by first | assumption | decide | omega | exact ⟨Or.inl (by assumption), by assumption⟩ | exact ⟨by assumption, by assumption⟩ | (simp only [hm, r2, r3, e3, f1, f2, nI_1, pr_8_6, pr_i_0, pr_i_1]; first | assumption | omega | exact ⟨by assumption, by assumption⟩ | exact ⟨Or.inl (by assumption), by assumption⟩))⟩, (by first | assumption | decide | omega | exact ⟨Or.inl (by assumption), by assumption⟩ | exact ⟨by assumption, by assumption⟩ | (simp only [hm, r2, r3, e3, f1, f2, nI_1, pr_8_6, pr_i_0, pr_i_1]; first | assumption | omega | exact ⟨by assumption, by assumption⟩ | exact ⟨Or.inl (by assumption), by assumption⟩))⟩, trivial⟩, (by first | assumption | decide | omega | exact ⟨Or.inl (by assumption), by assumption⟩ | exact ⟨by assumption, by assumption⟩ | (simp only [hm, r2, r3, e3, f1, f2, nI_1, pr_8_6, pr_i_0, pr_i_1]; first | assumption | omega | exact ⟨by assumption, by assumption⟩ | exact ⟨Or.inl (by assumption), by assumption⟩))⟩, (by first | assumption | decide | omega | exact ⟨Or.inl (by assumption), by assumption⟩ | exact ⟨by assumption, by assumption⟩ | (simp only [hm, r2, r3, e3, f1, f2, nI_1, pr_8_6, pr_i_0, pr_i_1]; first | assumption | omega | exact ⟨by assumption, by assumption⟩ | exact ⟨Or.inl (by assumption), by assumption⟩))⟩, trivial⟩, (by first | assumption | decide | omega | exact ⟨Or.inl (by assumption), by assumption⟩ | exact ⟨by assumption, by assumption⟩ | (simp only [hm, r2, r3, e3, f1, f2, nI_1, pr_8_6, pr_i_0, pr_i_1]; first | assumption | omega | exact ⟨by assumption, by assumption⟩ | exact ⟨Or.inl (by assumption), by assumption⟩))⟩, trivial⟩, trivial⟩, (by first | assumption | decide | omega | exact ⟨Or.inl (by assumption), by assumption⟩ | exact ⟨by assumption, by assumption⟩ | (simp only [hm, r2, r3, e3, f1, f2, nI_1, pr_8_6, pr_i_0, pr_i_1]; first | assumption | omega | exact ⟨by assumption, by assumption⟩ | exact ⟨Or.inl (by assumption), by assumption⟩))⟩, trivial⟩ ?_
      try simp only [hm, r2, r3, e3, f1, f2, nI_1, pr_8_6, pr_i_0, pr_i_1]
      exact pr_irM rfl (by rfl) (by first | exact Or.inl rfl | exact Or.inr rfl | exact pr_b01 _ | assumption) (by rfl)
    · simp only [ab_cmp, pr_8_6, pr_i_0, pr_i_1] at h6
      exact absurd e1 h6
  · rw [decide_eq_false hc, if_neg hc]
    have e1 : ¬ nI m < (6 : Int32) := nI_nlt (Nat.not_lt.mp hc) (by omega)
    refine pr_seq (pc' := 6) 3 rfl ⟨⟨⟨trivial, (by first | assumption | decide | omega | exact ⟨Or.inl (by assumption), by assumption⟩ | exact ⟨by assumption, by assumption⟩ | (simp only [hm, pr_8_6, pr_i_0, pr_i_1]; first | assumption | omega | exact ⟨by assumption, by assumption⟩ | exact ⟨Or.inl (by assumption), by assumption⟩))⟩, (by first | assumption | decide | omega | exact ⟨Or.inl (by assumption), by assumption⟩ | exact ⟨by assumption, by assumption⟩ | (simp only [hm, pr_8_6, pr_i_0, pr_i_1]; first | assumption | omega | exact ⟨by assumption, by assumption⟩ | exact ⟨Or.inl (by assumption), by assumption⟩))⟩, trivial⟩ ?_
    try simp only [hm, pr_8_6, pr_i_0, pr_i_1]
    refine pr_ic rfl (fun h6 => ?_) (fun h6 => ?_)
    · simp only [ab_cmp, pr_8_6, pr_i_0, pr_i_1] at h6
      exact absurd h6 e1
    · simp only [ab_cmp, pr_8_6, pr_i_0, pr_i_1] at h6
      refine pr_seq (pc' := 10) 1 rfl ⟨trivial, trivial⟩ ?_
      try simp only [hm, pr_8_6, pr_i_0, pr_i_1]
      exact pr_irM rfl (by rfl) (by first | exact Or.inl rfl | exact Or.inr rfl | exact pr_b01 _ | assumption) (by rfl)
/-- the census: n ones with sums, kinds, debts, wealths -/
def cs_v (I : Nat → Nat → Int32) (c n : Nat) (S : Nat → Int32) (K Dt Wl : Nat → Nat) : Prop := I c 5 = nI n ∧ n ≤ 28 ∧ ∀ p, p < n → I (c + 1) p = S p ∧ I (c + 2) p = nI (K p) ∧ K p ≤ 4 ∧ I (c + 3) p = nI (Dt p) ∧ I (c + 4) p = nI (Wl p)
def pr_Cs (h : ab_H) (R : Nat → Nat → Nat) (c : Nat) : Prop := c ≠ 0 ∧ ab_k h c = 1 ∧ R c 0 = c + 1 ∧ R c 1 = c + 2 ∧ R c 2 = c + 3 ∧ R c 3 = c + 4 ∧ R c 4 = c + 5 ∧ (ab_k h (c + 1) = 20 ∧ ab_n h (c + 1) = 28) ∧ (ab_k h (c + 2) = 20 ∧ ab_n h (c + 2) = 28) ∧ (ab_k h (c + 3) = 20 ∧ ab_n h (c + 3) = 28) ∧ (ab_k h (c + 4) = 20 ∧ ab_n h (c + 4) = 28) ∧ ab_k h (c + 5) = 20 ∧ ab_n h (c + 5) = 8
/-- one person -/
def al (S : Nat → Int32) (K : Nat → Nat) (p q : Nat) : Bool := decide (p = q) || (decide (K p ≠ 4) && (decide (K q ≠ 4) && decide (S p = S q)))
theorem c_alike {c n p q : Nat} {S : Nat → Int32} {K Dt Wl : Nat → Nat} (h : ab_H) (M : ab_M) (hc : pr_Cs h M.2.2 c) (hv : cs_v M.1 c n S K Dt Wl) (hp : p < n) (hq : q < n) : pr_C pX0_alike [.ref c, .int (nI p), .int (nI q)] h M (some (.int (pr_b (al S K p q)))) h M := by
  obtain ⟨c0, c1, r0, r1, r2, r3, r4, ⟨a1, a2⟩, ⟨b1, b2⟩, -⟩ := id hc
  obtain ⟨v1, v2, v3⟩ := id hv
  obtain ⟨p1, p2, p3, -⟩ := v3 p hp
  obtain ⟨q1, q2, q3, -⟩ := v3 q hq
  have e3 : (nI p).toNatClampNeg = p := nI_clamp (by omega)
  have e4 : (nI q).toNatClampNeg = q := nI_clamp (by omega)
  have w1 : vp_in (nI p) (ab_n h (c + 1)) := by rw [a2]; exact vp_in_nI (by omega) (by decide)
  have w2 : vp_in (nI q) (ab_n h (c + 1)) := by rw [a2]; exact vp_in_nI (by omega) (by decide)
  have w3 : vp_in (nI p) (ab_n h (c + 2)) := by rw [b2]; exact vp_in_nI (by omega) (by decide)
  have w4 : vp_in (nI q) (ab_n h (c + 2)) := by rw [b2]; exact vp_in_nI (by omega) (by decide)
  have n4 : (4 : Int32) = nI 4 := rfl
  have x1 : nI p = nI q ↔ p = q := nI_eq (by omega) (by omega)
  have x2 : nI (K p) = nI 4 ↔ K p = 4 := nI_eq (by omega) (by decide)
  have x3 : nI (K q) = nI 4 ↔ K q = 4 := nI_eq (by omega) (by decide)
  unfold al
  by_cases t1 : p = q
  · subst t1
    refine pr_seq (pc' := 2) 2 rfl ⟨⟨trivial, trivial⟩, trivial⟩ ?_
    try simp only [r0, r1, e3, e4, p1, p2, q1, q2, n4, pr_i_0, pr_i_1, pr_i_4]
    refine pr_ic rfl (fun h2 => ?_) (fun h2 => ?_)
    · simp only [ab_cmp, pr_i_0, pr_i_1, pr_i_4] at h2
      refine pr_seq (pc' := 45) 2 rfl ⟨⟨trivial, trivial⟩, trivial⟩ ?_
      try simp only [r0, r1, e3, e4, p1, p2, q1, q2, n4, pr_i_0, pr_i_1, pr_i_4]
      exact pr_irM rfl (by simp [pr_b]) (by first | exact Or.inl rfl | exact Or.inr rfl | exact pr_b01 _ | assumption) (by rfl)
    · simp only [ab_cmp, pr_i_0, pr_i_1, pr_i_4] at h2
      exact absurd trivial h2
  · have y1 : ¬ nI p = nI q := fun z => t1 (x1.mp z)
    by_cases t2 : K p = 4
    · have y2 : nI (K p) = nI 4 := by rw [t2]
      refine pr_seq (pc' := 2) 2 rfl ⟨⟨trivial, trivial⟩, trivial⟩ ?_
      try simp only [r0, r1, e3, e4, p1, p2, q1, q2, n4, pr_i_0, pr_i_1, pr_i_4]
      refine pr_ic rfl (fun h2 => ?_) (fun h2 => ?_)
      · simp only [ab_cmp, pr_i_0, pr_i_1, pr_i_4] at h2
        exact absurd h2 y1
      · simp only [ab_cmp, pr_i_0, pr_i_1, pr_i_4] at h2
        refine pr_seq (pc' := 12) 5 rfl ⟨⟨⟨⟨⟨trivial, (by first | assumption | decide | omega | exact ⟨Or.inl (by assumption), by assumption⟩ | exact ⟨by assumption, by assumption⟩ | (simp only [r0, r1, e3, e4, p1, p2, q1, q2, n4, pr_i_0, pr_i_1, pr_i_4]; first | assumption | omega | exact ⟨by assumption, by assumption⟩ | exact ⟨Or.inl (by assumption), by assumption⟩))⟩, (by first | assumption | decide | omega | exact ⟨Or.inl (by assumption), by assumption⟩ | exact ⟨by assumption, by assumption⟩ | (simp only [r0, r1, e3, e4, p1, p2, q1, q2, n4, pr_i_0, pr_i_1, pr_i_4]; first | assumption | omega | exact ⟨by assumption, by assumption⟩ | exact ⟨Or.inl (by assumption), by assumption⟩))⟩, trivial⟩, (by first | assumption | decide | omega | exact ⟨Or.inl (by assumption), by assumption⟩ | exact ⟨by assumption, by assumption⟩ | (simp only [r0, r1, e3, e4, p1, p2, q1, q2, n4, pr_i_0, pr_i_1, pr_i_4]; first | assumption | omega | exact ⟨by assumption, by assumption⟩ | exact ⟨Or.inl (by assumption), by assumption⟩))⟩, trivial⟩ ?_
        try simp only [r0, r1, e3, e4, p1, p2, q1, q2, n4, pr_i_0, pr_i_1, pr_i_4]
        refine pr_ic rfl (fun h12 => ?_) (fun h12 => ?_)
        · simp only [ab_cmp, pr_i_0, pr_i_1, pr_i_4] at h12
          refine pr_seq (pc' := 45) 1 rfl ⟨trivial, trivial⟩ ?_
          try simp only [r0, r1, e3, e4, p1, p2, q1, q2, n4, pr_i_0, pr_i_1, pr_i_4]
          exact pr_irM rfl (by simp [pr_b, t1, t2]) (by first | exact Or.inl rfl | exact Or.inr rfl | exact pr_b01 _ | assumption) (by rfl)
        · simp only [ab_cmp, pr_i_0, pr_i_1, pr_i_4] at h12
          exact absurd y2 h12
    · have y2 : ¬ nI (K p) = nI 4 := fun z => t2 (x2.mp z)
      by_cases t3 : K q = 4
      · have y3 : nI (K q) = nI 4 := by rw [t3]
        refine pr_seq (pc' := 2) 2 rfl ⟨⟨trivial, trivial⟩, trivial⟩ ?_
        try simp only [r0, r1, e3, e4, p1, p2, q1, q2, n4, pr_i_0, pr_i_1, pr_i_4]
        refine pr_ic rfl (fun h2 => ?_) (fun h2 => ?_)
        · simp only [ab_cmp, pr_i_0, pr_i_1, pr_i_4] at h2
          exact absurd h2 y1
        · simp only [ab_cmp, pr_i_0, pr_i_1, pr_i_4] at h2
          refine pr_seq (pc' := 12) 5 rfl ⟨⟨⟨⟨⟨trivial, (by first | assumption | decide | omega | exact ⟨Or.inl (by assumption), by assumption⟩ | exact ⟨by assumption, by assumption⟩ | (simp only [r0, r1, e3, e4, p1, p2, q1, q2, n4, pr_i_0, pr_i_1, pr_i_4]; first | assumption | omega | exact ⟨by assumption, by assumption⟩ | exact ⟨Or.inl (by assumption), by assumption⟩))⟩, (by first | assumption | decide | omega | exact ⟨Or.inl (by assumption), by assumption⟩ | exact ⟨by assumption, by assumption⟩ | (simp only [r0, r1, e3, e4, p1, p2, q1, q2, n4, pr_i_0, pr_i_1, pr_i_4]; first | assumption | omega | exact ⟨by assumption, by assumption⟩ | exact ⟨Or.inl (by assumption), by assumption⟩))⟩, trivial⟩, (by first | assumption | decide | omega | exact ⟨Or.inl (by assumption), by assumption⟩ | exact ⟨by assumption, by assumption⟩ | (simp only [r0, r1, e3, e4, p1, p2, q1, q2, n4, pr_i_0, pr_i_1, pr_i_4]; first | assumption | omega | exact ⟨by assumption, by assumption⟩ | exact ⟨Or.inl (by assumption), by assumption⟩))⟩, trivial⟩ ?_
          try simp only [r0, r1, e3, e4, p1, p2, q1, q2, n4, pr_i_0, pr_i_1, pr_i_4]
          refine pr_ic rfl (fun h12 => ?_) (fun h12 => ?_)
          · simp only [ab_cmp, pr_i_0, pr_i_1, pr_i_4] at h12
            exact absurd h12 y2
          · simp only [ab_cmp, pr_i_0, pr_i_1, pr_i_4] at h12
            refine pr_seq (pc' := 22) 5 rfl ⟨⟨⟨⟨⟨trivial, (by first | assumption | decide | omega | exact ⟨Or.inl (by assumption), by assumption⟩ | exact ⟨by assumption, by assumption⟩ | (simp only [r0, r1, e3, e4, p1, p2, q1, q2, n4, pr_i_0, pr_i_1, pr_i_4]; first | assumption | omega | exact ⟨by assumption, by assumption⟩ | exact ⟨Or.inl (by assumption), by assumption⟩))⟩, (by first | assumption | decide | omega | exact ⟨Or.inl (by assumption), by assumption⟩ | exact ⟨by assumption, by assumption⟩ | (simp only [r0, r1, e3, e4, p1, p2, q1, q2, n4, pr_i_0, pr_i_1, pr_i_4]; first | assumption | omega | exact ⟨by assumption, by assumption⟩ | exact ⟨Or.inl (by assumption), by assumption⟩))⟩, trivial⟩, (by first | assumption | decide | omega | exact ⟨Or.inl (by assumption), by assumption⟩ | exact ⟨by assumption, by assumption⟩ | (simp only [r0, r1, e3, e4, p1, p2, q1, q2, n4, pr_i_0, pr_i_1, pr_i_4]; first | assumption | omega | exact ⟨by assumption, by assumption⟩ | exact ⟨Or.inl (by assumption), by assumption⟩))⟩, trivial⟩ ?_
            try simp only [r0, r1, e3, e4, p1, p2, q1, q2, n4, pr_i_0, pr_i_1, pr_i_4]
            refine pr_ic rfl (fun h22 => ?_) (fun h22 => ?_)
            · simp only [ab_cmp, pr_i_0, pr_i_1, pr_i_4] at h22
              refine pr_seq (pc' := 45) 1 rfl ⟨trivial, trivial⟩ ?_
              try simp only [r0, r1, e3, e4, p1, p2, q1, q2, n4, pr_i_0, pr_i_1, pr_i_4]
              exact pr_irM rfl (by simp [pr_b, t1, t2, t3]) (by first | exact Or.inl rfl | exact Or.inr rfl | exact pr_b01 _ | assumption) (by rfl)
            · simp only [ab_cmp, pr_i_0, pr_i_1, pr_i_4] at h22
              exact absurd y3 h22
      · have y3 : ¬ nI (K q) = nI 4 := fun z => t3 (x3.mp z)
        by_cases t4 : S p = S q
        · refine pr_seq (pc' := 2) 2 rfl ⟨⟨trivial, trivial⟩, trivial⟩ ?_
          try simp only [r0, r1, e3, e4, p1, p2, q1, q2, n4, pr_i_0, pr_i_1, pr_i_4]
          refine pr_ic rfl (fun h2 => ?_) (fun h2 => ?_)
          · simp only [ab_cmp, pr_i_0, pr_i_1, pr_i_4] at h2
            exact absurd h2 y1
          · simp only [ab_cmp, pr_i_0, pr_i_1, pr_i_4] at h2
            refine pr_seq (pc' := 12) 5 rfl ⟨⟨⟨⟨⟨trivial, (by first | assumption | decide | omega | exact ⟨Or.inl (by assumption), by assumption⟩ | exact ⟨by assumption, by assumption⟩ | (simp only [r0, r1, e3, e4, p1, p2, q1, q2, n4, pr_i_0, pr_i_1, pr_i_4]; first | assumption | omega | exact ⟨by assumption, by assumption⟩ | exact ⟨Or.inl (by assumption), by assumption⟩))⟩, (by first | assumption | decide | omega | exact ⟨Or.inl (by assumption), by assumption⟩ | exact ⟨by assumption, by assumption⟩ | (simp only [r0, r1, e3, e4, p1, p2, q1, q2, n4, pr_i_0, pr_i_1, pr_i_4]; first | assumption | omega | exact ⟨by assumption, by assumption⟩ | exact ⟨Or.inl (by assumption), by assumption⟩))⟩, trivial⟩, (by first | assumption | decide | omega | exact ⟨Or.inl (by assumption), by assumption⟩ | exact ⟨by assumption, by assumption⟩ | (simp only [r0, r1, e3, e4, p1, p2, q1, q2, n4, pr_i_0, pr_i_1, pr_i_4]; first | assumption | omega | exact ⟨by assumption, by assumption⟩ | exact ⟨Or.inl (by assumption), by assumption⟩))⟩, trivial⟩ ?_
            try simp only [r0, r1, e3, e4, p1, p2, q1, q2, n4, pr_i_0, pr_i_1, pr_i_4]
            refine pr_ic rfl (fun h12 => ?_) (fun h12 => ?_)
            · simp only [ab_cmp, pr_i_0, pr_i_1, pr_i_4] at h12
              exact absurd h12 y2
            · simp only [ab_cmp, pr_i_0, pr_i_1, pr_i_4] at h12
              refine pr_seq (pc' := 22) 5 rfl ⟨⟨⟨⟨⟨trivial, (by first | assumption | decide | omega | exact ⟨Or.inl (by assumption), by assumption⟩ | exact ⟨by assumption, by assumption⟩ | (simp only [r0, r1, e3, e4, p1, p2, q1, q2, n4, pr_i_0, pr_i_1, pr_i_4]; first | assumption | omega | exact ⟨by assumption, by assumption⟩ | exact ⟨Or.inl (by assumption), by assumption⟩))⟩, (by first | assumption | decide | omega | exact ⟨Or.inl (by assumption), by assumption⟩ | exact ⟨by assumption, by assumption⟩ | (simp only [r0, r1, e3, e4, p1, p2, q1, q2, n4, pr_i_0, pr_i_1, pr_i_4]; first | assumption | omega | exact ⟨by assumption, by assumption⟩ | exact ⟨Or.inl (by assumption), by assumption⟩))⟩, trivial⟩, (by first | assumption | decide | omega | exact ⟨Or.inl (by assumption), by assumption⟩ | exact ⟨by assumption, by assumption⟩ | (simp only [r0, r1, e3, e4, p1, p2, q1, q2, n4, pr_i_0, pr_i_1, pr_i_4]; first | assumption | omega | exact ⟨by assumption, by assumption⟩ | exact ⟨Or.inl (by assumption), by assumption⟩))⟩, trivial⟩ ?_
              try simp only [r0, r1, e3, e4, p1, p2, q1, q2, n4, pr_i_0, pr_i_1, pr_i_4]
              refine pr_ic rfl (fun h22 => ?_) (fun h22 => ?_)
              · simp only [ab_cmp, pr_i_0, pr_i_1, pr_i_4] at h22
                exact absurd h22 y3
              · simp only [ab_cmp, pr_i_0, pr_i_1, pr_i_4] at h22
                refine pr_seq (pc' := 37) 8 rfl ⟨⟨⟨⟨⟨⟨⟨⟨trivial, (by first | assumption | decide | omega | exact ⟨Or.inl (by assumption), by assumption⟩ | exact ⟨by assumption, by assumption⟩ | (simp only [r0, r1, e3, e4, p1, p2, q1, q2, n4, pr_i_0, pr_i_1, pr_i_4]; first | assumption | omega | exact ⟨by assumption, by assumption⟩ | exact ⟨Or.inl (by assumption), by assumption⟩))⟩, (by first | assumption | decide | omega | exact ⟨Or.inl (by assumption), by assumption⟩ | exact ⟨by assumption, by assumption⟩ | (simp only [r0, r1, e3, e4, p1, p2, q1, q2, n4, pr_i_0, pr_i_1, pr_i_4]; first | assumption | omega | exact ⟨by assumption, by assumption⟩ | exact ⟨Or.inl (by assumption), by assumption⟩))⟩, trivial⟩, (by first | assumption | decide | omega | exact ⟨Or.inl (by assumption), by assumption⟩ | exact ⟨by assumption, by assumption⟩ | (simp only [r0, r1, e3, e4, p1, p2, q1, q2, n4, pr_i_0, pr_i_1, pr_i_4]; first | assumption | omega | exact ⟨by assumption, by assumption⟩ | exact ⟨Or.inl (by assumption), by assumption⟩))⟩, (by first | assumption | decide | omega | exact ⟨Or.inl (by assumption), by assumption⟩ | exact ⟨by assumption, by assumption⟩ | (simp only [r0, r1, e3, e4, p1, p2, q1, q2, n4, pr_i_0, pr_i_1, pr_i_4]; first | assumption | omega | exact ⟨by assumption, by assumption⟩ | exact ⟨Or.inl (by assumption), by assumption⟩))⟩, (by first | assumption | decide | omega | exact ⟨Or.inl (by assumption), by assumption⟩ | exact ⟨by assumption, by assumption⟩ | (simp only [r0, r1, e3, e4, p1, p2, q1, q2, n4, pr_i_0, pr_i_1, pr_i_4]; first | assumption | omega | exact ⟨by assumption, by assumption⟩ | exact ⟨Or.inl (by assumption), by assumption⟩))⟩, trivial⟩, (by first | assumption | decide | omega | exact ⟨Or.inl (by assumption), by assumption⟩ | exact ⟨by assumption, by assumption⟩ | (simp only [r0, r1, e3, e4, p1, p2, q1, q2, n4, pr_i_0, pr_i_1, pr_i_4]; first | assumption | omega | exact ⟨by assumption, by assumption⟩ | exact ⟨Or.inl (by assumption), by assumption⟩))⟩ ?_
                try simp only [r0, r1, e3, e4, p1, p2, q1, q2, n4, pr_i_0, pr_i_1, pr_i_4]
                refine pr_ic rfl (fun h37 => ?_) (fun h37 => ?_)
                · simp only [ab_cmp, pr_i_0, pr_i_1, pr_i_4] at h37
                  exact absurd t4 h37
                · simp only [ab_cmp, pr_i_0, pr_i_1, pr_i_4] at h37
                  refine pr_seq (pc' := 45) 2 rfl ⟨⟨trivial, trivial⟩, trivial⟩ ?_
                  try simp only [r0, r1, e3, e4, p1, p2, q1, q2, n4, pr_i_0, pr_i_1, pr_i_4]
                  exact pr_irM rfl (by simp [pr_b, t1, t2, t3, t4]) (by first | exact Or.inl rfl | exact Or.inr rfl | exact pr_b01 _ | assumption) (by rfl)
        · refine pr_seq (pc' := 2) 2 rfl ⟨⟨trivial, trivial⟩, trivial⟩ ?_
          try simp only [r0, r1, e3, e4, p1, p2, q1, q2, n4, pr_i_0, pr_i_1, pr_i_4]
          refine pr_ic rfl (fun h2 => ?_) (fun h2 => ?_)
          · simp only [ab_cmp, pr_i_0, pr_i_1, pr_i_4] at h2
            exact absurd h2 y1
          · simp only [ab_cmp, pr_i_0, pr_i_1, pr_i_4] at h2
            refine pr_seq (pc' := 12) 5 rfl ⟨⟨⟨⟨⟨trivial, (by first | assumption | decide | omega | exact ⟨Or.inl (by assumption), by assumption⟩ | exact ⟨by assumption, by assumption⟩ | (simp only [r0, r1, e3, e4, p1, p2, q1, q2, n4, pr_i_0, pr_i_1, pr_i_4]; first | assumption | omega | exact ⟨by assumption, by assumption⟩ | exact ⟨Or.inl (by assumption), by assumption⟩))⟩, (by first | assumption | decide | omega | exact ⟨Or.inl (by assumption), by assumption⟩ | exact ⟨by assumption, by assumption⟩ | (simp only [r0, r1, e3, e4, p1, p2, q1, q2, n4, pr_i_0, pr_i_1, pr_i_4]; first | assumption | omega | exact ⟨by assumption, by assumption⟩ | exact ⟨Or.inl (by assumption), by assumption⟩))⟩, trivial⟩, (by first | assumption | decide | omega | exact ⟨Or.inl (by assumption), by assumption⟩ | exact ⟨by assumption, by assumption⟩ | (simp only [r0, r1, e3, e4, p1, p2, q1, q2, n4, pr_i_0, pr_i_1, pr_i_4]; first | assumption | omega | exact ⟨by assumption, by assumption⟩ | exact ⟨Or.inl (by assumption), by assumption⟩))⟩, trivial⟩ ?_
            try simp only [r0, r1, e3, e4, p1, p2, q1, q2, n4, pr_i_0, pr_i_1, pr_i_4]
            refine pr_ic rfl (fun h12 => ?_) (fun h12 => ?_)
            · simp only [ab_cmp, pr_i_0, pr_i_1, pr_i_4] at h12
              exact absurd h12 y2
            · simp only [ab_cmp, pr_i_0, pr_i_1, pr_i_4] at h12
              refine pr_seq (pc' := 22) 5 rfl ⟨⟨⟨⟨⟨trivial, (by first | assumption | decide | omega | exact ⟨Or.inl (by assumption), by assumption⟩ | exact ⟨by assumption, by assumption⟩ | (simp only [r0, r1, e3, e4, p1, p2, q1, q2, n4, pr_i_0, pr_i_1, pr_i_4]; first | assumption | omega | exact ⟨by assumption, by assumption⟩ | exact ⟨Or.inl (by assumption), by assumption⟩))⟩, (by first | assumption | decide | omega | exact ⟨Or.inl (by assumption), by assumption⟩ | exact ⟨by assumption, by assumption⟩ | (simp only [r0, r1, e3, e4, p1, p2, q1, q2, n4, pr_i_0, pr_i_1, pr_i_4]; first | assumption | omega | exact ⟨by assumption, by assumption⟩ | exact ⟨Or.inl (by assumption), by assumption⟩))⟩, trivial⟩, (by first | assumption | decide | omega | exact ⟨Or.inl (by assumption), by assumption⟩ | exact ⟨by assumption, by assumption⟩ | (simp only [r0, r1, e3, e4, p1, p2, q1, q2, n4, pr_i_0, pr_i_1, pr_i_4]; first | assumption | omega | exact ⟨by assumption, by assumption⟩ | exact ⟨Or.inl (by assumption), by assumption⟩))⟩, trivial⟩ ?_
              try simp only [r0, r1, e3, e4, p1, p2, q1, q2, n4, pr_i_0, pr_i_1, pr_i_4]
              refine pr_ic rfl (fun h22 => ?_) (fun h22 => ?_)
              · simp only [ab_cmp, pr_i_0, pr_i_1, pr_i_4] at h22
                exact absurd h22 y3
              · simp only [ab_cmp, pr_i_0, pr_i_1, pr_i_4] at h22
                refine pr_seq (pc' := 37) 8 rfl ⟨⟨⟨⟨⟨⟨⟨⟨trivial, (by first | assumption | decide | omega | exact ⟨Or.inl (by assumption), by assumption⟩ | exact ⟨by assumption, by assumption⟩ | (simp only [r0, r1, e3, e4, p1, p2, q1, q2, n4, pr_i_0, pr_i_1, pr_i_4]; first | assumption | omega | exact ⟨by assumption, by assumption⟩ | exact ⟨Or.inl (by assumption), by assumption⟩))⟩, (by first | assumption | decide | omega | exact ⟨Or.inl (by assumption), by assumption⟩ | exact ⟨by assumption, by assumption⟩ | (simp only [r0, r1, e3, e4, p1, p2, q1, q2, n4, pr_i_0, pr_i_1, pr_i_4]; first | assumption | omega | exact ⟨by assumption, by assumption⟩ | exact ⟨Or.inl (by assumption), by assumption⟩))⟩, trivial⟩, (by first | assumption | decide | omega | exact ⟨Or.inl (by assumption), by assumption⟩ | exact ⟨by assumption, by assumption⟩ | (simp only [r0, r1, e3, e4, p1, p2, q1, q2, n4, pr_i_0, pr_i_1, pr_i_4]; first | assumption | omega | exact ⟨by assumption, by assumption⟩ | exact ⟨Or.inl (by assumption), by assumption⟩))⟩, (by first | assumption | decide | omega | exact ⟨Or.inl (by assumption), by assumption⟩ | exact ⟨by assumption, by assumption⟩ | (simp only [r0, r1, e3, e4, p1, p2, q1, q2, n4, pr_i_0, pr_i_1, pr_i_4]; first | assumption | omega | exact ⟨by assumption, by assumption⟩ | exact ⟨Or.inl (by assumption), by assumption⟩))⟩, (by first | assumption | decide | omega | exact ⟨Or.inl (by assumption), by assumption⟩ | exact ⟨by assumption, by assumption⟩ | (simp only [r0, r1, e3, e4, p1, p2, q1, q2, n4, pr_i_0, pr_i_1, pr_i_4]; first | assumption | omega | exact ⟨by assumption, by assumption⟩ | exact ⟨Or.inl (by assumption), by assumption⟩))⟩, trivial⟩, (by first | assumption | decide | omega | exact ⟨Or.inl (by assumption), by assumption⟩ | exact ⟨by assumption, by assumption⟩ | (simp only [r0, r1, e3, e4, p1, p2, q1, q2, n4, pr_i_0, pr_i_1, pr_i_4]; first | assumption | omega | exact ⟨by assumption, by assumption⟩ | exact ⟨Or.inl (by assumption), by assumption⟩))⟩ ?_
                try simp only [r0, r1, e3, e4, p1, p2, q1, q2, n4, pr_i_0, pr_i_1, pr_i_4]
                refine pr_ic rfl (fun h37 => ?_) (fun h37 => ?_)
                · simp only [ab_cmp, pr_i_0, pr_i_1, pr_i_4] at h37
                  refine pr_seq (pc' := 45) 1 rfl ⟨trivial, trivial⟩ ?_
                  try simp only [r0, r1, e3, e4, p1, p2, q1, q2, n4, pr_i_0, pr_i_1, pr_i_4]
                  exact pr_irM rfl (by simp [pr_b, t1, t2, t3, t4]) (by first | exact Or.inl rfl | exact Or.inr rfl | exact pr_b01 _ | assumption) (by rfl)
                · simp only [ab_cmp, pr_i_0, pr_i_1, pr_i_4] at h37
                  exact absurd (Classical.not_not.mp h37) t4
/-- a mask, a count, none below -/
def mk (f : Nat → Bool) : Nat → Int32
  | 0 => 0
  | n + 1 => if f n then mk f n ||| ((1 : Int32) <<< (nI n &&& 31)) else mk f n
def cnt (f : Nat → Bool) : Nat → Nat
  | 0 => 0
  | n + 1 => cnt f n + (if f n then 1 else 0)
def nb (f : Nat → Bool) : Nat → Bool
  | 0 => true
  | n + 1 => nb f n && !f n
theorem mk_s1 {f : Nat → Bool} {n : Nat} (h : f n = true) : mk f (n + 1) = mk f n ||| ((1 : Int32) <<< (nI n &&& 31)) := by
  show (if f n then _ else _) = _
  rw [if_pos h]
theorem mk_s0 {f : Nat → Bool} {n : Nat} (h : f n = false) : mk f (n + 1) = mk f n := by
  show (if f n then _ else _) = _
  rw [if_neg (by rw [h]; decide)]
theorem cnt_s1 {f : Nat → Bool} {n : Nat} (h : f n = true) : cnt f (n + 1) = cnt f n + 1 := by
  show cnt f n + (if f n then 1 else 0) = _
  rw [if_pos h]
theorem cnt_s0 {f : Nat → Bool} {n : Nat} (h : f n = false) : cnt f (n + 1) = cnt f n := by
  show cnt f n + (if f n then 1 else 0) = _
  rw [if_neg (by rw [h]; decide), Nat.add_zero]
theorem nb_false {f : Nat → Bool} {q : Nat} (h : f q = true) : ∀ n, q < n → nb f n = false := by
  intro n
  induction n with
  | zero => intro hq; omega
  | succ n ih =>
    intro hq
    unfold nb
    by_cases e : q = n
    · subst e; rw [h]; simp
    · rw [ih (by omega)]; rfl
theorem cnt_le (f : Nat → Bool) : ∀ n, cnt f n ≤ n := by
  intro n
  induction n with
  | zero => exact Nat.le_refl _
  | succ n ih =>
    unfold cnt
    split <;> omega
theorem c_onesOf {c n p : Nat} {S : Nat → Int32} {K Dt Wl : Nat → Nat} (h : ab_H) (M : ab_M) (hc : pr_Cs h M.2.2 c) (hv : cs_v M.1 c n S K Dt Wl) (hp : p < n) : pr_C pX0_onesOf [.ref c, .int (nI p)] h M (some (.int (mk (al S K p) n))) h M := by
  obtain ⟨c0, c1, -⟩ := id hc
  obtain ⟨v1, v2, v3⟩ := id hv
  have loop : ∀ dd k, k + dd = n → pr_E pX0_onesOf 4 [some (.ref c), some (.int (nI p)), some (.int (mk (al S K p) k)), some (.int (nI k))] [] h M (some (.int (mk (al S K p) n))) h M := by
    intro dd
    induction dd with
    | zero =>
      intro k hk
      obtain rfl : k = n := by omega
      have e1 : nI k ≤ nI k := nI_le (Nat.le_refl _) (by omega)
      refine pr_seq (pc' := 9) 3 rfl ⟨⟨⟨trivial, trivial⟩, (by first | assumption | decide | omega | exact ⟨Or.inl (by assumption), by assumption⟩ | exact ⟨by assumption, by assumption⟩ | (simp only [v1, pr_i_0, pr_i_1]; first | assumption | omega | exact ⟨by assumption, by assumption⟩ | exact ⟨Or.inl (by assumption), by assumption⟩))⟩, (by first | assumption | decide | omega | exact ⟨Or.inl (by assumption), by assumption⟩ | exact ⟨by assumption, by assumption⟩ | (simp only [v1, pr_i_0, pr_i_1]; first | assumption | omega | exact ⟨by assumption, by assumption⟩ | exact ⟨Or.inl (by assumption), by assumption⟩))⟩ ?_
      try simp only [v1, pr_i_0, pr_i_1]
      refine pr_ic rfl (fun h9 => ?_) (fun h9 => ?_)
      · simp only [ab_cmp, pr_i_0, pr_i_1] at h9
        refine pr_seq (pc' := 34) 1 rfl ⟨trivial, trivial⟩ ?_
        try simp only [v1, pr_i_0, pr_i_1]
        exact pr_irM rfl (by rfl) trivial (by rfl)
      · simp only [ab_cmp, pr_i_0, pr_i_1] at h9
        exact absurd e1 h9
    | succ dd ih =>
      intro k hk
      have e1 : ¬ nI n ≤ nI k := nI_ge (by omega) (by omega)
      have ha := c_alike h M hc hv hp (show k < n by omega)
      have hh := ih (k + 1) (by omega)
      rw [← nI_1] at hh
      cases hf : al S K p k with
      | true =>
        rw [hf] at ha
        rw [mk_s1 hf] at hh
        refine pr_seq (pc' := 9) 3 rfl ⟨⟨⟨trivial, trivial⟩, (by first | assumption | decide | omega | exact ⟨Or.inl (by assumption), by assumption⟩ | exact ⟨by assumption, by assumption⟩ | (simp only [v1, pr_i_0, pr_i_1]; first | assumption | omega | exact ⟨by assumption, by assumption⟩ | exact ⟨Or.inl (by assumption), by assumption⟩))⟩, (by first | assumption | decide | omega | exact ⟨Or.inl (by assumption), by assumption⟩ | exact ⟨by assumption, by assumption⟩ | (simp only [v1, pr_i_0, pr_i_1]; first | assumption | omega | exact ⟨by assumption, by assumption⟩ | exact ⟨Or.inl (by assumption), by assumption⟩))⟩ ?_
        try simp only [v1, pr_i_0, pr_i_1]
        refine pr_ic rfl (fun h9 => ?_) (fun h9 => ?_)
        · simp only [ab_cmp, pr_i_0, pr_i_1] at h9
          exact absurd h9 e1
        · simp only [ab_cmp, pr_i_0, pr_i_1] at h9
          refine pr_seq (pc' := 15) 3 rfl ⟨⟨⟨trivial, (by first | assumption | decide | omega | exact ⟨Or.inl (by assumption), by assumption⟩ | exact ⟨by assumption, by assumption⟩ | (simp only [v1, pr_i_0, pr_i_1]; first | assumption | omega | exact ⟨by assumption, by assumption⟩ | exact ⟨Or.inl (by assumption), by assumption⟩))⟩, trivial⟩, trivial⟩ ?_
          try simp only [v1, pr_i_0, pr_i_1]
          refine pr_cv [_, _] rfl rfl rfl rfl rfl (Nat.le_of_ble_eq_true rfl) (by first | assumption | decide | omega | exact ⟨Or.inl (by assumption), by assumption⟩ | exact ⟨by assumption, by assumption⟩ | (simp only [v1, pr_i_0, pr_i_1]; first | assumption | omega | exact ⟨by assumption, by assumption⟩ | exact ⟨Or.inl (by assumption), by assumption⟩)) (Nat.le_of_ble_eq_true rfl) (ha) ?_
          refine pr_if rfl (fun h18 => ?_) (fun h18 => ?_)
          · simp only [ab_cmp, pr_i_0, pr_i_1] at h18
            exact absurd h18 (by decide)
          · simp only [ab_cmp, pr_i_0, pr_i_1] at h18
            refine pr_seq (pc' := 4) 8 rfl ⟨⟨⟨⟨⟨⟨⟨⟨trivial, trivial⟩, trivial⟩, trivial⟩, trivial⟩, trivial⟩, trivial⟩, trivial⟩, trivial⟩ ?_
            try simp only [v1, pr_i_0, pr_i_1]
            exact hh
      | false =>
        rw [hf] at ha
        rw [mk_s0 hf] at hh
        refine pr_seq (pc' := 9) 3 rfl ⟨⟨⟨trivial, trivial⟩, (by first | assumption | decide | omega | exact ⟨Or.inl (by assumption), by assumption⟩ | exact ⟨by assumption, by assumption⟩ | (simp only [v1, pr_i_0, pr_i_1]; first | assumption | omega | exact ⟨by assumption, by assumption⟩ | exact ⟨Or.inl (by assumption), by assumption⟩))⟩, (by first | assumption | decide | omega | exact ⟨Or.inl (by assumption), by assumption⟩ | exact ⟨by assumption, by assumption⟩ | (simp only [v1, pr_i_0, pr_i_1]; first | assumption | omega | exact ⟨by assumption, by assumption⟩ | exact ⟨Or.inl (by assumption), by assumption⟩))⟩ ?_
        try simp only [v1, pr_i_0, pr_i_1]
        refine pr_ic rfl (fun h9 => ?_) (fun h9 => ?_)
        · simp only [ab_cmp, pr_i_0, pr_i_1] at h9
          exact absurd h9 e1
        · simp only [ab_cmp, pr_i_0, pr_i_1] at h9
          refine pr_seq (pc' := 15) 3 rfl ⟨⟨⟨trivial, (by first | assumption | decide | omega | exact ⟨Or.inl (by assumption), by assumption⟩ | exact ⟨by assumption, by assumption⟩ | (simp only [v1, pr_i_0, pr_i_1]; first | assumption | omega | exact ⟨by assumption, by assumption⟩ | exact ⟨Or.inl (by assumption), by assumption⟩))⟩, trivial⟩, trivial⟩ ?_
          try simp only [v1, pr_i_0, pr_i_1]
          refine pr_cv [_, _] rfl rfl rfl rfl rfl (Nat.le_of_ble_eq_true rfl) (by first | assumption | decide | omega | exact ⟨Or.inl (by assumption), by assumption⟩ | exact ⟨by assumption, by assumption⟩ | (simp only [v1, pr_i_0, pr_i_1]; first | assumption | omega | exact ⟨by assumption, by assumption⟩ | exact ⟨Or.inl (by assumption), by assumption⟩)) (Nat.le_of_ble_eq_true rfl) (ha) ?_
          refine pr_if rfl (fun h18 => ?_) (fun h18 => ?_)
          · simp only [ab_cmp, pr_i_0, pr_i_1] at h18
            refine pr_seq (pc' := 4) 2 rfl ⟨⟨trivial, trivial⟩, trivial⟩ ?_
            try simp only [v1, pr_i_0, pr_i_1]
            exact hh
          · simp only [ab_cmp, pr_i_0, pr_i_1] at h18
            exact absurd rfl h18
  refine pr_seq (pc' := 4) 4 rfl ⟨⟨⟨⟨trivial, trivial⟩, trivial⟩, trivial⟩, trivial⟩ ?_
  exact loop n 0 (by omega)
theorem c_leads {c n p : Nat} {S : Nat → Int32} {K Dt Wl : Nat → Nat} (h : ab_H) (M : ab_M) (hc : pr_Cs h M.2.2 c) (hv : cs_v M.1 c n S K Dt Wl) (hp : p < n) : pr_C pX0_leads [.ref c, .int (nI p)] h M (some (.int (pr_b (nb (al S K p) p)))) h M := by
  obtain ⟨c0, c1, -⟩ := id hc
  obtain ⟨v1, v2, v3⟩ := id hv
  have loop : ∀ dd k, k + dd = p → nb (al S K p) k = true → pr_E pX0_leads 2 [some (.ref c), some (.int (nI p)), some (.int (nI k))] [] h M (some (.int (pr_b (nb (al S K p) p)))) h M := by
    intro dd
    induction dd with
    | zero =>
      intro k hk hn
      obtain rfl : k = p := by omega
      have e1 : nI k ≤ nI k := nI_le (Nat.le_refl _) (by omega)
      rw [hn]
      refine pr_seq (pc' := 4) 2 rfl ⟨⟨trivial, trivial⟩, trivial⟩ ?_
      refine pr_ic rfl (fun h4 => ?_) (fun h4 => ?_)
      · simp only [ab_cmp, pr_i_0, pr_i_1] at h4
        refine pr_seq (pc' := 25) 1 rfl ⟨trivial, trivial⟩ ?_
        exact pr_irM rfl (by rfl) (by first | exact Or.inl rfl | exact Or.inr rfl | exact pr_b01 _ | assumption) (by rfl)
      · simp only [ab_cmp, pr_i_0, pr_i_1] at h4
        exact absurd e1 h4
    | succ dd ih =>
      intro k hk hn
      have e1 : ¬ nI p ≤ nI k := nI_ge (by omega) (by omega)
      have ha := c_alike h M hc hv hp (show k < n by omega)
      cases hf : al S K p k with
      | true =>
        rw [nb_false hf p (by omega)]
        rw [hf] at ha
        refine pr_seq (pc' := 4) 2 rfl ⟨⟨trivial, trivial⟩, trivial⟩ ?_
        refine pr_ic rfl (fun h4 => ?_) (fun h4 => ?_)
        · simp only [ab_cmp, pr_i_0, pr_i_1] at h4
          exact absurd h4 e1
        · simp only [ab_cmp, pr_i_0, pr_i_1] at h4
          refine pr_seq (pc' := 10) 3 rfl ⟨⟨⟨trivial, (by first | assumption | decide | omega | exact ⟨Or.inl (by assumption), by assumption⟩ | exact ⟨by assumption, by assumption⟩)⟩, trivial⟩, trivial⟩ ?_
          refine pr_cv [_, _] rfl rfl rfl rfl rfl (Nat.le_of_ble_eq_true rfl) (by first | assumption | decide | omega | exact ⟨Or.inl (by assumption), by assumption⟩ | exact ⟨by assumption, by assumption⟩) (Nat.le_of_ble_eq_true rfl) (ha) ?_
          refine pr_if rfl (fun h13 => ?_) (fun h13 => ?_)
          · simp only [ab_cmp, pr_i_0, pr_i_1] at h13
            exact absurd h13 (by decide)
          · simp only [ab_cmp, pr_i_0, pr_i_1] at h13
            refine pr_seq (pc' := 17) 1 rfl ⟨trivial, trivial⟩ ?_
            exact pr_irM rfl (by rfl) (by first | exact Or.inl rfl | exact Or.inr rfl | exact pr_b01 _ | assumption) (by rfl)
      | false =>
        have hh := ih (k + 1) (by omega) (by unfold nb; rw [hn, hf]; rfl)
        rw [← nI_1] at hh
        rw [hf] at ha
        refine pr_seq (pc' := 4) 2 rfl ⟨⟨trivial, trivial⟩, trivial⟩ ?_
        refine pr_ic rfl (fun h4 => ?_) (fun h4 => ?_)
        · simp only [ab_cmp, pr_i_0, pr_i_1] at h4
          exact absurd h4 e1
        · simp only [ab_cmp, pr_i_0, pr_i_1] at h4
          refine pr_seq (pc' := 10) 3 rfl ⟨⟨⟨trivial, (by first | assumption | decide | omega | exact ⟨Or.inl (by assumption), by assumption⟩ | exact ⟨by assumption, by assumption⟩)⟩, trivial⟩, trivial⟩ ?_
          refine pr_cv [_, _] rfl rfl rfl rfl rfl (Nat.le_of_ble_eq_true rfl) (by first | assumption | decide | omega | exact ⟨Or.inl (by assumption), by assumption⟩ | exact ⟨by assumption, by assumption⟩) (Nat.le_of_ble_eq_true rfl) (ha) ?_
          refine pr_if rfl (fun h13 => ?_) (fun h13 => ?_)
          · simp only [ab_cmp, pr_i_0, pr_i_1] at h13
            refine pr_seq (pc' := 2) 2 rfl ⟨⟨trivial, trivial⟩, trivial⟩ ?_
            exact hh
          · simp only [ab_cmp, pr_i_0, pr_i_1] at h13
            exact absurd rfl h13
  refine pr_seq (pc' := 2) 2 rfl ⟨⟨trivial, trivial⟩, trivial⟩ ?_
  exact loop p 0 (by omega) rfl
theorem c_howMany {c n : Nat} {S : Nat → Int32} {K Dt Wl : Nat → Nat} (h : ab_H) (M : ab_M) (hc : pr_Cs h M.2.2 c) (hv : cs_v M.1 c n S K Dt Wl) : pr_C pX0_howMany [.ref c] h M (some (.int (nI (cnt (fun p => nb (al S K p) p) n)))) h M := by
  obtain ⟨c0, c1, -⟩ := id hc
  obtain ⟨v1, v2, v3⟩ := id hv
  have loop : ∀ dd k, k + dd = n → pr_E pX0_howMany 4 [some (.ref c), some (.int (nI (cnt (fun p => nb (al S K p) p) k))), some (.int (nI k))] [] h M (some (.int (nI (cnt (fun p => nb (al S K p) p) n)))) h M := by
    intro dd
    induction dd with
    | zero =>
      intro k hk
      obtain rfl : k = n := by omega
      have e1 : nI k ≤ nI k := nI_le (Nat.le_refl _) (by omega)
      refine pr_seq (pc' := 9) 3 rfl ⟨⟨⟨trivial, trivial⟩, (by first | assumption | decide | omega | exact ⟨Or.inl (by assumption), by assumption⟩ | exact ⟨by assumption, by assumption⟩ | (simp only [v1, pr_i_0, pr_i_1]; first | assumption | omega | exact ⟨by assumption, by assumption⟩ | exact ⟨Or.inl (by assumption), by assumption⟩))⟩, (by first | assumption | decide | omega | exact ⟨Or.inl (by assumption), by assumption⟩ | exact ⟨by assumption, by assumption⟩ | (simp only [v1, pr_i_0, pr_i_1]; first | assumption | omega | exact ⟨by assumption, by assumption⟩ | exact ⟨Or.inl (by assumption), by assumption⟩))⟩ ?_
      try simp only [v1, pr_i_0, pr_i_1]
      refine pr_ic rfl (fun h9 => ?_) (fun h9 => ?_)
      · simp only [ab_cmp, pr_i_0, pr_i_1] at h9
        refine pr_seq (pc' := 30) 1 rfl ⟨trivial, trivial⟩ ?_
        try simp only [v1, pr_i_0, pr_i_1]
        exact pr_irM rfl (by rfl) trivial (by rfl)
      · simp only [ab_cmp, pr_i_0, pr_i_1] at h9
        exact absurd e1 h9
    | succ dd ih =>
      intro k hk
      have e1 : ¬ nI n ≤ nI k := nI_ge (by omega) (by omega)
      have ha := c_leads h M hc hv (show k < n by omega)
      have hh := ih (k + 1) (by omega)
      rw [← nI_1] at hh
      cases hf : nb (al S K k) k with
      | true =>
        rw [hf] at ha
        rw [cnt_s1 (f := fun p => nb (al S K p) p) hf, ← nI_1] at hh
        refine pr_seq (pc' := 9) 3 rfl ⟨⟨⟨trivial, trivial⟩, (by first | assumption | decide | omega | exact ⟨Or.inl (by assumption), by assumption⟩ | exact ⟨by assumption, by assumption⟩ | (simp only [v1, pr_i_0, pr_i_1]; first | assumption | omega | exact ⟨by assumption, by assumption⟩ | exact ⟨Or.inl (by assumption), by assumption⟩))⟩, (by first | assumption | decide | omega | exact ⟨Or.inl (by assumption), by assumption⟩ | exact ⟨by assumption, by assumption⟩ | (simp only [v1, pr_i_0, pr_i_1]; first | assumption | omega | exact ⟨by assumption, by assumption⟩ | exact ⟨Or.inl (by assumption), by assumption⟩))⟩ ?_
        try simp only [v1, pr_i_0, pr_i_1]
        refine pr_ic rfl (fun h9 => ?_) (fun h9 => ?_)
        · simp only [ab_cmp, pr_i_0, pr_i_1] at h9
          exact absurd h9 e1
        · simp only [ab_cmp, pr_i_0, pr_i_1] at h9
          refine pr_seq (pc' := 14) 2 rfl ⟨⟨trivial, (by first | assumption | decide | omega | exact ⟨Or.inl (by assumption), by assumption⟩ | exact ⟨by assumption, by assumption⟩ | (simp only [v1, pr_i_0, pr_i_1]; first | assumption | omega | exact ⟨by assumption, by assumption⟩ | exact ⟨Or.inl (by assumption), by assumption⟩))⟩, trivial⟩ ?_
          try simp only [v1, pr_i_0, pr_i_1]
          refine pr_cv [_] rfl rfl rfl rfl rfl (Nat.le_of_ble_eq_true rfl) (by first | assumption | decide | omega | exact ⟨Or.inl (by assumption), by assumption⟩ | exact ⟨by assumption, by assumption⟩ | (simp only [v1, pr_i_0, pr_i_1]; first | assumption | omega | exact ⟨by assumption, by assumption⟩ | exact ⟨Or.inl (by assumption), by assumption⟩)) (Nat.le_of_ble_eq_true rfl) (ha) ?_
          refine pr_if rfl (fun h17 => ?_) (fun h17 => ?_)
          · simp only [ab_cmp, pr_i_0, pr_i_1] at h17
            exact absurd h17 (by decide)
          · simp only [ab_cmp, pr_i_0, pr_i_1] at h17
            refine pr_seq (pc' := 4) 3 rfl ⟨⟨⟨trivial, trivial⟩, trivial⟩, trivial⟩ ?_
            try simp only [v1, pr_i_0, pr_i_1]
            exact hh
      | false =>
        rw [hf] at ha
        rw [cnt_s0 (f := fun p => nb (al S K p) p) hf] at hh
        refine pr_seq (pc' := 9) 3 rfl ⟨⟨⟨trivial, trivial⟩, (by first | assumption | decide | omega | exact ⟨Or.inl (by assumption), by assumption⟩ | exact ⟨by assumption, by assumption⟩ | (simp only [v1, pr_i_0, pr_i_1]; first | assumption | omega | exact ⟨by assumption, by assumption⟩ | exact ⟨Or.inl (by assumption), by assumption⟩))⟩, (by first | assumption | decide | omega | exact ⟨Or.inl (by assumption), by assumption⟩ | exact ⟨by assumption, by assumption⟩ | (simp only [v1, pr_i_0, pr_i_1]; first | assumption | omega | exact ⟨by assumption, by assumption⟩ | exact ⟨Or.inl (by assumption), by assumption⟩))⟩ ?_
        try simp only [v1, pr_i_0, pr_i_1]
        refine pr_ic rfl (fun h9 => ?_) (fun h9 => ?_)
        · simp only [ab_cmp, pr_i_0, pr_i_1] at h9
          exact absurd h9 e1
        · simp only [ab_cmp, pr_i_0, pr_i_1] at h9
          refine pr_seq (pc' := 14) 2 rfl ⟨⟨trivial, (by first | assumption | decide | omega | exact ⟨Or.inl (by assumption), by assumption⟩ | exact ⟨by assumption, by assumption⟩ | (simp only [v1, pr_i_0, pr_i_1]; first | assumption | omega | exact ⟨by assumption, by assumption⟩ | exact ⟨Or.inl (by assumption), by assumption⟩))⟩, trivial⟩ ?_
          try simp only [v1, pr_i_0, pr_i_1]
          refine pr_cv [_] rfl rfl rfl rfl rfl (Nat.le_of_ble_eq_true rfl) (by first | assumption | decide | omega | exact ⟨Or.inl (by assumption), by assumption⟩ | exact ⟨by assumption, by assumption⟩ | (simp only [v1, pr_i_0, pr_i_1]; first | assumption | omega | exact ⟨by assumption, by assumption⟩ | exact ⟨Or.inl (by assumption), by assumption⟩)) (Nat.le_of_ble_eq_true rfl) (ha) ?_
          refine pr_if rfl (fun h17 => ?_) (fun h17 => ?_)
          · simp only [ab_cmp, pr_i_0, pr_i_1] at h17
            refine pr_seq (pc' := 4) 2 rfl ⟨⟨trivial, trivial⟩, trivial⟩ ?_
            try simp only [v1, pr_i_0, pr_i_1]
            exact hh
          · simp only [ab_cmp, pr_i_0, pr_i_1] at h17
            exact absurd rfl h17
  refine pr_seq (pc' := 4) 4 rfl ⟨⟨⟨⟨trivial, trivial⟩, trivial⟩, trivial⟩, trivial⟩ ?_
  exact loop n 0 (by omega)
/-- one bit -/
abbrev bt1 (p : Nat) : Int32 := (1 : Int32) <<< (nI p &&& 31)
theorem c_loneOnes {c n : Nat} {S : Nat → Int32} {K Dt Wl : Nat → Nat} (h : ab_H) (M : ab_M) (hc : pr_Cs h M.2.2 c) (hv : cs_v M.1 c n S K Dt Wl) : pr_C pX0_loneOnes [.ref c] h M (some (.int (mk (fun p => decide (mk (al S K p) n = bt1 p)) n))) h M := by
  obtain ⟨c0, c1, -⟩ := id hc
  obtain ⟨v1, v2, v3⟩ := id hv
  have loop : ∀ dd k, k + dd = n → pr_E pX0_loneOnes 4 [some (.ref c), some (.int (mk (fun p => decide (mk (al S K p) n = bt1 p)) k)), some (.int (nI k))] [] h M (some (.int (mk (fun p => decide (mk (al S K p) n = bt1 p)) n))) h M := by
    intro dd
    induction dd with
    | zero =>
      intro k hk
      obtain rfl : k = n := by omega
      have e1 : nI k ≤ nI k := nI_le (Nat.le_refl _) (by omega)
      refine pr_seq (pc' := 9) 3 rfl ⟨⟨⟨trivial, trivial⟩, (by first | assumption | decide | omega | exact ⟨Or.inl (by assumption), by assumption⟩ | exact ⟨by assumption, by assumption⟩ | (simp only [v1, pr_i_0, pr_i_1]; first | assumption | omega | exact ⟨by assumption, by assumption⟩ | exact ⟨Or.inl (by assumption), by assumption⟩))⟩, (by first | assumption | decide | omega | exact ⟨Or.inl (by assumption), by assumption⟩ | exact ⟨by assumption, by assumption⟩ | (simp only [v1, pr_i_0, pr_i_1]; first | assumption | omega | exact ⟨by assumption, by assumption⟩ | exact ⟨Or.inl (by assumption), by assumption⟩))⟩ ?_
      try simp only [v1, pr_i_0, pr_i_1]
      refine pr_ic rfl (fun h9 => ?_) (fun h9 => ?_)
      · simp only [ab_cmp, pr_i_0, pr_i_1] at h9
        refine pr_seq (pc' := 36) 1 rfl ⟨trivial, trivial⟩ ?_
        try simp only [v1, pr_i_0, pr_i_1]
        exact pr_irM rfl (by rfl) trivial (by rfl)
      · simp only [ab_cmp, pr_i_0, pr_i_1] at h9
        exact absurd e1 h9
    | succ dd ih =>
      intro k hk
      have e1 : ¬ nI n ≤ nI k := nI_ge (by omega) (by omega)
      have ha := c_onesOf h M hc hv (show k < n by omega)
      have hh := ih (k + 1) (by omega)
      rw [← nI_1] at hh
      by_cases hf : mk (al S K k) n = bt1 k
      · rw [mk_s1 (decide_eq_true hf)] at hh
        refine pr_seq (pc' := 9) 3 rfl ⟨⟨⟨trivial, trivial⟩, (by first | assumption | decide | omega | exact ⟨Or.inl (by assumption), by assumption⟩ | exact ⟨by assumption, by assumption⟩ | (simp only [v1, pr_i_0, pr_i_1]; first | assumption | omega | exact ⟨by assumption, by assumption⟩ | exact ⟨Or.inl (by assumption), by assumption⟩))⟩, (by first | assumption | decide | omega | exact ⟨Or.inl (by assumption), by assumption⟩ | exact ⟨by assumption, by assumption⟩ | (simp only [v1, pr_i_0, pr_i_1]; first | assumption | omega | exact ⟨by assumption, by assumption⟩ | exact ⟨Or.inl (by assumption), by assumption⟩))⟩ ?_
        try simp only [v1, pr_i_0, pr_i_1]
        refine pr_ic rfl (fun h9 => ?_) (fun h9 => ?_)
        · simp only [ab_cmp, pr_i_0, pr_i_1] at h9
          exact absurd h9 e1
        · simp only [ab_cmp, pr_i_0, pr_i_1] at h9
          refine pr_seq (pc' := 14) 2 rfl ⟨⟨trivial, (by first | assumption | decide | omega | exact ⟨Or.inl (by assumption), by assumption⟩ | exact ⟨by assumption, by assumption⟩ | (simp only [v1, pr_i_0, pr_i_1]; first | assumption | omega | exact ⟨by assumption, by assumption⟩ | exact ⟨Or.inl (by assumption), by assumption⟩))⟩, trivial⟩ ?_
          try simp only [v1, pr_i_0, pr_i_1]
          refine pr_cv [_] rfl rfl rfl rfl rfl (Nat.le_of_ble_eq_true rfl) (by first | assumption | decide | omega | exact ⟨Or.inl (by assumption), by assumption⟩ | exact ⟨by assumption, by assumption⟩ | (simp only [v1, pr_i_0, pr_i_1]; first | assumption | omega | exact ⟨by assumption, by assumption⟩ | exact ⟨Or.inl (by assumption), by assumption⟩)) (Nat.le_of_ble_eq_true rfl) (ha) ?_
          refine pr_seq (pc' := 20) 3 rfl ⟨⟨⟨trivial, trivial⟩, trivial⟩, trivial⟩ ?_
          try simp only [v1, pr_i_0, pr_i_1]
          refine pr_ic rfl (fun h20 => ?_) (fun h20 => ?_)
          · simp only [ab_cmp, pr_i_0, pr_i_1] at h20
            exact absurd hf h20
          · simp only [ab_cmp, pr_i_0, pr_i_1] at h20
            refine pr_seq (pc' := 4) 8 rfl ⟨⟨⟨⟨⟨⟨⟨⟨trivial, trivial⟩, trivial⟩, trivial⟩, trivial⟩, trivial⟩, trivial⟩, trivial⟩, trivial⟩ ?_
            try simp only [v1, pr_i_0, pr_i_1]
            exact hh
      · rw [mk_s0 (decide_eq_false hf)] at hh
        refine pr_seq (pc' := 9) 3 rfl ⟨⟨⟨trivial, trivial⟩, (by first | assumption | decide | omega | exact ⟨Or.inl (by assumption), by assumption⟩ | exact ⟨by assumption, by assumption⟩ | (simp only [v1, pr_i_0, pr_i_1]; first | assumption | omega | exact ⟨by assumption, by assumption⟩ | exact ⟨Or.inl (by assumption), by assumption⟩))⟩, (by first | assumption | decide | omega | exact ⟨Or.inl (by assumption), by assumption⟩ | exact ⟨by assumption, by assumption⟩ | (simp only [v1, pr_i_0, pr_i_1]; first | assumption | omega | exact ⟨by assumption, by assumption⟩ | exact ⟨Or.inl (by assumption), by assumption⟩))⟩ ?_
        try simp only [v1, pr_i_0, pr_i_1]
        refine pr_ic rfl (fun h9 => ?_) (fun h9 => ?_)
        · simp only [ab_cmp, pr_i_0, pr_i_1] at h9
          exact absurd h9 e1
        · simp only [ab_cmp, pr_i_0, pr_i_1] at h9
          refine pr_seq (pc' := 14) 2 rfl ⟨⟨trivial, (by first | assumption | decide | omega | exact ⟨Or.inl (by assumption), by assumption⟩ | exact ⟨by assumption, by assumption⟩ | (simp only [v1, pr_i_0, pr_i_1]; first | assumption | omega | exact ⟨by assumption, by assumption⟩ | exact ⟨Or.inl (by assumption), by assumption⟩))⟩, trivial⟩ ?_
          try simp only [v1, pr_i_0, pr_i_1]
          refine pr_cv [_] rfl rfl rfl rfl rfl (Nat.le_of_ble_eq_true rfl) (by first | assumption | decide | omega | exact ⟨Or.inl (by assumption), by assumption⟩ | exact ⟨by assumption, by assumption⟩ | (simp only [v1, pr_i_0, pr_i_1]; first | assumption | omega | exact ⟨by assumption, by assumption⟩ | exact ⟨Or.inl (by assumption), by assumption⟩)) (Nat.le_of_ble_eq_true rfl) (ha) ?_
          refine pr_seq (pc' := 20) 3 rfl ⟨⟨⟨trivial, trivial⟩, trivial⟩, trivial⟩ ?_
          try simp only [v1, pr_i_0, pr_i_1]
          refine pr_ic rfl (fun h20 => ?_) (fun h20 => ?_)
          · simp only [ab_cmp, pr_i_0, pr_i_1] at h20
            refine pr_seq (pc' := 4) 2 rfl ⟨⟨trivial, trivial⟩, trivial⟩ ?_
            try simp only [v1, pr_i_0, pr_i_1]
            exact hh
          · simp only [ab_cmp, pr_i_0, pr_i_1] at h20
            exact absurd (Classical.not_not.mp h20) hf
  refine pr_seq (pc' := 4) 4 rfl ⟨⟨⟨⟨trivial, trivial⟩, trivial⟩, trivial⟩, trivial⟩ ?_
  exact loop n 0 (by omega)
/-- the money of a person -/
def mon (f : Nat → Bool) (A : Nat → Nat) : Nat → Nat
  | 0 => 0
  | n + 1 => mon f A n + (if f n then A n else 0)
theorem mon_s1 {f : Nat → Bool} {A : Nat → Nat} {n : Nat} (h : f n = true) : mon f A (n + 1) = mon f A n + A n := by
  show mon f A n + (if f n then A n else 0) = _
  rw [if_pos h]
theorem mon_s0 {f : Nat → Bool} {A : Nat → Nat} {n : Nat} (h : f n = false) : mon f A (n + 1) = mon f A n := by
  show mon f A n + (if f n then A n else 0) = _
  rw [if_neg (by rw [h]; decide), Nat.add_zero]
theorem c_totalOf {c n p b : Nat} {S : Nat → Int32} {K Dt Wl Ax : Nat → Nat} (h : ab_H) (M : ab_M) (hc : pr_Cs h M.2.2 c) (hv : cs_v M.1 c n S K Dt Wl) (hp : p < n) (hb : b ≠ 0) (hbk : ab_k h b = 20) (hbn : ab_n h b = 28) (hA : ∀ q, q < n → M.1 b q = nI (Ax q)) : pr_C pX0_totalOf [.ref c, .ref b, .int (nI p)] h M (some (.int (nI (mon (al S K p) Ax n)))) h M := by
  obtain ⟨c0, c1, -⟩ := id hc
  obtain ⟨v1, v2, v3⟩ := id hv
  have loop : ∀ dd k, k + dd = n → pr_E pX0_totalOf 5 [some (.ref c), some (.ref b), some (.int (nI p)), some (.int (nI (mon (al S K p) Ax k))), some (.int (nI k))] [] h M (some (.int (nI (mon (al S K p) Ax n)))) h M := by
    intro dd
    induction dd with
    | zero =>
      intro k hk
      obtain rfl : k = n := by omega
      have e1 : nI k ≤ nI k := nI_le (Nat.le_refl _) (by omega)
      refine pr_seq (pc' := 11) 3 rfl ⟨⟨⟨trivial, trivial⟩, (by first | assumption | decide | omega | exact ⟨Or.inl (by assumption), by assumption⟩ | exact ⟨by assumption, by assumption⟩ | (simp only [v1, pr_i_0, pr_i_1]; first | assumption | omega | exact ⟨by assumption, by assumption⟩ | exact ⟨Or.inl (by assumption), by assumption⟩))⟩, (by first | assumption | decide | omega | exact ⟨Or.inl (by assumption), by assumption⟩ | exact ⟨by assumption, by assumption⟩ | (simp only [v1, pr_i_0, pr_i_1]; first | assumption | omega | exact ⟨by assumption, by assumption⟩ | exact ⟨Or.inl (by assumption), by assumption⟩))⟩ ?_
      try simp only [v1, pr_i_0, pr_i_1]
      refine pr_ic rfl (fun h11 => ?_) (fun h11 => ?_)
      · simp only [ab_cmp, pr_i_0, pr_i_1] at h11
        refine pr_seq (pc' := 38) 1 rfl ⟨trivial, trivial⟩ ?_
        try simp only [v1, pr_i_0, pr_i_1]
        exact pr_irM rfl (by rfl) trivial (by rfl)
      · simp only [ab_cmp, pr_i_0, pr_i_1] at h11
        exact absurd e1 h11
    | succ dd ih =>
      intro k hk
      have e1 : ¬ nI n ≤ nI k := nI_ge (by omega) (by omega)
      have ha := c_alike h M hc hv hp (show k < n by omega)
      have e3 : (nI k).toNatClampNeg = k := nI_clamp (by omega)
      have w1 : vp_in (nI k) (ab_n h b) := by rw [hbn]; exact vp_in_nI (by omega) (by decide)
      have w2 := hA k (by omega)
      have hh := ih (k + 1) (by omega)
      rw [← nI_1] at hh
      cases hf : al S K p k with
      | true =>
        rw [hf] at ha
        rw [mon_s1 hf, ← nI_add] at hh
        refine pr_seq (pc' := 11) 3 rfl ⟨⟨⟨trivial, trivial⟩, (by first | assumption | decide | omega | exact ⟨Or.inl (by assumption), by assumption⟩ | exact ⟨by assumption, by assumption⟩ | (simp only [v1, e3, w2, pr_i_0, pr_i_1]; first | assumption | omega | exact ⟨by assumption, by assumption⟩ | exact ⟨Or.inl (by assumption), by assumption⟩))⟩, (by first | assumption | decide | omega | exact ⟨Or.inl (by assumption), by assumption⟩ | exact ⟨by assumption, by assumption⟩ | (simp only [v1, e3, w2, pr_i_0, pr_i_1]; first | assumption | omega | exact ⟨by assumption, by assumption⟩ | exact ⟨Or.inl (by assumption), by assumption⟩))⟩ ?_
        try simp only [v1, e3, w2, pr_i_0, pr_i_1]
        refine pr_ic rfl (fun h11 => ?_) (fun h11 => ?_)
        · simp only [ab_cmp, pr_i_0, pr_i_1] at h11
          exact absurd h11 e1
        · simp only [ab_cmp, pr_i_0, pr_i_1] at h11
          refine pr_seq (pc' := 18) 3 rfl ⟨⟨⟨trivial, (by first | assumption | decide | omega | exact ⟨Or.inl (by assumption), by assumption⟩ | exact ⟨by assumption, by assumption⟩ | (simp only [v1, e3, w2, pr_i_0, pr_i_1]; first | assumption | omega | exact ⟨by assumption, by assumption⟩ | exact ⟨Or.inl (by assumption), by assumption⟩))⟩, trivial⟩, trivial⟩ ?_
          try simp only [v1, e3, w2, pr_i_0, pr_i_1]
          refine pr_cv [_, _] rfl rfl rfl rfl rfl (Nat.le_of_ble_eq_true rfl) (by first | assumption | decide | omega | exact ⟨Or.inl (by assumption), by assumption⟩ | exact ⟨by assumption, by assumption⟩ | (simp only [v1, e3, w2, pr_i_0, pr_i_1]; first | assumption | omega | exact ⟨by assumption, by assumption⟩ | exact ⟨Or.inl (by assumption), by assumption⟩)) (Nat.le_of_ble_eq_true rfl) (ha) ?_
          refine pr_if rfl (fun h21 => ?_) (fun h21 => ?_)
          · simp only [ab_cmp, pr_i_0, pr_i_1] at h21
            exact absurd h21 (by decide)
          · simp only [ab_cmp, pr_i_0, pr_i_1] at h21
            refine pr_seq (pc' := 5) 8 rfl ⟨⟨⟨⟨⟨⟨⟨⟨trivial, trivial⟩, (by first | assumption | decide | omega | exact ⟨Or.inl (by assumption), by assumption⟩ | exact ⟨by assumption, by assumption⟩ | (simp only [v1, e3, w2, pr_i_0, pr_i_1]; first | assumption | omega | exact ⟨by assumption, by assumption⟩ | exact ⟨Or.inl (by assumption), by assumption⟩))⟩, trivial⟩, (by first | assumption | decide | omega | exact ⟨Or.inl (by assumption), by assumption⟩ | exact ⟨by assumption, by assumption⟩ | (simp only [v1, e3, w2, pr_i_0, pr_i_1]; first | assumption | omega | exact ⟨by assumption, by assumption⟩ | exact ⟨Or.inl (by assumption), by assumption⟩))⟩, trivial⟩, trivial⟩, trivial⟩, trivial⟩ ?_
            try simp only [v1, e3, w2, pr_i_0, pr_i_1]
            exact hh
      | false =>
        rw [hf] at ha
        rw [mon_s0 hf] at hh
        refine pr_seq (pc' := 11) 3 rfl ⟨⟨⟨trivial, trivial⟩, (by first | assumption | decide | omega | exact ⟨Or.inl (by assumption), by assumption⟩ | exact ⟨by assumption, by assumption⟩ | (simp only [v1, pr_i_0, pr_i_1]; first | assumption | omega | exact ⟨by assumption, by assumption⟩ | exact ⟨Or.inl (by assumption), by assumption⟩))⟩, (by first | assumption | decide | omega | exact ⟨Or.inl (by assumption), by assumption⟩ | exact ⟨by assumption, by assumption⟩ | (simp only [v1, pr_i_0, pr_i_1]; first | assumption | omega | exact ⟨by assumption, by assumption⟩ | exact ⟨Or.inl (by assumption), by assumption⟩))⟩ ?_
        try simp only [v1, pr_i_0, pr_i_1]
        refine pr_ic rfl (fun h11 => ?_) (fun h11 => ?_)
        · simp only [ab_cmp, pr_i_0, pr_i_1] at h11
          exact absurd h11 e1
        · simp only [ab_cmp, pr_i_0, pr_i_1] at h11
          refine pr_seq (pc' := 18) 3 rfl ⟨⟨⟨trivial, (by first | assumption | decide | omega | exact ⟨Or.inl (by assumption), by assumption⟩ | exact ⟨by assumption, by assumption⟩ | (simp only [v1, pr_i_0, pr_i_1]; first | assumption | omega | exact ⟨by assumption, by assumption⟩ | exact ⟨Or.inl (by assumption), by assumption⟩))⟩, trivial⟩, trivial⟩ ?_
          try simp only [v1, pr_i_0, pr_i_1]
          refine pr_cv [_, _] rfl rfl rfl rfl rfl (Nat.le_of_ble_eq_true rfl) (by first | assumption | decide | omega | exact ⟨Or.inl (by assumption), by assumption⟩ | exact ⟨by assumption, by assumption⟩ | (simp only [v1, pr_i_0, pr_i_1]; first | assumption | omega | exact ⟨by assumption, by assumption⟩ | exact ⟨Or.inl (by assumption), by assumption⟩)) (Nat.le_of_ble_eq_true rfl) (ha) ?_
          refine pr_if rfl (fun h21 => ?_) (fun h21 => ?_)
          · simp only [ab_cmp, pr_i_0, pr_i_1] at h21
            refine pr_seq (pc' := 5) 2 rfl ⟨⟨trivial, trivial⟩, trivial⟩ ?_
            try simp only [v1, pr_i_0, pr_i_1]
            exact hh
          · simp only [ab_cmp, pr_i_0, pr_i_1] at h21
            exact absurd rfl h21
  refine pr_seq (pc' := 5) 4 rfl ⟨⟨⟨⟨trivial, trivial⟩, trivial⟩, trivial⟩, trivial⟩ ?_
  exact loop n 0 (by omega)
theorem c_debtOf {c n p : Nat} {S : Nat → Int32} {K Dt Wl : Nat → Nat} (h : ab_H) (M : ab_M) (hc : pr_Cs h M.2.2 c) (hv : cs_v M.1 c n S K Dt Wl) (hp : p < n) : pr_C pX0_debtOf [.ref c, .int (nI p)] h M (some (.int (nI (mon (al S K p) Dt n)))) h M := by
  obtain ⟨c0, c1, r0, r1, r2, r3, r4, -, -, ⟨a1, a2⟩, ⟨b1, b2⟩, -⟩ := id hc
  refine pr_seq (pc' := 6) 4 rfl ⟨⟨⟨⟨trivial, (by first | assumption | decide | omega | exact ⟨Or.inl (by assumption), by assumption⟩ | exact ⟨by assumption, by assumption⟩ | (simp only [r2]; first | assumption | omega | exact ⟨by assumption, by assumption⟩ | exact ⟨Or.inl (by assumption), by assumption⟩))⟩, (by first | assumption | decide | omega | exact ⟨Or.inl (by assumption), by assumption⟩ | exact ⟨by assumption, by assumption⟩ | (simp only [r2]; first | assumption | omega | exact ⟨by assumption, by assumption⟩ | exact ⟨Or.inl (by assumption), by assumption⟩))⟩, (by first | assumption | decide | omega | exact ⟨Or.inl (by assumption), by assumption⟩ | exact ⟨by assumption, by assumption⟩ | (simp only [r2]; first | assumption | omega | exact ⟨by assumption, by assumption⟩ | exact ⟨Or.inl (by assumption), by assumption⟩))⟩, trivial⟩ ?_
  try simp only [r2]
  refine pr_cv [_, _] rfl rfl rfl rfl rfl (Nat.le_of_ble_eq_true rfl) (by first | assumption | decide | omega | exact ⟨Or.inl (by assumption), by assumption⟩ | exact ⟨by assumption, by assumption⟩ | (simp only [r2]; first | assumption | omega | exact ⟨by assumption, by assumption⟩ | exact ⟨Or.inl (by assumption), by assumption⟩)) (Nat.le_of_ble_eq_true rfl) (c_totalOf h M hc hv hp (by omega) a1 a2 (fun q hq => (hv.2.2 q hq).2.2.2.1)) ?_
  exact pr_irM rfl (by rfl) trivial (by rfl)
theorem c_wealthOf {c n p : Nat} {S : Nat → Int32} {K Dt Wl : Nat → Nat} (h : ab_H) (M : ab_M) (hc : pr_Cs h M.2.2 c) (hv : cs_v M.1 c n S K Dt Wl) (hp : p < n) : pr_C pX0_wealthOf [.ref c, .int (nI p)] h M (some (.int (nI (mon (al S K p) Wl n)))) h M := by
  obtain ⟨c0, c1, r0, r1, r2, r3, r4, -, -, ⟨a1, a2⟩, ⟨b1, b2⟩, -⟩ := id hc
  refine pr_seq (pc' := 6) 4 rfl ⟨⟨⟨⟨trivial, (by first | assumption | decide | omega | exact ⟨Or.inl (by assumption), by assumption⟩ | exact ⟨by assumption, by assumption⟩ | (simp only [r3]; first | assumption | omega | exact ⟨by assumption, by assumption⟩ | exact ⟨Or.inl (by assumption), by assumption⟩))⟩, (by first | assumption | decide | omega | exact ⟨Or.inl (by assumption), by assumption⟩ | exact ⟨by assumption, by assumption⟩ | (simp only [r3]; first | assumption | omega | exact ⟨by assumption, by assumption⟩ | exact ⟨Or.inl (by assumption), by assumption⟩))⟩, (by first | assumption | decide | omega | exact ⟨Or.inl (by assumption), by assumption⟩ | exact ⟨by assumption, by assumption⟩ | (simp only [r3]; first | assumption | omega | exact ⟨by assumption, by assumption⟩ | exact ⟨Or.inl (by assumption), by assumption⟩))⟩, trivial⟩ ?_
  try simp only [r3]
  refine pr_cv [_, _] rfl rfl rfl rfl rfl (Nat.le_of_ble_eq_true rfl) (by first | assumption | decide | omega | exact ⟨Or.inl (by assumption), by assumption⟩ | exact ⟨by assumption, by assumption⟩ | (simp only [r3]; first | assumption | omega | exact ⟨by assumption, by assumption⟩ | exact ⟨Or.inl (by assumption), by assumption⟩)) (Nat.le_of_ble_eq_true rfl) (c_totalOf h M hc hv hp (by omega) b1 b2 (fun q hq => (hv.2.2 q hq).2.2.2.2)) ?_
  exact pr_irM rfl (by rfl) trivial (by rfl)
