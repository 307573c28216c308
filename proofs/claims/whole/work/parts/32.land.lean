/-! ===== Name's copies, One, Land ===== -/
/-- the name at o copied to n -/
def nm_cp (I : Nat → Nat → Int32) (n o m : Nat) : Nat → Nat → Int32 := nm_app (ab_u I n 1 0) n 0 o m
theorem c_ncopy {n o m : Nat} (h : ab_H) (M : ab_M) (hn : pr_Nm h M.2.2 n) (ho : pr_Nm h M.2.2 o) (hno : n + 1 < o ∨ o + 1 < n) (hm : M.1 o 1 = nI m) (hb : m ≤ 20) : pr_C pX2_copy [.ref n, .ref o] h M none h (nm_cp M.1 n o m, M.2.1, M.2.2) := by
  obtain ⟨n0, n1, -⟩ := id hn
  obtain ⟨o0, o1, -⟩ := id ho
  refine pr_seq (pc' := 1) 1 rfl ⟨trivial, (by first | assumption | decide | omega | exact ⟨Or.inl (by assumption), by assumption⟩ | exact ⟨by assumption, by assumption⟩)⟩ ?_
  refine pr_cv [] rfl rfl rfl rfl rfl (Nat.le_of_ble_eq_true rfl) (by first | assumption | decide | omega | exact ⟨Or.inl (by assumption), by assumption⟩ | exact ⟨by assumption, by assumption⟩) (Nat.le_of_ble_eq_true rfl) (c_clear h M hn) ?_
  refine pr_seq (pc' := 6) 2 rfl ⟨⟨trivial, (by first | assumption | decide | omega | exact ⟨Or.inl (by assumption), by assumption⟩ | exact ⟨by assumption, by assumption⟩)⟩, (by first | assumption | decide | omega | exact ⟨Or.inl (by assumption), by assumption⟩ | exact ⟨by assumption, by assumption⟩)⟩ ?_
  refine pr_cv [_] rfl rfl rfl rfl rfl (Nat.le_of_ble_eq_true rfl) (by first | assumption | decide | omega | exact ⟨Or.inl (by assumption), by assumption⟩ | exact ⟨by assumption, by assumption⟩) (Nat.le_of_ble_eq_true rfl) (c_addAll (b := 0) (m := m) h _ hn ho hno (ab_u_at) (by dsimp only; rw [ab_u_ne (by omega)]; exact hm) (by omega)) ?_
  exact pr_vrM rfl rfl rfl (by rfl)
theorem nm_cp_far {I : Nat → Nat → Int32} {n o m a : Nat} (h1 : a ≠ n) (h2 : a ≠ n + 1) : nm_cp I n o m a = I a := by
  unfold nm_cp
  rw [nm_app_far h1 h2, ab_u_ne h1]
theorem nm_v_congr {I I' : Nat → Nat → Int32} {n : Nat} {w : List Nat} (h1 : I' n = I n) (h2 : I' (n + 1) = I (n + 1)) (h : nm_v I n w) : nm_v I' n w := by
  unfold nm_v
  rw [h1, h2]
  exact h
theorem gd_l {u w : List Nat} {j : Nat} (h : j < u.length) : (u ++ w).getD j 0 = u.getD j 0 := by
  rw [List.getD_eq_getElem?_getD, List.getD_eq_getElem?_getD, List.getElem?_append_left h]
theorem gd_r {u w : List Nat} {j : Nat} (h : u.length ≤ j) : (u ++ w).getD j 0 = w.getD (j - u.length) 0 := by
  rw [List.getD_eq_getElem?_getD, List.getD_eq_getElem?_getD, List.getElem?_append_right h]
theorem nm_v_app {I : Nat → Nat → Int32} {n o : Nat} {u w : List Nat} (hno : n + 1 < o ∨ o + 1 < n) (hu : nm_v I n u) (hw : nm_v I o w) (hl : u.length + w.length ≤ 20) : nm_v (nm_app I n u.length o w.length) n (u ++ w) := by
  refine ⟨by rw [nm_app_len, List.length_append], by rw [List.length_append]; exact hl, fun j hj => ?_⟩
  rw [List.length_append] at hj
  unfold nm_app
  rw [if_neg (by omega)]
  by_cases h1 : u.length ≤ j
  · rw [if_pos ⟨rfl, h1, hj⟩]
    have h2 := hw.2.2 (j - u.length) (by omega)
    rw [gd_r h1]
    exact h2
  · rw [if_neg (by omega)]
    rw [gd_l (by omega)]
    exact hu.2.2 j (by omega)
theorem nm_v_cp {I : Nat → Nat → Int32} {n o : Nat} {w : List Nat} (hno : n + 1 < o ∨ o + 1 < n) (hw : nm_v I o w) : nm_v (nm_cp I n o w.length) n w := by
  have h0 : nm_v (ab_u I n 1 0) n [] := ⟨ab_u_at, by decide, fun j hj => absurd hj (by simp)⟩
  have h1 : nm_v (ab_u I n 1 0) o w := nm_v_congr (ab_u_ne (by omega)) (ab_u_ne (by omega)) hw
  exact nm_v_app hno h0 h1 (by simpa using hw.2.1)
theorem c_join {n f g : Nat} {u w : List Nat} (h : ab_H) (M : ab_M) (hn : pr_Nm h M.2.2 n) (hf : pr_Nm h M.2.2 f) (hg : pr_Nm h M.2.2 g) (hnf : n + 1 < f ∨ f + 1 < n) (hng : n + 1 < g ∨ g + 1 < n) (hu : nm_v M.1 f u) (hw : nm_v M.1 g w) : pr_C pX2_join [.ref n, .ref f, .ref g] h M (some (.int (pr_b (decide (u.length + w.length ≤ 20))))) h (if u.length + w.length ≤ 20 then nm_app (nm_cp M.1 n f u.length) n u.length g w.length else M.1, M.2.1, M.2.2) := by
  obtain ⟨n0, n1, -⟩ := id hn
  obtain ⟨f0, f1, -⟩ := id hf
  obtain ⟨g0, g1, -⟩ := id hg
  have hu1 := hu.1
  have hw1 := hw.1
  have hu2 := hu.2.1
  have hw2 := hw.2.1
  have e20 : (20 : Int32) = nI 20 := rfl
  by_cases hc : u.length + w.length ≤ 20
  · rw [decide_eq_true hc, if_pos hc]
    have hx : nI (u.length + w.length) ≤ nI 20 := nI_le hc (by decide)
    have hcp := nm_v_cp hnf hu
    refine pr_seq (pc' := 11) 6 rfl ⟨⟨⟨⟨⟨⟨trivial, (by first | assumption | decide | omega | exact ⟨Or.inl (by assumption), by assumption⟩ | exact ⟨by assumption, by assumption⟩ | (simp only [hu1, hw1, nI_add, e20, pr_8_20, pr_i_0, pr_i_1]; first | assumption | omega | exact ⟨by assumption, by assumption⟩ | exact ⟨Or.inl (by assumption), by assumption⟩))⟩, (by first | assumption | decide | omega | exact ⟨Or.inl (by assumption), by assumption⟩ | exact ⟨by assumption, by assumption⟩ | (simp only [hu1, hw1, nI_add, e20, pr_8_20, pr_i_0, pr_i_1]; first | assumption | omega | exact ⟨by assumption, by assumption⟩ | exact ⟨Or.inl (by assumption), by assumption⟩))⟩, (by first | assumption | decide | omega | exact ⟨Or.inl (by assumption), by assumption⟩ | exact ⟨by assumption, by assumption⟩ | (simp only [hu1, hw1, nI_add, e20, pr_8_20, pr_i_0, pr_i_1]; first | assumption | omega | exact ⟨by assumption, by assumption⟩ | exact ⟨Or.inl (by assumption), by assumption⟩))⟩, (by first | assumption | decide | omega | exact ⟨Or.inl (by assumption), by assumption⟩ | exact ⟨by assumption, by assumption⟩ | (simp only [hu1, hw1, nI_add, e20, pr_8_20, pr_i_0, pr_i_1]; first | assumption | omega | exact ⟨by assumption, by assumption⟩ | exact ⟨Or.inl (by assumption), by assumption⟩))⟩, trivial⟩, trivial⟩ ?_
    try simp only [hu1, hw1, nI_add, e20, pr_8_20, pr_i_0, pr_i_1]
    refine pr_ic rfl (fun h11 => ?_) (fun h11 => ?_)
    · simp only [ab_cmp, pr_8_20, pr_i_0, pr_i_1] at h11
      refine pr_seq (pc' := 18) 2 rfl ⟨⟨trivial, (by first | assumption | decide | omega | exact ⟨Or.inl (by assumption), by assumption⟩ | exact ⟨by assumption, by assumption⟩ | (simp only [hu1, hw1, nI_add, e20, pr_8_20, pr_i_0, pr_i_1]; first | assumption | omega | exact ⟨by assumption, by assumption⟩ | exact ⟨Or.inl (by assumption), by assumption⟩))⟩, (by first | assumption | decide | omega | exact ⟨Or.inl (by assumption), by assumption⟩ | exact ⟨by assumption, by assumption⟩ | (simp only [hu1, hw1, nI_add, e20, pr_8_20, pr_i_0, pr_i_1]; first | assumption | omega | exact ⟨by assumption, by assumption⟩ | exact ⟨Or.inl (by assumption), by assumption⟩))⟩ ?_
      try simp only [hu1, hw1, nI_add, e20, pr_8_20, pr_i_0, pr_i_1]
      refine pr_cv [_] rfl rfl rfl rfl rfl (Nat.le_of_ble_eq_true rfl) (by first | assumption | decide | omega | exact ⟨Or.inl (by assumption), by assumption⟩ | exact ⟨by assumption, by assumption⟩ | (simp only [hu1, hw1, nI_add, e20, pr_8_20, pr_i_0, pr_i_1]; first | assumption | omega | exact ⟨by assumption, by assumption⟩ | exact ⟨Or.inl (by assumption), by assumption⟩)) (Nat.le_of_ble_eq_true rfl) (c_ncopy (m := u.length) h M hn hf hnf hu1 hu2) ?_
      refine pr_seq (pc' := 23) 2 rfl ⟨⟨trivial, (by first | assumption | decide | omega | exact ⟨Or.inl (by assumption), by assumption⟩ | exact ⟨by assumption, by assumption⟩ | (simp only [hu1, hw1, nI_add, e20, pr_8_20, pr_i_0, pr_i_1]; first | assumption | omega | exact ⟨by assumption, by assumption⟩ | exact ⟨Or.inl (by assumption), by assumption⟩))⟩, (by first | assumption | decide | omega | exact ⟨Or.inl (by assumption), by assumption⟩ | exact ⟨by assumption, by assumption⟩ | (simp only [hu1, hw1, nI_add, e20, pr_8_20, pr_i_0, pr_i_1]; first | assumption | omega | exact ⟨by assumption, by assumption⟩ | exact ⟨Or.inl (by assumption), by assumption⟩))⟩ ?_
      try simp only [hu1, hw1, nI_add, e20, pr_8_20, pr_i_0, pr_i_1]
      refine pr_cv [_] rfl rfl rfl rfl rfl (Nat.le_of_ble_eq_true rfl) (by first | assumption | decide | omega | exact ⟨Or.inl (by assumption), by assumption⟩ | exact ⟨by assumption, by assumption⟩ | (simp only [hu1, hw1, nI_add, e20, pr_8_20, pr_i_0, pr_i_1]; first | assumption | omega | exact ⟨by assumption, by assumption⟩ | exact ⟨Or.inl (by assumption), by assumption⟩)) (Nat.le_of_ble_eq_true rfl) (c_addAll (b := u.length) (m := w.length) h _ hn hg hng hcp.1 (by dsimp only; rw [nm_cp_far (by omega) (by omega)]; exact hw1) hc) ?_
      refine pr_seq (pc' := 27) 1 rfl ⟨trivial, trivial⟩ ?_
      try simp only [hu1, hw1, nI_add, e20, pr_8_20, pr_i_0, pr_i_1]
      exact pr_irM rfl (by rfl) (by first | exact Or.inl rfl | exact Or.inr rfl | exact pr_b01 _ | assumption) (by rfl)
    · simp only [ab_cmp, pr_8_20, pr_i_0, pr_i_1] at h11
      exact absurd hx h11
  · rw [decide_eq_false hc, if_neg hc]
    have hx : ¬ nI (u.length + w.length) ≤ nI 20 := nI_ge (by omega) (by omega)
    refine pr_seq (pc' := 11) 6 rfl ⟨⟨⟨⟨⟨⟨trivial, (by first | assumption | decide | omega | exact ⟨Or.inl (by assumption), by assumption⟩ | exact ⟨by assumption, by assumption⟩ | (simp only [hu1, hw1, nI_add, e20, pr_8_20, pr_i_0, pr_i_1]; first | assumption | omega | exact ⟨by assumption, by assumption⟩ | exact ⟨Or.inl (by assumption), by assumption⟩))⟩, (by first | assumption | decide | omega | exact ⟨Or.inl (by assumption), by assumption⟩ | exact ⟨by assumption, by assumption⟩ | (simp only [hu1, hw1, nI_add, e20, pr_8_20, pr_i_0, pr_i_1]; first | assumption | omega | exact ⟨by assumption, by assumption⟩ | exact ⟨Or.inl (by assumption), by assumption⟩))⟩, (by first | assumption | decide | omega | exact ⟨Or.inl (by assumption), by assumption⟩ | exact ⟨by assumption, by assumption⟩ | (simp only [hu1, hw1, nI_add, e20, pr_8_20, pr_i_0, pr_i_1]; first | assumption | omega | exact ⟨by assumption, by assumption⟩ | exact ⟨Or.inl (by assumption), by assumption⟩))⟩, (by first | assumption | decide | omega | exact ⟨Or.inl (by assumption), by assumption⟩ | exact ⟨by assumption, by assumption⟩ | (simp only [hu1, hw1, nI_add, e20, pr_8_20, pr_i_0, pr_i_1]; first | assumption | omega | exact ⟨by assumption, by assumption⟩ | exact ⟨Or.inl (by assumption), by assumption⟩))⟩, trivial⟩, trivial⟩ ?_
    try simp only [hu1, hw1, nI_add, e20, pr_8_20, pr_i_0, pr_i_1]
    refine pr_ic rfl (fun h11 => ?_) (fun h11 => ?_)
    · simp only [ab_cmp, pr_8_20, pr_i_0, pr_i_1] at h11
      exact absurd h11 hx
    · simp only [ab_cmp, pr_8_20, pr_i_0, pr_i_1] at h11
      refine pr_seq (pc' := 15) 1 rfl ⟨trivial, trivial⟩ ?_
      try simp only [hu1, hw1, nI_add, e20, pr_8_20, pr_i_0, pr_i_1]
      exact pr_irM rfl (by rfl) (by first | exact Or.inl rfl | exact Or.inr rfl | exact pr_b01 _ | assumption) (by rfl)
/-- people: kind, debt, wealth, name; a land: worths, people, law, fee -/
abbrev Pn : Type := Nat × Nat × Nat × List Nat
abbrev Ld : Type := (Nat → Nat) × List Pn × Nat × Nat
def on_v (I : Nat → Nat → Int32) (a : Nat) (q : Pn) : Prop := I a 1 = nI q.1 ∧ q.1 ≤ 4 ∧ I a 2 = nI q.2.1 ∧ q.2.1 ≤ 99 ∧ I a 3 = nI q.2.2.1 ∧ q.2.2.1 ≤ 99 ∧ nm_v I (a + 1) q.2.2.2
def ld_v (I : Nat → Nat → Int32) (g : Nat) (d : Ld) : Prop := I g 2 = nI d.2.1.length ∧ d.2.1.length ≤ 8 ∧ I g 3 = nI d.2.2.1 ∧ d.2.2.1 ≤ 1 ∧ I g 4 = nI d.2.2.2 ∧ (1 ≤ d.2.2.2 ∧ d.2.2.2 ≤ 9) ∧ (∀ l, l < 26 → I (g + 1) l = nI (d.1 l) ∧ d.1 l ≤ 40) ∧ ∀ p q, d.2.1[p]? = some q → on_v I (g + 3 + 3 * p) q
/-- a One at a: its Name behind it -/
def pr_On (h : ab_H) (R : Nat → Nat → Nat) (a : Nat) : Prop := a ≠ 0 ∧ ab_k h a = 4 ∧ R a 0 = a + 1 ∧ pr_Nm h R (a + 1)
def pr_Ld (h : ab_H) (R : Nat → Nat → Nat) (g : Nat) : Prop := g ≠ 0 ∧ ab_k h g = 2 ∧ R g 0 = g + 1 ∧ R g 1 = g + 2 ∧ ab_k h (g + 1) = 20 ∧ ab_n h (g + 1) = 26 ∧ (ab_k h (g + 2) = 26 ∧ ab_n h (g + 2) = 8) ∧ ∀ p, p < 8 → R (g + 2) p = g + 3 + 3 * p ∧ pr_On h R (g + 3 + 3 * p)
/-- how many times a letter's worth counts -/
def a_w (law kind l i : Nat) : Nat := if kind = 3 then 0 else if kind = 2 ∧ 13 ≤ l then 0 else if law = 0 then 1 else i + 1
def a_to (f : Nat → Nat) : Nat → Nat
  | 0 => 0
  | n + 1 => a_to f n + f n
/-- the sum of a name -/
def a_sum (wo : Nat → Nat) (law kind : Nat) (w : List Nat) : Nat := a_to (fun i => a_w law kind (w.getD i 0) i * wo (w.getD i 0)) w.length
theorem nI_ne {a b : Nat} (h : a ≠ b) (ha : a < 2 ^ 31) (hb : b < 2 ^ 31) : ¬ nI a = nI b := fun q => h ((nI_eq ha hb).mp q)
theorem pr_n0 : (0 : Int32) = nI 0 := rfl
theorem pr_n1 : (1 : Int32) = nI 1 := rfl
theorem pr_n2 : (2 : Int32) = nI 2 := rfl
theorem pr_n3 : (3 : Int32) = nI 3 := rfl
theorem pr_n13 : (13 : Int32) = nI 13 := rfl
theorem pr_n26 : (26 : Int32) = nI 26 := rfl
theorem c_weight {g law l i kind : Nat} (h : ab_H) (M : ab_M) (h0 : g ≠ 0) (hk : ab_k h g = 2) (hlaw : M.1 g 3 = nI law) (hl1 : law ≤ 1) (hl : l < 1000) (hi : i < 1000) (hkd : kind < 1000) : pr_C pX1_weight [.ref g, .int (nI l), .int (nI i), .int (nI kind)] h M (some (.int (nI (a_w law kind l i)))) h M := by
  unfold a_w
  have b1 : kind < 2 ^ 31 := by omega
  have b2 : l < 2 ^ 31 := by omega
  have b3 : law < 2 ^ 31 := by omega
  by_cases c1 : kind = 3
  · rw [if_pos c1]
    subst c1
    refine pr_seq (pc' := 2) 2 rfl ⟨⟨trivial, trivial⟩, trivial⟩ ?_
    refine pr_ic rfl (fun h2 => ?_) (fun h2 => ?_)
    · simp only [ab_cmp, pr_8_13, pr_i_0, pr_i_1, pr_i_2, pr_i_3] at h2
      refine pr_seq (pc' := 17) 1 rfl ⟨trivial, trivial⟩ ?_
      exact pr_irM rfl (by rfl) trivial (by rfl)
    · simp only [ab_cmp, pr_8_13, pr_i_0, pr_i_1, pr_i_2, pr_i_3] at h2
      exact absurd rfl h2
  · rw [if_neg c1]
    have d1 := nI_ne c1 b1 (by decide)
    by_cases c2 : kind = 2 ∧ 13 ≤ l
    · rw [if_pos c2]
      obtain ⟨rfl, c3⟩ := c2
      have d2 : ¬ nI l < nI 13 := nI_nlt c3 b2
      refine pr_seq (pc' := 2) 2 rfl ⟨⟨trivial, trivial⟩, trivial⟩ ?_
      refine pr_ic rfl (fun h2 => ?_) (fun h2 => ?_)
      · simp only [ab_cmp, pr_8_13, pr_i_0, pr_i_1, pr_i_2, pr_i_3] at h2
        exact absurd h2 d1
      · simp only [ab_cmp, pr_8_13, pr_i_0, pr_i_1, pr_i_2, pr_i_3] at h2
        refine pr_seq (pc' := 7) 2 rfl ⟨⟨trivial, trivial⟩, trivial⟩ ?_
        refine pr_ic rfl (fun h7 => ?_) (fun h7 => ?_)
        · simp only [ab_cmp, pr_8_13, pr_i_0, pr_i_1, pr_i_2, pr_i_3] at h7
          exact absurd rfl h7
        · simp only [ab_cmp, pr_8_13, pr_i_0, pr_i_1, pr_i_2, pr_i_3] at h7
          refine pr_seq (pc' := 13) 2 rfl ⟨⟨trivial, trivial⟩, trivial⟩ ?_
          refine pr_ic rfl (fun h13 => ?_) (fun h13 => ?_)
          · simp only [ab_cmp, pr_8_13, pr_i_0, pr_i_1, pr_i_2, pr_i_3] at h13
            exact absurd h13 d2
          · simp only [ab_cmp, pr_8_13, pr_i_0, pr_i_1, pr_i_2, pr_i_3] at h13
            refine pr_seq (pc' := 17) 1 rfl ⟨trivial, trivial⟩ ?_
            exact pr_irM rfl (by rfl) trivial (by rfl)
    · rw [if_neg c2]
      have fin : pr_E pX1_weight 18 [some (.ref g), some (.int (nI l)), some (.int (nI i)), some (.int (nI kind))] [] h M (some (.int (nI (if law = 0 then 1 else i + 1)))) h M := by
        by_cases c4 : law = 0
        · rw [if_pos c4]
          subst c4
          refine pr_seq (pc' := 22) 2 rfl ⟨⟨trivial, (by first | assumption | decide | omega | exact ⟨Or.inl (by assumption), by assumption⟩ | exact ⟨by assumption, by assumption⟩)⟩, (by first | assumption | decide | omega | exact ⟨Or.inl (by assumption), by assumption⟩ | exact ⟨by assumption, by assumption⟩)⟩ ?_
          refine pr_if rfl (fun h22 => ?_) (fun h22 => ?_)
          · simp only [ab_cmp, pr_8_13, pr_i_0, pr_i_1, pr_i_2, pr_i_3] at h22
            exact absurd hlaw h22
          · simp only [ab_cmp, pr_8_13, pr_i_0, pr_i_1, pr_i_2, pr_i_3] at h22
            refine pr_seq (pc' := 32) 2 rfl ⟨⟨trivial, trivial⟩, trivial⟩ ?_
            exact pr_irM rfl (by rfl) trivial (by rfl)
        · rw [if_neg c4]
          have d4 : ¬ M.1 g 3 = 0 := by rw [hlaw]; exact nI_ne c4 b3 (by decide)
          refine pr_seq (pc' := 22) 2 rfl ⟨⟨trivial, (by first | assumption | decide | omega | exact ⟨Or.inl (by assumption), by assumption⟩ | exact ⟨by assumption, by assumption⟩)⟩, (by first | assumption | decide | omega | exact ⟨Or.inl (by assumption), by assumption⟩ | exact ⟨by assumption, by assumption⟩)⟩ ?_
          refine pr_if rfl (fun h22 => ?_) (fun h22 => ?_)
          · simp only [ab_cmp, pr_8_13, pr_i_0, pr_i_1, pr_i_2, pr_i_3] at h22
            refine pr_seq (pc' := 32) 3 rfl ⟨⟨⟨trivial, trivial⟩, trivial⟩, trivial⟩ ?_
            exact pr_irM rfl (by show _ = some (Value.int (nI i + Int32.ofInt 1)); rw [pr_i_1, nI_1]) trivial (by rfl)
          · simp only [ab_cmp, pr_8_13, pr_i_0, pr_i_1, pr_i_2, pr_i_3] at h22
            exact absurd (Classical.not_not.mp h22) d4
      by_cases c5 : kind = 2
      · have d5 : nI l < nI 13 := nI_lt (by omega) (by decide)
        subst c5
        refine pr_seq (pc' := 2) 2 rfl ⟨⟨trivial, trivial⟩, trivial⟩ ?_
        refine pr_ic rfl (fun h2 => ?_) (fun h2 => ?_)
        · simp only [ab_cmp, pr_8_13, pr_i_0, pr_i_1, pr_i_2, pr_i_3] at h2
          exact absurd h2 d1
        · simp only [ab_cmp, pr_8_13, pr_i_0, pr_i_1, pr_i_2, pr_i_3] at h2
          refine pr_seq (pc' := 7) 2 rfl ⟨⟨trivial, trivial⟩, trivial⟩ ?_
          refine pr_ic rfl (fun h7 => ?_) (fun h7 => ?_)
          · simp only [ab_cmp, pr_8_13, pr_i_0, pr_i_1, pr_i_2, pr_i_3] at h7
            exact absurd rfl h7
          · simp only [ab_cmp, pr_8_13, pr_i_0, pr_i_1, pr_i_2, pr_i_3] at h7
            refine pr_seq (pc' := 13) 2 rfl ⟨⟨trivial, trivial⟩, trivial⟩ ?_
            refine pr_ic rfl (fun h13 => ?_) (fun h13 => ?_)
            · simp only [ab_cmp, pr_8_13, pr_i_0, pr_i_1, pr_i_2, pr_i_3] at h13
              exact fin
            · simp only [ab_cmp, pr_8_13, pr_i_0, pr_i_1, pr_i_2, pr_i_3] at h13
              exact absurd d5 h13
      · have d5 := nI_ne c5 b1 (by decide : (2 : Nat) < 2 ^ 31)
        refine pr_seq (pc' := 2) 2 rfl ⟨⟨trivial, trivial⟩, trivial⟩ ?_
        refine pr_ic rfl (fun h2 => ?_) (fun h2 => ?_)
        · simp only [ab_cmp, pr_8_13, pr_i_0, pr_i_1, pr_i_2, pr_i_3] at h2
          exact absurd h2 d1
        · simp only [ab_cmp, pr_8_13, pr_i_0, pr_i_1, pr_i_2, pr_i_3] at h2
          refine pr_seq (pc' := 7) 2 rfl ⟨⟨trivial, trivial⟩, trivial⟩ ?_
          refine pr_ic rfl (fun h7 => ?_) (fun h7 => ?_)
          · simp only [ab_cmp, pr_8_13, pr_i_0, pr_i_1, pr_i_2, pr_i_3] at h7
            exact fin
          · simp only [ab_cmp, pr_8_13, pr_i_0, pr_i_1, pr_i_2, pr_i_3] at h7
            exact absurd (Classical.not_not.mp h7) d5
theorem c_shareOf {g l i kind : Nat} {d : Ld} (h : ab_H) (M : ab_M) (hg : pr_Ld h M.2.2 g) (hd : ld_v M.1 g d) (hl : l < 26) (hi : i < 1000) (hkd : kind < 1000) : pr_C pX1_shareOf [.ref g, .int (nI l), .int (nI i), .int (nI kind)] h M (some (.int (nI (a_w d.2.2.1 kind l i * d.1 l)))) h M := by
  obtain ⟨g0, g1, r1, r2, k1, k2, -⟩ := hg
  obtain ⟨d1, d2, d3, d4, d5, d6, d7, d8⟩ := hd
  have e1 : ¬ nI l < nI 0 := nI_nlt (Nat.zero_le _) (by omega)
  have e2 : ¬ nI 26 ≤ nI l := nI_ge hl (by decide)
  have e3 : (nI l).toNatClampNeg = l := nI_clamp (by omega)
  have v1 : vp_in (nI l) (ab_n h (g + 1)) := by rw [k2]; exact vp_in_nI hl (by decide)
  have w1 := (d7 l hl).1
  refine pr_seq (pc' := 1) 1 rfl ⟨trivial, trivial⟩ ?_
  try simp only [r1, e3, pr_8_26, pr_i_0]
  refine pr_if rfl (fun h1 => ?_) (fun h1 => ?_)
  · simp only [ab_cmp, pr_8_26, pr_i_0] at h1
    exact absurd h1 e1
  · simp only [ab_cmp, pr_8_26, pr_i_0] at h1
    refine pr_seq (pc' := 7) 2 rfl ⟨⟨trivial, trivial⟩, trivial⟩ ?_
    try simp only [r1, e3, pr_8_26, pr_i_0]
    refine pr_ic rfl (fun h7 => ?_) (fun h7 => ?_)
    · simp only [ab_cmp, pr_8_26, pr_i_0] at h7
      exact absurd h7 e2
    · simp only [ab_cmp, pr_8_26, pr_i_0] at h7
      refine pr_seq (pc' := 14) 4 rfl ⟨⟨⟨⟨trivial, (by first | assumption | decide | omega | exact ⟨Or.inl (by assumption), by assumption⟩ | exact ⟨by assumption, by assumption⟩ | (simp only [r1, e3, pr_8_26, pr_i_0]; first | assumption | omega | exact ⟨by assumption, by assumption⟩ | exact ⟨Or.inl (by assumption), by assumption⟩))⟩, trivial⟩, trivial⟩, trivial⟩ ?_
      try simp only [r1, e3, pr_8_26, pr_i_0]
      refine pr_cv [_, _, _] rfl rfl rfl rfl rfl (Nat.le_of_ble_eq_true rfl) (by first | assumption | decide | omega | exact ⟨Or.inl (by assumption), by assumption⟩ | exact ⟨by assumption, by assumption⟩ | (simp only [r1, e3, pr_8_26, pr_i_0]; first | assumption | omega | exact ⟨by assumption, by assumption⟩ | exact ⟨Or.inl (by assumption), by assumption⟩)) (Nat.le_of_ble_eq_true rfl) (c_weight (law := d.2.2.1) h M g0 g1 d3 d4 (by omega) hi hkd) ?_
      refine pr_seq (pc' := 28) 6 rfl ⟨⟨⟨⟨⟨⟨trivial, (by first | assumption | decide | omega | exact ⟨Or.inl (by assumption), by assumption⟩ | exact ⟨by assumption, by assumption⟩ | (simp only [r1, e3, pr_8_26, pr_i_0]; first | assumption | omega | exact ⟨by assumption, by assumption⟩ | exact ⟨Or.inl (by assumption), by assumption⟩))⟩, (by first | assumption | decide | omega | exact ⟨Or.inl (by assumption), by assumption⟩ | exact ⟨by assumption, by assumption⟩ | (simp only [r1, e3, pr_8_26, pr_i_0]; first | assumption | omega | exact ⟨by assumption, by assumption⟩ | exact ⟨Or.inl (by assumption), by assumption⟩))⟩, trivial⟩, (by first | assumption | decide | omega | exact ⟨Or.inl (by assumption), by assumption⟩ | exact ⟨by assumption, by assumption⟩ | (simp only [r1, e3, pr_8_26, pr_i_0]; first | assumption | omega | exact ⟨by assumption, by assumption⟩ | exact ⟨Or.inl (by assumption), by assumption⟩))⟩, trivial⟩, trivial⟩ ?_
      try simp only [r1, e3, pr_8_26, pr_i_0]
      exact pr_irM rfl (by rw [w1, pk_mul]) trivial (by rfl)
theorem c_sumOf {g n kind : Nat} {d : Ld} {w : List Nat} (h : ab_H) (M : ab_M) (hg : pr_Ld h M.2.2 g) (hd : ld_v M.1 g d) (hn : pr_Nm h M.2.2 n) (hw : nm_v M.1 n w) (hkd : kind < 1000) : pr_C pX1_sumOf [.ref g, .ref n, .int (nI kind)] h M (some (.int (nI (a_sum d.1 d.2.2.1 kind w)))) h M := by
  obtain ⟨g0, g1, -⟩ := id hg
  obtain ⟨n0, n1, -⟩ := id hn
  obtain ⟨w1, w2, w3⟩ := id hw
  unfold a_sum
  have loop : ∀ dd k, k + dd = w.length → pr_E pX1_sumOf 5 [some (.ref g), some (.ref n), some (.int (nI kind)), some (.int (nI (a_to (fun i => a_w d.2.2.1 kind (w.getD i 0) i * d.1 (w.getD i 0)) k))), some (.int (nI k))] [] h M (some (.int (nI (a_to (fun i => a_w d.2.2.1 kind (w.getD i 0) i * d.1 (w.getD i 0)) w.length)))) h M := by
    intro dd
    induction dd with
    | zero =>
      intro k hk
      obtain rfl : k = w.length := by omega
      have e1 : nI w.length ≤ nI w.length := nI_le (Nat.le_refl _) (by omega)
      refine pr_seq (pc' := 11) 3 rfl ⟨⟨⟨trivial, trivial⟩, (by first | assumption | decide | omega | exact ⟨Or.inl (by assumption), by assumption⟩ | exact ⟨by assumption, by assumption⟩ | (simp only [w1, pr_i_0, pr_i_1]; first | assumption | omega | exact ⟨by assumption, by assumption⟩ | exact ⟨Or.inl (by assumption), by assumption⟩))⟩, (by first | assumption | decide | omega | exact ⟨Or.inl (by assumption), by assumption⟩ | exact ⟨by assumption, by assumption⟩ | (simp only [w1, pr_i_0, pr_i_1]; first | assumption | omega | exact ⟨by assumption, by assumption⟩ | exact ⟨Or.inl (by assumption), by assumption⟩))⟩ ?_
      try simp only [w1, pr_i_0, pr_i_1]
      refine pr_ic rfl (fun h11 => ?_) (fun h11 => ?_)
      · simp only [ab_cmp, pr_i_0, pr_i_1] at h11
        refine pr_seq (pc' := 37) 1 rfl ⟨trivial, trivial⟩ ?_
        try simp only [w1, pr_i_0, pr_i_1]
        exact pr_irM rfl (by rfl) trivial (by rfl)
      · simp only [ab_cmp, pr_i_0, pr_i_1] at h11
        exact absurd e1 h11
    | succ dd ih =>
      intro k hk
      have e1 : ¬ nI w.length ≤ nI k := nI_ge (by omega) (by omega)
      have e2 : ¬ nI k < 0 := nI_pos (by omega)
      have e3 : nm_q w (nI k) = nI (w.getD k 0) := by
        unfold nm_q
        rw [if_neg e2, if_neg e1, nI_clamp (by omega)]
      have e4 := (w3 k (by omega)).2
      have hq := c_letterAt (nI k) h M hn hw
      rw [e3] at hq
      refine pr_seq (pc' := 11) 3 rfl ⟨⟨⟨trivial, trivial⟩, (by first | assumption | decide | omega | exact ⟨Or.inl (by assumption), by assumption⟩ | exact ⟨by assumption, by assumption⟩ | (simp only [w1, pr_i_0, pr_i_1]; first | assumption | omega | exact ⟨by assumption, by assumption⟩ | exact ⟨Or.inl (by assumption), by assumption⟩))⟩, (by first | assumption | decide | omega | exact ⟨Or.inl (by assumption), by assumption⟩ | exact ⟨by assumption, by assumption⟩ | (simp only [w1, pr_i_0, pr_i_1]; first | assumption | omega | exact ⟨by assumption, by assumption⟩ | exact ⟨Or.inl (by assumption), by assumption⟩))⟩ ?_
      try simp only [w1, pr_i_0, pr_i_1]
      refine pr_ic rfl (fun h11 => ?_) (fun h11 => ?_)
      · simp only [ab_cmp, pr_i_0, pr_i_1] at h11
        exact absurd h11 e1
      · simp only [ab_cmp, pr_i_0, pr_i_1] at h11
        refine pr_seq (pc' := 19) 4 rfl ⟨⟨⟨⟨trivial, trivial⟩, (by first | assumption | decide | omega | exact ⟨Or.inl (by assumption), by assumption⟩ | exact ⟨by assumption, by assumption⟩ | (simp only [w1, pr_i_0, pr_i_1]; first | assumption | omega | exact ⟨by assumption, by assumption⟩ | exact ⟨Or.inl (by assumption), by assumption⟩))⟩, (by first | assumption | decide | omega | exact ⟨Or.inl (by assumption), by assumption⟩ | exact ⟨by assumption, by assumption⟩ | (simp only [w1, pr_i_0, pr_i_1]; first | assumption | omega | exact ⟨by assumption, by assumption⟩ | exact ⟨Or.inl (by assumption), by assumption⟩))⟩, trivial⟩ ?_
        try simp only [w1, pr_i_0, pr_i_1]
        refine pr_cv [_] rfl rfl rfl rfl rfl (Nat.le_of_ble_eq_true rfl) (by first | assumption | decide | omega | exact ⟨Or.inl (by assumption), by assumption⟩ | exact ⟨by assumption, by assumption⟩ | (simp only [w1, pr_i_0, pr_i_1]; first | assumption | omega | exact ⟨by assumption, by assumption⟩ | exact ⟨Or.inl (by assumption), by assumption⟩)) (Nat.le_of_ble_eq_true rfl) (hq) ?_
        refine pr_seq (pc' := 25) 2 rfl ⟨⟨trivial, trivial⟩, trivial⟩ ?_
        try simp only [w1, pr_i_0, pr_i_1]
        refine pr_cv [_, _, _] rfl rfl rfl rfl rfl (Nat.le_of_ble_eq_true rfl) (by first | assumption | decide | omega | exact ⟨Or.inl (by assumption), by assumption⟩ | exact ⟨by assumption, by assumption⟩ | (simp only [w1, pr_i_0, pr_i_1]; first | assumption | omega | exact ⟨by assumption, by assumption⟩ | exact ⟨Or.inl (by assumption), by assumption⟩)) (Nat.le_of_ble_eq_true rfl) (c_shareOf (i := k) h M hg hd e4 (by omega) hkd) ?_
        refine pr_seq (pc' := 5) 4 rfl ⟨⟨⟨⟨trivial, trivial⟩, trivial⟩, trivial⟩, trivial⟩ ?_
        try simp only [w1, pr_i_0, pr_i_1]
        have hh := ih (k + 1) (by omega)
        rw [show a_to (fun i => a_w d.2.2.1 kind (w.getD i 0) i * d.1 (w.getD i 0)) (k + 1) = a_to (fun i => a_w d.2.2.1 kind (w.getD i 0) i * d.1 (w.getD i 0)) k + a_w d.2.2.1 kind (w.getD k 0) k * d.1 (w.getD k 0) from rfl, ← nI_add, ← nI_1] at hh
        exact hh
  refine pr_seq (pc' := 5) 4 rfl ⟨⟨⟨⟨trivial, trivial⟩, trivial⟩, trivial⟩, trivial⟩ ?_
  exact loop w.length 0 (by omega)
theorem c_sumOfOne {g p : Nat} {d : Ld} {q : Pn} (h : ab_H) (M : ab_M) (hg : pr_Ld h M.2.2 g) (hd : ld_v M.1 g d) (hp : d.2.1[p]? = some q) : pr_C pX1_sumOfOne [.ref g, .int (nI p)] h M (some (.int (nI (a_sum d.1 d.2.2.1 q.1 q.2.2.2)))) h M := by
  obtain ⟨g0, g1, r1, r2, k1, k2, ⟨k3, k4⟩, hon⟩ := id hg
  obtain ⟨d1, d2, d3, d4, d5, d6, d7, d8⟩ := id hd
  have hl : p < d.2.1.length := (List.getElem?_eq_some_iff.mp hp).1
  have h8 : p < 8 := by omega
  obtain ⟨o1, o2, o3, o4, o5⟩ := hon p h8
  have e3 : (nI p).toNatClampNeg = p := nI_clamp (by omega)
  obtain ⟨q1, q2, q3, q4, q5, q6, q7⟩ := d8 p q hp
  have v1 : (24 ≤ ab_k h (g + 2) ∧ ab_k h (g + 2) ≤ 27) ∧ vp_in (nI p) (ab_n h (g + 2)) := ⟨by rw [k3]; decide, by rw [k4]; exact vp_in_nI h8 (by decide)⟩
  refine pr_seq (pc' := 19) 11 rfl ⟨⟨⟨⟨⟨⟨⟨⟨⟨⟨⟨trivial, (by first | assumption | decide | omega | exact ⟨Or.inl (by assumption), by assumption⟩ | exact ⟨by assumption, by assumption⟩ | (simp only [r2, e3, o1, o4, q1]; first | assumption | omega | exact ⟨by assumption, by assumption⟩ | exact ⟨Or.inl (by assumption), by assumption⟩))⟩, (by first | assumption | decide | omega | exact ⟨Or.inl (by assumption), by assumption⟩ | exact ⟨by assumption, by assumption⟩ | (simp only [r2, e3, o1, o4, q1]; first | assumption | omega | exact ⟨by assumption, by assumption⟩ | exact ⟨Or.inl (by assumption), by assumption⟩))⟩, (by first | assumption | decide | omega | exact ⟨Or.inl (by assumption), by assumption⟩ | exact ⟨by assumption, by assumption⟩ | (simp only [r2, e3, o1, o4, q1]; first | assumption | omega | exact ⟨by assumption, by assumption⟩ | exact ⟨Or.inl (by assumption), by assumption⟩))⟩, trivial⟩, (by first | assumption | decide | omega | exact ⟨Or.inl (by assumption), by assumption⟩ | exact ⟨by assumption, by assumption⟩ | (simp only [r2, e3, o1, o4, q1]; first | assumption | omega | exact ⟨by assumption, by assumption⟩ | exact ⟨Or.inl (by assumption), by assumption⟩))⟩, (by first | assumption | decide | omega | exact ⟨Or.inl (by assumption), by assumption⟩ | exact ⟨by assumption, by assumption⟩ | (simp only [r2, e3, o1, o4, q1]; first | assumption | omega | exact ⟨by assumption, by assumption⟩ | exact ⟨Or.inl (by assumption), by assumption⟩))⟩, (by first | assumption | decide | omega | exact ⟨Or.inl (by assumption), by assumption⟩ | exact ⟨by assumption, by assumption⟩ | (simp only [r2, e3, o1, o4, q1]; first | assumption | omega | exact ⟨by assumption, by assumption⟩ | exact ⟨Or.inl (by assumption), by assumption⟩))⟩, (by first | assumption | decide | omega | exact ⟨Or.inl (by assumption), by assumption⟩ | exact ⟨by assumption, by assumption⟩ | (simp only [r2, e3, o1, o4, q1]; first | assumption | omega | exact ⟨by assumption, by assumption⟩ | exact ⟨Or.inl (by assumption), by assumption⟩))⟩, trivial⟩, (by first | assumption | decide | omega | exact ⟨Or.inl (by assumption), by assumption⟩ | exact ⟨by assumption, by assumption⟩ | (simp only [r2, e3, o1, o4, q1]; first | assumption | omega | exact ⟨by assumption, by assumption⟩ | exact ⟨Or.inl (by assumption), by assumption⟩))⟩, (by first | assumption | decide | omega | exact ⟨Or.inl (by assumption), by assumption⟩ | exact ⟨by assumption, by assumption⟩ | (simp only [r2, e3, o1, o4, q1]; first | assumption | omega | exact ⟨by assumption, by assumption⟩ | exact ⟨Or.inl (by assumption), by assumption⟩))⟩ ?_
  try simp only [r2, e3, o1, o4, q1]
  refine pr_cv [_, _] rfl rfl rfl rfl rfl (Nat.le_of_ble_eq_true rfl) (by first | assumption | decide | omega | exact ⟨Or.inl (by assumption), by assumption⟩ | exact ⟨by assumption, by assumption⟩ | (simp only [r2, e3, o1, o4, q1]; first | assumption | omega | exact ⟨by assumption, by assumption⟩ | exact ⟨Or.inl (by assumption), by assumption⟩)) (Nat.le_of_ble_eq_true rfl) (c_sumOf h M hg hd o5 q7 (by omega)) ?_
  exact pr_irM rfl (by rfl) trivial (by rfl)
theorem nm_q_in {w : List Nat} {k : Nat} (hk : k < w.length) (hl : w.length ≤ 20) : nm_q w (nI k) = nI (w.getD k 0) := by
  unfold nm_q
  rw [if_neg (nI_pos (by omega)), if_neg (nI_ge hk (by omega)), nI_clamp (by omega)]
/-- how many times a letter's worth counts in a name -/
def a_win (law kind l : Nat) (w : List Nat) : Nat := a_to (fun i => if w.getD i 0 = l then a_w law kind l i else 0) w.length
theorem c_weightIn {g n kind l : Nat} {d : Ld} {w : List Nat} (h : ab_H) (M : ab_M) (hg : pr_Ld h M.2.2 g) (hd : ld_v M.1 g d) (hn : pr_Nm h M.2.2 n) (hw : nm_v M.1 n w) (hkd : kind < 1000) (hl : l < 26) : pr_C pX1_weightIn [.ref g, .ref n, .int (nI kind), .int (nI l)] h M (some (.int (nI (a_win d.2.2.1 kind l w)))) h M := by
  obtain ⟨g0, g1, -⟩ := id hg
  obtain ⟨n0, n1, -⟩ := id hn
  obtain ⟨w1, w2, w3⟩ := id hw
  obtain ⟨d1, d2, d3, d4, -⟩ := id hd
  unfold a_win
  have loop : ∀ dd k, k + dd = w.length → pr_E pX1_weightIn 6 [some (.ref g), some (.ref n), some (.int (nI kind)), some (.int (nI l)), some (.int (nI (a_to (fun i => if w.getD i 0 = l then a_w d.2.2.1 kind l i else 0) k))), some (.int (nI k))] [] h M (some (.int (nI (a_to (fun i => if w.getD i 0 = l then a_w d.2.2.1 kind l i else 0) w.length)))) h M := by
    intro dd
    induction dd with
    | zero =>
      intro k hk
      obtain rfl : k = w.length := by omega
      have e1 : nI w.length ≤ nI w.length := nI_le (Nat.le_refl _) (by omega)
      refine pr_seq (pc' := 12) 3 rfl ⟨⟨⟨trivial, trivial⟩, (by first | assumption | decide | omega | exact ⟨Or.inl (by assumption), by assumption⟩ | exact ⟨by assumption, by assumption⟩ | (simp only [w1, pr_i_0, pr_i_1]; first | assumption | omega | exact ⟨by assumption, by assumption⟩ | exact ⟨Or.inl (by assumption), by assumption⟩))⟩, (by first | assumption | decide | omega | exact ⟨Or.inl (by assumption), by assumption⟩ | exact ⟨by assumption, by assumption⟩ | (simp only [w1, pr_i_0, pr_i_1]; first | assumption | omega | exact ⟨by assumption, by assumption⟩ | exact ⟨Or.inl (by assumption), by assumption⟩))⟩ ?_
      try simp only [w1, pr_i_0, pr_i_1]
      refine pr_ic rfl (fun h12 => ?_) (fun h12 => ?_)
      · simp only [ab_cmp, pr_i_0, pr_i_1] at h12
        refine pr_seq (pc' := 46) 1 rfl ⟨trivial, trivial⟩ ?_
        try simp only [w1, pr_i_0, pr_i_1]
        exact pr_irM rfl (by rfl) trivial (by rfl)
      · simp only [ab_cmp, pr_i_0, pr_i_1] at h12
        exact absurd e1 h12
    | succ dd ih =>
      intro k hk
      have e1 : ¬ nI w.length ≤ nI k := nI_ge (by omega) (by omega)
      have e4 := (w3 k (by omega)).2
      have hq := c_letterAt (nI k) h M hn hw
      rw [nm_q_in (by omega) w2] at hq
      have hh := ih (k + 1) (by omega)
      by_cases c1 : w.getD k 0 = l
      · rw [show a_to (fun i => if w.getD i 0 = l then a_w d.2.2.1 kind l i else 0) (k + 1) = a_to (fun i => if w.getD i 0 = l then a_w d.2.2.1 kind l i else 0) k + (if w.getD k 0 = l then a_w d.2.2.1 kind l k else 0) from rfl, if_pos c1, ← nI_add, ← nI_1] at hh
        rw [c1] at hq
        refine pr_seq (pc' := 12) 3 rfl ⟨⟨⟨trivial, trivial⟩, (by first | assumption | decide | omega | exact ⟨Or.inl (by assumption), by assumption⟩ | exact ⟨by assumption, by assumption⟩ | (simp only [w1, pr_i_0, pr_i_1]; first | assumption | omega | exact ⟨by assumption, by assumption⟩ | exact ⟨Or.inl (by assumption), by assumption⟩))⟩, (by first | assumption | decide | omega | exact ⟨Or.inl (by assumption), by assumption⟩ | exact ⟨by assumption, by assumption⟩ | (simp only [w1, pr_i_0, pr_i_1]; first | assumption | omega | exact ⟨by assumption, by assumption⟩ | exact ⟨Or.inl (by assumption), by assumption⟩))⟩ ?_
        try simp only [w1, pr_i_0, pr_i_1]
        refine pr_ic rfl (fun h12 => ?_) (fun h12 => ?_)
        · simp only [ab_cmp, pr_i_0, pr_i_1] at h12
          exact absurd h12 e1
        · simp only [ab_cmp, pr_i_0, pr_i_1] at h12
          refine pr_seq (pc' := 18) 2 rfl ⟨⟨trivial, (by first | assumption | decide | omega | exact ⟨Or.inl (by assumption), by assumption⟩ | exact ⟨by assumption, by assumption⟩ | (simp only [w1, pr_i_0, pr_i_1]; first | assumption | omega | exact ⟨by assumption, by assumption⟩ | exact ⟨Or.inl (by assumption), by assumption⟩))⟩, trivial⟩ ?_
          try simp only [w1, pr_i_0, pr_i_1]
          refine pr_cv [_] rfl rfl rfl rfl rfl (Nat.le_of_ble_eq_true rfl) (by first | assumption | decide | omega | exact ⟨Or.inl (by assumption), by assumption⟩ | exact ⟨by assumption, by assumption⟩ | (simp only [w1, pr_i_0, pr_i_1]; first | assumption | omega | exact ⟨by assumption, by assumption⟩ | exact ⟨Or.inl (by assumption), by assumption⟩)) (Nat.le_of_ble_eq_true rfl) (hq) ?_
          refine pr_seq (pc' := 22) 1 rfl ⟨trivial, trivial⟩ ?_
          try simp only [w1, pr_i_0, pr_i_1]
          refine pr_ic rfl (fun h22 => ?_) (fun h22 => ?_)
          · simp only [ab_cmp, pr_i_0, pr_i_1] at h22
            exact absurd trivial h22
          · simp only [ab_cmp, pr_i_0, pr_i_1] at h22
            refine pr_seq (pc' := 32) 5 rfl ⟨⟨⟨⟨⟨trivial, trivial⟩, (by first | assumption | decide | omega | exact ⟨Or.inl (by assumption), by assumption⟩ | exact ⟨by assumption, by assumption⟩ | (simp only [w1, pr_i_0, pr_i_1]; first | assumption | omega | exact ⟨by assumption, by assumption⟩ | exact ⟨Or.inl (by assumption), by assumption⟩))⟩, trivial⟩, trivial⟩, trivial⟩ ?_
            try simp only [w1, pr_i_0, pr_i_1]
            refine pr_cv [_, _, _] rfl rfl rfl rfl rfl (Nat.le_of_ble_eq_true rfl) (by first | assumption | decide | omega | exact ⟨Or.inl (by assumption), by assumption⟩ | exact ⟨by assumption, by assumption⟩ | (simp only [w1, pr_i_0, pr_i_1]; first | assumption | omega | exact ⟨by assumption, by assumption⟩ | exact ⟨Or.inl (by assumption), by assumption⟩)) (Nat.le_of_ble_eq_true rfl) (c_weight (law := d.2.2.1) h M g0 g1 d3 d4 (by omega) (by omega) hkd) ?_
            refine pr_seq (pc' := 6) 4 rfl ⟨⟨⟨⟨trivial, trivial⟩, trivial⟩, trivial⟩, trivial⟩ ?_
            try simp only [w1, pr_i_0, pr_i_1]
            exact hh
      · rw [show a_to (fun i => if w.getD i 0 = l then a_w d.2.2.1 kind l i else 0) (k + 1) = a_to (fun i => if w.getD i 0 = l then a_w d.2.2.1 kind l i else 0) k + (if w.getD k 0 = l then a_w d.2.2.1 kind l k else 0) from rfl, if_neg c1, Nat.add_zero, ← nI_1] at hh
        have c2 := nI_ne c1 (by omega) (by omega)
        refine pr_seq (pc' := 12) 3 rfl ⟨⟨⟨trivial, trivial⟩, (by first | assumption | decide | omega | exact ⟨Or.inl (by assumption), by assumption⟩ | exact ⟨by assumption, by assumption⟩ | (simp only [w1, pr_i_0, pr_i_1]; first | assumption | omega | exact ⟨by assumption, by assumption⟩ | exact ⟨Or.inl (by assumption), by assumption⟩))⟩, (by first | assumption | decide | omega | exact ⟨Or.inl (by assumption), by assumption⟩ | exact ⟨by assumption, by assumption⟩ | (simp only [w1, pr_i_0, pr_i_1]; first | assumption | omega | exact ⟨by assumption, by assumption⟩ | exact ⟨Or.inl (by assumption), by assumption⟩))⟩ ?_
        try simp only [w1, pr_i_0, pr_i_1]
        refine pr_ic rfl (fun h12 => ?_) (fun h12 => ?_)
        · simp only [ab_cmp, pr_i_0, pr_i_1] at h12
          exact absurd h12 e1
        · simp only [ab_cmp, pr_i_0, pr_i_1] at h12
          refine pr_seq (pc' := 18) 2 rfl ⟨⟨trivial, (by first | assumption | decide | omega | exact ⟨Or.inl (by assumption), by assumption⟩ | exact ⟨by assumption, by assumption⟩ | (simp only [w1, pr_i_0, pr_i_1]; first | assumption | omega | exact ⟨by assumption, by assumption⟩ | exact ⟨Or.inl (by assumption), by assumption⟩))⟩, trivial⟩ ?_
          try simp only [w1, pr_i_0, pr_i_1]
          refine pr_cv [_] rfl rfl rfl rfl rfl (Nat.le_of_ble_eq_true rfl) (by first | assumption | decide | omega | exact ⟨Or.inl (by assumption), by assumption⟩ | exact ⟨by assumption, by assumption⟩ | (simp only [w1, pr_i_0, pr_i_1]; first | assumption | omega | exact ⟨by assumption, by assumption⟩ | exact ⟨Or.inl (by assumption), by assumption⟩)) (Nat.le_of_ble_eq_true rfl) (hq) ?_
          refine pr_seq (pc' := 22) 1 rfl ⟨trivial, trivial⟩ ?_
          try simp only [w1, pr_i_0, pr_i_1]
          refine pr_ic rfl (fun h22 => ?_) (fun h22 => ?_)
          · simp only [ab_cmp, pr_i_0, pr_i_1] at h22
            refine pr_seq (pc' := 6) 2 rfl ⟨⟨trivial, trivial⟩, trivial⟩ ?_
            try simp only [w1, pr_i_0, pr_i_1]
            exact hh
          · simp only [ab_cmp, pr_i_0, pr_i_1] at h22
            exact absurd (Classical.not_not.mp h22) c2
  refine pr_seq (pc' := 6) 4 rfl ⟨⟨⟨⟨trivial, trivial⟩, trivial⟩, trivial⟩, trivial⟩ ?_
  exact loop w.length 0 (by omega)
theorem c_lettersOfAll {g : Nat} {d : Ld} (h : ab_H) (M : ab_M) (hg : pr_Ld h M.2.2 g) (hd : ld_v M.1 g d) : pr_C pX1_lettersOfAll [.ref g] h M (some (.int (nI (a_to (fun p => ((d.2.1.getD p (0, 0, 0, [])).2.2.2).length) d.2.1.length)))) h M := by
  obtain ⟨g0, g1, r1, r2, k1, k2, ⟨k3, k4⟩, hon⟩ := id hg
  obtain ⟨d1, d2, d3, d4, d5, d6, d7, d8⟩ := id hd
  have loop : ∀ dd k, k + dd = d.2.1.length → pr_E pX1_lettersOfAll 4 [some (.ref g), some (.int (nI (a_to (fun p => ((d.2.1.getD p (0, 0, 0, [])).2.2.2).length) k))), some (.int (nI k))] [] h M (some (.int (nI (a_to (fun p => ((d.2.1.getD p (0, 0, 0, [])).2.2.2).length) d.2.1.length)))) h M := by
    intro dd
    induction dd with
    | zero =>
      intro k hk
      obtain rfl : k = d.2.1.length := by omega
      have e1 : nI d.2.1.length ≤ nI d.2.1.length := nI_le (Nat.le_refl _) (by omega)
      refine pr_seq (pc' := 9) 3 rfl ⟨⟨⟨trivial, trivial⟩, (by first | assumption | decide | omega | exact ⟨Or.inl (by assumption), by assumption⟩ | exact ⟨by assumption, by assumption⟩ | (simp only [d1, pr_i_0, pr_i_1]; first | assumption | omega | exact ⟨by assumption, by assumption⟩ | exact ⟨Or.inl (by assumption), by assumption⟩))⟩, (by first | assumption | decide | omega | exact ⟨Or.inl (by assumption), by assumption⟩ | exact ⟨by assumption, by assumption⟩ | (simp only [d1, pr_i_0, pr_i_1]; first | assumption | omega | exact ⟨by assumption, by assumption⟩ | exact ⟨Or.inl (by assumption), by assumption⟩))⟩ ?_
      try simp only [d1, pr_i_0, pr_i_1]
      refine pr_ic rfl (fun h9 => ?_) (fun h9 => ?_)
      · simp only [ab_cmp, pr_i_0, pr_i_1] at h9
        refine pr_seq (pc' := 34) 1 rfl ⟨trivial, trivial⟩ ?_
        try simp only [d1, pr_i_0, pr_i_1]
        exact pr_irM rfl (by rfl) trivial (by rfl)
      · simp only [ab_cmp, pr_i_0, pr_i_1] at h9
        exact absurd e1 h9
    | succ dd ih =>
      intro k hk
      have e1 : ¬ nI d.2.1.length ≤ nI k := nI_ge (by omega) (by omega)
      have hl : k < d.2.1.length := by omega
      have hp : d.2.1[k]? = some (d.2.1.getD k (0, 0, 0, [])) := by
        rw [List.getD_eq_getElem?_getD, List.getElem?_eq_getElem hl]
        rfl
      have h8 : k < 8 := by omega
      obtain ⟨o1, o2, o3, o4, o5⟩ := hon k h8
      obtain ⟨n0, n1, -⟩ := id o5
      have e3 : (nI k).toNatClampNeg = k := nI_clamp (by omega)
      have q7 := (d8 k _ hp).2.2.2.2.2.2.1
      have v1 : (24 ≤ ab_k h (g + 2) ∧ ab_k h (g + 2) ≤ 27) ∧ vp_in (nI k) (ab_n h (g + 2)) := ⟨by rw [k3]; decide, by rw [k4]; exact vp_in_nI h8 (by decide)⟩
      have hh := ih (k + 1) (by omega)
      rw [show a_to (fun p => ((d.2.1.getD p (0, 0, 0, [])).2.2.2).length) (k + 1) = a_to (fun p => ((d.2.1.getD p (0, 0, 0, [])).2.2.2).length) k + ((d.2.1.getD k (0, 0, 0, [])).2.2.2).length from rfl, ← nI_add, ← nI_1] at hh
      refine pr_seq (pc' := 9) 3 rfl ⟨⟨⟨trivial, trivial⟩, (by first | assumption | decide | omega | exact ⟨Or.inl (by assumption), by assumption⟩ | exact ⟨by assumption, by assumption⟩ | (simp only [d1, r2, e3, o1, o4, q7, pr_i_0, pr_i_1]; first | assumption | omega | exact ⟨by assumption, by assumption⟩ | exact ⟨Or.inl (by assumption), by assumption⟩))⟩, (by first | assumption | decide | omega | exact ⟨Or.inl (by assumption), by assumption⟩ | exact ⟨by assumption, by assumption⟩ | (simp only [d1, r2, e3, o1, o4, q7, pr_i_0, pr_i_1]; first | assumption | omega | exact ⟨by assumption, by assumption⟩ | exact ⟨Or.inl (by assumption), by assumption⟩))⟩ ?_
      try simp only [d1, r2, e3, o1, o4, q7, pr_i_0, pr_i_1]
      refine pr_ic rfl (fun h9 => ?_) (fun h9 => ?_)
      · simp only [ab_cmp, pr_i_0, pr_i_1] at h9
        exact absurd h9 e1
      · simp only [ab_cmp, pr_i_0, pr_i_1] at h9
        refine pr_seq (pc' := 4) 11 rfl ⟨⟨⟨⟨⟨⟨⟨⟨⟨⟨⟨trivial, trivial⟩, (by first | assumption | decide | omega | exact ⟨Or.inl (by assumption), by assumption⟩ | exact ⟨by assumption, by assumption⟩ | (simp only [d1, r2, e3, o1, o4, q7, pr_i_0, pr_i_1]; first | assumption | omega | exact ⟨by assumption, by assumption⟩ | exact ⟨Or.inl (by assumption), by assumption⟩))⟩, (by first | assumption | decide | omega | exact ⟨Or.inl (by assumption), by assumption⟩ | exact ⟨by assumption, by assumption⟩ | (simp only [d1, r2, e3, o1, o4, q7, pr_i_0, pr_i_1]; first | assumption | omega | exact ⟨by assumption, by assumption⟩ | exact ⟨Or.inl (by assumption), by assumption⟩))⟩, trivial⟩, (by first | assumption | decide | omega | exact ⟨Or.inl (by assumption), by assumption⟩ | exact ⟨by assumption, by assumption⟩ | (simp only [d1, r2, e3, o1, o4, q7, pr_i_0, pr_i_1]; first | assumption | omega | exact ⟨by assumption, by assumption⟩ | exact ⟨Or.inl (by assumption), by assumption⟩))⟩, (by first | assumption | decide | omega | exact ⟨Or.inl (by assumption), by assumption⟩ | exact ⟨by assumption, by assumption⟩ | (simp only [d1, r2, e3, o1, o4, q7, pr_i_0, pr_i_1]; first | assumption | omega | exact ⟨by assumption, by assumption⟩ | exact ⟨Or.inl (by assumption), by assumption⟩))⟩, (by first | assumption | decide | omega | exact ⟨Or.inl (by assumption), by assumption⟩ | exact ⟨by assumption, by assumption⟩ | (simp only [d1, r2, e3, o1, o4, q7, pr_i_0, pr_i_1]; first | assumption | omega | exact ⟨by assumption, by assumption⟩ | exact ⟨Or.inl (by assumption), by assumption⟩))⟩, trivial⟩, trivial⟩, trivial⟩, trivial⟩ ?_
        try simp only [d1, r2, e3, o1, o4, q7, pr_i_0, pr_i_1]
        exact hh
  refine pr_seq (pc' := 4) 4 rfl ⟨⟨⟨⟨trivial, trivial⟩, trivial⟩, trivial⟩, trivial⟩ ?_
  exact loop d.2.1.length 0 (by omega)
theorem c_worthsOfAll {g : Nat} {d : Ld} (h : ab_H) (M : ab_M) (hg : pr_Ld h M.2.2 g) (hd : ld_v M.1 g d) : pr_C pX1_worthsOfAll [.ref g] h M (some (.int (nI (a_to d.1 26)))) h M := by
  obtain ⟨g0, g1, r1, r2, k1, k2, ⟨k3, k4⟩, hon⟩ := id hg
  obtain ⟨d1, d2, d3, d4, d5, d6, d7, d8⟩ := id hd
  have loop : ∀ dd k, k + dd = 26 → pr_E pX1_worthsOfAll 4 [some (.ref g), some (.int (nI (a_to d.1 k))), some (.int (nI k))] [] h M (some (.int (nI (a_to d.1 26)))) h M := by
    intro dd
    induction dd with
    | zero =>
      intro k hk
      obtain rfl : k = 26 := by omega
      have e1 : (26 : Int32) ≤ nI 26 := by decide
      refine pr_seq (pc' := 7) 2 rfl ⟨⟨trivial, trivial⟩, trivial⟩ ?_
      refine pr_ic rfl (fun h7 => ?_) (fun h7 => ?_)
      · simp only [ab_cmp, pr_8_26, pr_i_0, pr_i_1] at h7
        refine pr_seq (pc' := 26) 1 rfl ⟨trivial, trivial⟩ ?_
        exact pr_irM rfl (by rfl) trivial (by rfl)
      · simp only [ab_cmp, pr_8_26, pr_i_0, pr_i_1] at h7
        exact absurd e1 h7
    | succ dd ih =>
      intro k hk
      have e1 : ¬ (26 : Int32) ≤ nI k := by rw [pr_n26]; exact nI_ge (by omega) (by omega)
      have e3 : (nI k).toNatClampNeg = k := nI_clamp (by omega)
      have w1 := (d7 k (by omega)).1
      have v1 : vp_in (nI k) (ab_n h (g + 1)) := by rw [k2]; exact vp_in_nI (by omega) (by decide)
      have hh := ih (k + 1) (by omega)
      rw [show a_to d.1 (k + 1) = a_to d.1 k + d.1 k from rfl, ← nI_add, ← nI_1] at hh
      refine pr_seq (pc' := 7) 2 rfl ⟨⟨trivial, trivial⟩, trivial⟩ ?_
      try simp only [r1, e3, w1, pr_8_26, pr_i_0, pr_i_1]
      refine pr_ic rfl (fun h7 => ?_) (fun h7 => ?_)
      · simp only [ab_cmp, pr_8_26, pr_i_0, pr_i_1] at h7
        exact absurd h7 e1
      · simp only [ab_cmp, pr_8_26, pr_i_0, pr_i_1] at h7
        refine pr_seq (pc' := 4) 9 rfl ⟨⟨⟨⟨⟨⟨⟨⟨⟨trivial, trivial⟩, (by first | assumption | decide | omega | exact ⟨Or.inl (by assumption), by assumption⟩ | exact ⟨by assumption, by assumption⟩ | (simp only [r1, e3, w1, pr_8_26, pr_i_0, pr_i_1]; first | assumption | omega | exact ⟨by assumption, by assumption⟩ | exact ⟨Or.inl (by assumption), by assumption⟩))⟩, (by first | assumption | decide | omega | exact ⟨Or.inl (by assumption), by assumption⟩ | exact ⟨by assumption, by assumption⟩ | (simp only [r1, e3, w1, pr_8_26, pr_i_0, pr_i_1]; first | assumption | omega | exact ⟨by assumption, by assumption⟩ | exact ⟨Or.inl (by assumption), by assumption⟩))⟩, trivial⟩, (by first | assumption | decide | omega | exact ⟨Or.inl (by assumption), by assumption⟩ | exact ⟨by assumption, by assumption⟩ | (simp only [r1, e3, w1, pr_8_26, pr_i_0, pr_i_1]; first | assumption | omega | exact ⟨by assumption, by assumption⟩ | exact ⟨Or.inl (by assumption), by assumption⟩))⟩, trivial⟩, trivial⟩, trivial⟩, trivial⟩ ?_
        try simp only [r1, e3, w1, pr_8_26, pr_i_0, pr_i_1]
        exact hh
  refine pr_seq (pc' := 4) 4 rfl ⟨⟨⟨⟨trivial, trivial⟩, trivial⟩, trivial⟩, trivial⟩ ?_
  exact loop 26 0 (by omega)
/-- a land's worths as they are at first, up to k -/
def ld_clr (I : Nat → Nat → Int32) (g k : Nat) : Nat → Nat → Int32 := fun a j => if a = g + 1 ∧ j < k then nI (j + 1) else I a j
theorem ld_clr_s {I : Nat → Nat → Int32} {g k : Nat} : ab_u (ld_clr I g k) (g + 1) k (nI (k + 1)) = ld_clr I g (k + 1) := by
  funext a j
  unfold ab_u ld_clr
  by_cases h1 : a = g + 1 ∧ j = k
  · rw [if_pos h1, if_pos (by omega), h1.2]
  · rw [if_neg h1]
    by_cases h2 : a = g + 1 ∧ j < k
    · rw [if_pos h2, if_pos (by omega)]
    · rw [if_neg h2, if_neg (by omega)]
def ld_new (I : Nat → Nat → Int32) (g : Nat) : Nat → Nat → Int32 := ab_u (ab_u (ab_u (ld_clr I g 26) g 2 0) g 3 0) g 4 1
theorem c_lclear {g : Nat} (h : ab_H) (M : ab_M) (hg : pr_Ld h M.2.2 g) : pr_C pX1_clear [.ref g] h M none h (ld_new M.1 g, M.2.1, M.2.2) := by
  obtain ⟨g0, g1, r1, r2, k1, k2, -⟩ := id hg
  have loop : ∀ dd k, k + dd = 26 → pr_E pX1_clear 2 [some (.ref g), some (.int (nI k))] [] h (ld_clr M.1 g k, M.2.1, M.2.2) none h (ld_new M.1 g, M.2.1, M.2.2) := by
    intro dd
    induction dd with
    | zero =>
      intro k hk
      obtain rfl : k = 26 := by omega
      have e1 : (26 : Int32) ≤ nI 26 := by decide
      refine pr_seq (pc' := 5) 2 rfl ⟨⟨trivial, trivial⟩, trivial⟩ ?_
      refine pr_ic rfl (fun h5 => ?_) (fun h5 => ?_)
      · simp only [ab_cmp, pr_8_26, pr_i_0, pr_i_1] at h5
        refine pr_seq (pc' := 38) 9 rfl ⟨⟨⟨⟨⟨⟨⟨⟨⟨trivial, (by first | assumption | decide | omega | exact ⟨Or.inl (by assumption), by assumption⟩ | exact ⟨by assumption, by assumption⟩)⟩, trivial⟩, (by first | assumption | decide | omega | exact ⟨Or.inl (by assumption), by assumption⟩ | exact ⟨by assumption, by assumption⟩)⟩, (by first | assumption | decide | omega | exact ⟨Or.inl (by assumption), by assumption⟩ | exact ⟨by assumption, by assumption⟩)⟩, trivial⟩, (by first | assumption | decide | omega | exact ⟨Or.inl (by assumption), by assumption⟩ | exact ⟨by assumption, by assumption⟩)⟩, (by first | assumption | decide | omega | exact ⟨Or.inl (by assumption), by assumption⟩ | exact ⟨by assumption, by assumption⟩)⟩, trivial⟩, (by first | assumption | decide | omega | exact ⟨Or.inl (by assumption), by assumption⟩ | exact ⟨by assumption, by assumption⟩)⟩ ?_
        exact pr_vrM rfl rfl rfl (by rfl)
      · simp only [ab_cmp, pr_8_26, pr_i_0, pr_i_1] at h5
        exact absurd e1 h5
    | succ dd ih =>
      intro k hk
      have e1 : ¬ (26 : Int32) ≤ nI k := by rw [pr_n26]; exact nI_ge (by omega) (by omega)
      have e3 : (nI k).toNatClampNeg = k := nI_clamp (by omega)
      have v1 : vp_in (nI k) (ab_n h (g + 1)) := by rw [k2]; exact vp_in_nI (by omega) (by decide)
      have hh := ih (k + 1) (by omega)
      rw [← ld_clr_s] at hh
      refine pr_seq (pc' := 5) 2 rfl ⟨⟨trivial, trivial⟩, trivial⟩ ?_
      try simp only [r1, e3, nI_1, pr_8_26, pr_i_0, pr_i_1]
      refine pr_ic rfl (fun h5 => ?_) (fun h5 => ?_)
      · simp only [ab_cmp, pr_8_26, pr_i_0, pr_i_1] at h5
        exact absurd h5 e1
      · simp only [ab_cmp, pr_8_26, pr_i_0, pr_i_1] at h5
        refine pr_seq (pc' := 2) 9 rfl ⟨⟨⟨⟨⟨⟨⟨⟨⟨trivial, (by first | assumption | decide | omega | exact ⟨Or.inl (by assumption), by assumption⟩ | exact ⟨by assumption, by assumption⟩ | (simp only [r1, e3, nI_1, pr_8_26, pr_i_0, pr_i_1]; first | assumption | omega | exact ⟨by assumption, by assumption⟩ | exact ⟨Or.inl (by assumption), by assumption⟩))⟩, (by first | assumption | decide | omega | exact ⟨Or.inl (by assumption), by assumption⟩ | exact ⟨by assumption, by assumption⟩ | (simp only [r1, e3, nI_1, pr_8_26, pr_i_0, pr_i_1]; first | assumption | omega | exact ⟨by assumption, by assumption⟩ | exact ⟨Or.inl (by assumption), by assumption⟩))⟩, trivial⟩, trivial⟩, trivial⟩, trivial⟩, (by first | assumption | decide | omega | exact ⟨Or.inl (by assumption), by assumption⟩ | exact ⟨by assumption, by assumption⟩ | (simp only [r1, e3, nI_1, pr_8_26, pr_i_0, pr_i_1]; first | assumption | omega | exact ⟨by assumption, by assumption⟩ | exact ⟨Or.inl (by assumption), by assumption⟩))⟩, trivial⟩, trivial⟩ ?_
        try simp only [r1, e3, nI_1, pr_8_26, pr_i_0, pr_i_1]
        exact hh
  have h0 := loop 26 0 (by omega)
  rw [show ld_clr M.1 g 0 = M.1 by funext a j; unfold ld_clr; rw [if_neg (by omega)]] at h0
  refine pr_seq (pc' := 2) 2 rfl ⟨⟨trivial, trivial⟩, trivial⟩ ?_
  exact h0
theorem ld_new_far {I : Nat → Nat → Int32} {g a : Nat} (h1 : a ≠ g) (h2 : a ≠ g + 1) : ld_new I g a = I a := by
  unfold ld_new
  rw [ab_u_ne h1, ab_u_ne h1, ab_u_ne h1]
  funext j
  unfold ld_clr
  rw [if_neg (by omega)]
theorem ld_new_v {I : Nat → Nat → Int32} {g : Nat} : ld_v (ld_new I g) g (fun l => l + 1, [], 0, 1) := by
  refine ⟨?_, by decide, ?_, by decide, ?_, by decide, fun l hl => ⟨?_, by show l + 1 ≤ 40; omega⟩, fun p q h => by simp at h⟩
  · simp [ld_new, ab_u]
    rfl
  · simp [ld_new, ab_u]
    rfl
  · simp [ld_new, ab_u]
    rfl
  · unfold ld_new
    rw [ab_u_ne (by omega), ab_u_ne (by omega), ab_u_ne (by omega)]
    unfold ld_clr
    rw [if_pos ⟨rfl, hl⟩]
theorem on_v_congr {I I' : Nat → Nat → Int32} {a : Nat} {q : Pn} (h0 : I' a = I a) (h1 : I' (a + 1) = I (a + 1)) (h2 : I' (a + 2) = I (a + 2)) (h : on_v I a q) : on_v I' a q := by
  obtain ⟨a1, a2, a3, a4, a5, a6, a7⟩ := h
  exact ⟨by rw [h0]; exact a1, a2, by rw [h0]; exact a3, a4, by rw [h0]; exact a5, a6, nm_v_congr h1 h2 a7⟩
/-- One.copy -/
def on_cp (I : Nat → Nat → Int32) (a o m : Nat) : Nat → Nat → Int32 := ab_u (ab_u (ab_u (nm_cp I (a + 1) (o + 1) m) a 1 (I o 1)) a 2 (I o 2)) a 3 (I o 3)
theorem c_ocopy {a o : Nat} {q : Pn} (h : ab_H) (M : ab_M) (ha : pr_On h M.2.2 a) (ho : pr_On h M.2.2 o) (hao : a + 2 < o ∨ o + 2 < a) (hq : on_v M.1 o q) : pr_C pX3_copy [.ref a, .ref o] h M none h (on_cp M.1 a o q.2.2.2.length, M.2.1, M.2.2) := by
  obtain ⟨a0, a1, a2, a3⟩ := id ha
  obtain ⟨o0, o1, o2, o3⟩ := id ho
  obtain ⟨q1, q2, q3, q4, q5, q6, q7⟩ := id hq
  have n1 := a3.2.1
  have f1 : nm_cp M.1 (a + 1) (o + 1) q.2.2.2.length o = M.1 o := nm_cp_far (by omega) (by omega)
  have f2 : ∀ x y z : Int32, ab_u (ab_u (nm_cp M.1 (a + 1) (o + 1) q.2.2.2.length) a 1 x) a 2 y o = M.1 o := fun x y z => by rw [ab_u_ne (by omega), ab_u_ne (by omega), f1]
  have f3 : ∀ x : Int32, ab_u (nm_cp M.1 (a + 1) (o + 1) q.2.2.2.length) a 1 x o = M.1 o := fun x => by rw [ab_u_ne (by omega), f1]
  refine pr_seq (pc' := 8) 4 rfl ⟨⟨⟨⟨trivial, (by first | assumption | decide | omega | exact ⟨Or.inl (by assumption), by assumption⟩ | exact ⟨by assumption, by assumption⟩ | (simp only [a2, o2]; first | assumption | omega | exact ⟨by assumption, by assumption⟩ | exact ⟨Or.inl (by assumption), by assumption⟩))⟩, (by first | assumption | decide | omega | exact ⟨Or.inl (by assumption), by assumption⟩ | exact ⟨by assumption, by assumption⟩ | (simp only [a2, o2]; first | assumption | omega | exact ⟨by assumption, by assumption⟩ | exact ⟨Or.inl (by assumption), by assumption⟩))⟩, (by first | assumption | decide | omega | exact ⟨Or.inl (by assumption), by assumption⟩ | exact ⟨by assumption, by assumption⟩ | (simp only [a2, o2]; first | assumption | omega | exact ⟨by assumption, by assumption⟩ | exact ⟨Or.inl (by assumption), by assumption⟩))⟩, (by first | assumption | decide | omega | exact ⟨Or.inl (by assumption), by assumption⟩ | exact ⟨by assumption, by assumption⟩ | (simp only [a2, o2]; first | assumption | omega | exact ⟨by assumption, by assumption⟩ | exact ⟨Or.inl (by assumption), by assumption⟩))⟩ ?_
  try simp only [a2, o2]
  refine pr_cv [_] rfl rfl rfl rfl rfl (Nat.le_of_ble_eq_true rfl) (by first | assumption | decide | omega | exact ⟨Or.inl (by assumption), by assumption⟩ | exact ⟨by assumption, by assumption⟩ | (simp only [a2, o2]; first | assumption | omega | exact ⟨by assumption, by assumption⟩ | exact ⟨Or.inl (by assumption), by assumption⟩)) (Nat.le_of_ble_eq_true rfl) (c_ncopy (m := q.2.2.2.length) h M a3 o3 (by omega) q7.1 q7.2.1) ?_
  refine pr_seq (pc' := 35) 12 rfl ⟨⟨⟨⟨⟨⟨⟨⟨⟨⟨⟨⟨trivial, (by first | assumption | decide | omega | exact ⟨Or.inl (by assumption), by assumption⟩ | exact ⟨by assumption, by assumption⟩ | (simp only [a2, o2]; first | assumption | omega | exact ⟨by assumption, by assumption⟩ | exact ⟨Or.inl (by assumption), by assumption⟩))⟩, (by first | assumption | decide | omega | exact ⟨Or.inl (by assumption), by assumption⟩ | exact ⟨by assumption, by assumption⟩ | (simp only [a2, o2]; first | assumption | omega | exact ⟨by assumption, by assumption⟩ | exact ⟨Or.inl (by assumption), by assumption⟩))⟩, (by first | assumption | decide | omega | exact ⟨Or.inl (by assumption), by assumption⟩ | exact ⟨by assumption, by assumption⟩ | (simp only [a2, o2]; first | assumption | omega | exact ⟨by assumption, by assumption⟩ | exact ⟨Or.inl (by assumption), by assumption⟩))⟩, (by first | assumption | decide | omega | exact ⟨Or.inl (by assumption), by assumption⟩ | exact ⟨by assumption, by assumption⟩ | (simp only [a2, o2]; first | assumption | omega | exact ⟨by assumption, by assumption⟩ | exact ⟨Or.inl (by assumption), by assumption⟩))⟩, (by first | assumption | decide | omega | exact ⟨Or.inl (by assumption), by assumption⟩ | exact ⟨by assumption, by assumption⟩ | (simp only [a2, o2]; first | assumption | omega | exact ⟨by assumption, by assumption⟩ | exact ⟨Or.inl (by assumption), by assumption⟩))⟩, (by first | assumption | decide | omega | exact ⟨Or.inl (by assumption), by assumption⟩ | exact ⟨by assumption, by assumption⟩ | (simp only [a2, o2]; first | assumption | omega | exact ⟨by assumption, by assumption⟩ | exact ⟨Or.inl (by assumption), by assumption⟩))⟩, (by first | assumption | decide | omega | exact ⟨Or.inl (by assumption), by assumption⟩ | exact ⟨by assumption, by assumption⟩ | (simp only [a2, o2]; first | assumption | omega | exact ⟨by assumption, by assumption⟩ | exact ⟨Or.inl (by assumption), by assumption⟩))⟩, (by first | assumption | decide | omega | exact ⟨Or.inl (by assumption), by assumption⟩ | exact ⟨by assumption, by assumption⟩ | (simp only [a2, o2]; first | assumption | omega | exact ⟨by assumption, by assumption⟩ | exact ⟨Or.inl (by assumption), by assumption⟩))⟩, (by first | assumption | decide | omega | exact ⟨Or.inl (by assumption), by assumption⟩ | exact ⟨by assumption, by assumption⟩ | (simp only [a2, o2]; first | assumption | omega | exact ⟨by assumption, by assumption⟩ | exact ⟨Or.inl (by assumption), by assumption⟩))⟩, (by first | assumption | decide | omega | exact ⟨Or.inl (by assumption), by assumption⟩ | exact ⟨by assumption, by assumption⟩ | (simp only [a2, o2]; first | assumption | omega | exact ⟨by assumption, by assumption⟩ | exact ⟨Or.inl (by assumption), by assumption⟩))⟩, (by first | assumption | decide | omega | exact ⟨Or.inl (by assumption), by assumption⟩ | exact ⟨by assumption, by assumption⟩ | (simp only [a2, o2]; first | assumption | omega | exact ⟨by assumption, by assumption⟩ | exact ⟨Or.inl (by assumption), by assumption⟩))⟩, (by first | assumption | decide | omega | exact ⟨Or.inl (by assumption), by assumption⟩ | exact ⟨by assumption, by assumption⟩ | (simp only [a2, o2]; first | assumption | omega | exact ⟨by assumption, by assumption⟩ | exact ⟨Or.inl (by assumption), by assumption⟩))⟩ ?_
  try simp only [a2, o2]
  exact pr_vrM rfl rfl rfl (by unfold on_cp; rw [f2 _ _ 0, f3, f1])
theorem on_cp_far {I : Nat → Nat → Int32} {a o m b : Nat} (h0 : b ≠ a) (h1 : b ≠ a + 1) (h2 : b ≠ a + 2) : on_cp I a o m b = I b := by
  unfold on_cp
  rw [ab_u_ne h0, ab_u_ne h0, ab_u_ne h0, nm_cp_far h1 h2]
theorem on_cp_v {I : Nat → Nat → Int32} {a o : Nat} {q : Pn} (hao : a + 2 < o ∨ o + 2 < a) (hq : on_v I o q) : on_v (on_cp I a o q.2.2.2.length) a q := by
  obtain ⟨q1, q2, q3, q4, q5, q6, q7⟩ := hq
  refine ⟨?_, q2, ?_, q4, ?_, q6, ?_⟩
  · unfold on_cp; rw [ab_u_j (by decide), ab_u_j (by decide), ab_u_at]; exact q1
  · unfold on_cp; rw [ab_u_j (by decide), ab_u_at]; exact q3
  · unfold on_cp; rw [ab_u_at]; exact q5
  · refine nm_v_congr ?_ ?_ (nm_v_cp (by omega) q7)
    · unfold on_cp; rw [ab_u_ne (by omega), ab_u_ne (by omega), ab_u_ne (by omega)]
    · unfold on_cp; rw [ab_u_ne (by omega), ab_u_ne (by omega), ab_u_ne (by omega)]
theorem ld_v_congr {I I' : Nat → Nat → Int32} {g : Nat} {d : Ld} (hf : ∀ a, g ≤ a → a < g + 27 → I' a = I a) (h : ld_v I g d) : ld_v I' g d := by
  obtain ⟨d1, d2, d3, d4, d5, d6, d7, d8⟩ := h
  refine ⟨by rw [hf g (by omega) (by omega)]; exact d1, d2, by rw [hf g (by omega) (by omega)]; exact d3, d4, by rw [hf g (by omega) (by omega)]; exact d5, d6, fun l hl => by rw [hf (g + 1) (by omega) (by omega)]; exact d7 l hl, fun p q hp => ?_⟩
  have hl : p < d.2.1.length := (List.getElem?_eq_some_iff.mp hp).1
  exact on_v_congr (hf _ (by omega) (by omega)) (hf _ (by omega) (by omega)) (hf _ (by omega) (by omega)) (d8 p q hp)
def ld_cw (I : Nat → Nat → Int32) (g o k : Nat) : Nat → Nat → Int32 := fun a j => if a = g + 1 ∧ j < k then I (o + 1) j else I a j
theorem ld_cw_s {I : Nat → Nat → Int32} {g o k : Nat} : ab_u (ld_cw I g o k) (g + 1) k (I (o + 1) k) = ld_cw I g o (k + 1) := by
  funext a j
  unfold ab_u ld_cw
  by_cases h1 : a = g + 1 ∧ j = k
  · rw [if_pos h1, if_pos (by omega), h1.2]
  · rw [if_neg h1]
    by_cases h2 : a = g + 1 ∧ j < k
    · rw [if_pos h2, if_pos (by omega)]
    · rw [if_neg h2, if_neg (by omega)]
theorem ld_cw_far {I : Nat → Nat → Int32} {g o k a : Nat} (h : a ≠ g + 1) : ld_cw I g o k a = I a := by
  funext j
  unfold ld_cw
  rw [if_neg (by omega)]
theorem c_lcopy {g o : Nat} {d : Ld} (h : ab_H) (M : ab_M) (hg : pr_Ld h M.2.2 g) (ho : pr_Ld h M.2.2 o) (hgo : g + 27 ≤ o ∨ o + 27 ≤ g) (hd : ld_v M.1 o d) : pr_X pX1_copy [.ref g, .ref o] h M (fun r M' => r = none ∧ M'.2 = M.2 ∧ ld_v M'.1 g d ∧ ∀ a, (a < g ∨ g + 27 ≤ a) → M'.1 a = M.1 a) := by
  obtain ⟨g0, g1, r1, r2, k1, k2, ⟨k3, k4⟩, hon⟩ := id hg
  obtain ⟨o0, o1, s1, s2, m1, m2, ⟨m3, m4⟩, hoo⟩ := id ho
  obtain ⟨d1, d2, d3, d4, d5, d6, d7, d8⟩ := id hd
  have loop2 : ∀ dd p I, p + dd = d.2.1.length → (∀ a, (a < g ∨ g + 27 ≤ a) → I a = M.1 a) → (∀ l, l < 26 → I (g + 1) l = M.1 (o + 1) l) → I g 2 = nI d.2.1.length → (∀ p' q, p' < p → d.2.1[p']? = some q → on_v I (g + 3 + 3 * p') q) → pr_T pX1_copy 36 [some (.ref g), some (.ref o), some (.int (nI p))] [] h (I, M.2.1, M.2.2) (fun r M' => r = none ∧ M'.2 = M.2 ∧ ld_v M'.1 g d ∧ ∀ a, (a < g ∨ g + 27 ≤ a) → M'.1 a = M.1 a) := by
    intro dd
    induction dd with
    | zero =>
      intro p I hp hf hw hn hpp
      obtain rfl : p = d.2.1.length := by omega
      have e1 : nI d.2.1.length ≤ nI d.2.1.length := nI_le (Nat.le_refl _) (by omega)
      have fo : I o = M.1 o := hf o (by omega)
      have x3 : I o 3 = nI d.2.2.1 := by rw [fo]; exact d3
      have x4 : ∀ x : Int32, ab_u I g 3 x o 4 = nI d.2.2.2 := fun x => by rw [ab_u_ne (by omega), fo]; exact d5
      refine pr_seqT (pc' := 41) 3 rfl ⟨⟨⟨trivial, trivial⟩, (by first | assumption | decide | omega | exact ⟨Or.inl (by assumption), by assumption⟩ | exact ⟨by assumption, by assumption⟩ | (simp only [hn, x3, x4, pr_8_26, pr_i_0, pr_i_1]; first | assumption | omega | exact ⟨by assumption, by assumption⟩ | exact ⟨Or.inl (by assumption), by assumption⟩))⟩, (by first | assumption | decide | omega | exact ⟨Or.inl (by assumption), by assumption⟩ | exact ⟨by assumption, by assumption⟩ | (simp only [hn, x3, x4, pr_8_26, pr_i_0, pr_i_1]; first | assumption | omega | exact ⟨by assumption, by assumption⟩ | exact ⟨Or.inl (by assumption), by assumption⟩))⟩ ?_
      try simp only [hn, x3, x4, pr_8_26, pr_i_0, pr_i_1]
      refine pr_icT rfl (fun h41 => ?_) (fun h41 => ?_)
      · simp only [ab_cmp, pr_8_26, pr_i_0, pr_i_1] at h41
        refine pr_seqT (pc' := 81) 8 rfl ⟨⟨⟨⟨⟨⟨⟨⟨trivial, (by first | assumption | decide | omega | exact ⟨Or.inl (by assumption), by assumption⟩ | exact ⟨by assumption, by assumption⟩ | (simp only [hn, x3, x4, pr_8_26, pr_i_0, pr_i_1]; first | assumption | omega | exact ⟨by assumption, by assumption⟩ | exact ⟨Or.inl (by assumption), by assumption⟩))⟩, (by first | assumption | decide | omega | exact ⟨Or.inl (by assumption), by assumption⟩ | exact ⟨by assumption, by assumption⟩ | (simp only [hn, x3, x4, pr_8_26, pr_i_0, pr_i_1]; first | assumption | omega | exact ⟨by assumption, by assumption⟩ | exact ⟨Or.inl (by assumption), by assumption⟩))⟩, (by first | assumption | decide | omega | exact ⟨Or.inl (by assumption), by assumption⟩ | exact ⟨by assumption, by assumption⟩ | (simp only [hn, x3, x4, pr_8_26, pr_i_0, pr_i_1]; first | assumption | omega | exact ⟨by assumption, by assumption⟩ | exact ⟨Or.inl (by assumption), by assumption⟩))⟩, (by first | assumption | decide | omega | exact ⟨Or.inl (by assumption), by assumption⟩ | exact ⟨by assumption, by assumption⟩ | (simp only [hn, x3, x4, pr_8_26, pr_i_0, pr_i_1]; first | assumption | omega | exact ⟨by assumption, by assumption⟩ | exact ⟨Or.inl (by assumption), by assumption⟩))⟩, (by first | assumption | decide | omega | exact ⟨Or.inl (by assumption), by assumption⟩ | exact ⟨by assumption, by assumption⟩ | (simp only [hn, x3, x4, pr_8_26, pr_i_0, pr_i_1]; first | assumption | omega | exact ⟨by assumption, by assumption⟩ | exact ⟨Or.inl (by assumption), by assumption⟩))⟩, (by first | assumption | decide | omega | exact ⟨Or.inl (by assumption), by assumption⟩ | exact ⟨by assumption, by assumption⟩ | (simp only [hn, x3, x4, pr_8_26, pr_i_0, pr_i_1]; first | assumption | omega | exact ⟨by assumption, by assumption⟩ | exact ⟨Or.inl (by assumption), by assumption⟩))⟩, (by first | assumption | decide | omega | exact ⟨Or.inl (by assumption), by assumption⟩ | exact ⟨by assumption, by assumption⟩ | (simp only [hn, x3, x4, pr_8_26, pr_i_0, pr_i_1]; first | assumption | omega | exact ⟨by assumption, by assumption⟩ | exact ⟨Or.inl (by assumption), by assumption⟩))⟩, (by first | assumption | decide | omega | exact ⟨Or.inl (by assumption), by assumption⟩ | exact ⟨by assumption, by assumption⟩ | (simp only [hn, x3, x4, pr_8_26, pr_i_0, pr_i_1]; first | assumption | omega | exact ⟨by assumption, by assumption⟩ | exact ⟨Or.inl (by assumption), by assumption⟩))⟩ ?_
        try simp only [hn, x3, x4, pr_8_26, pr_i_0, pr_i_1]
        refine pr_vrT rfl rfl ⟨rfl, rfl, ?_, ?_⟩
        · refine ⟨by dsimp only; rw [ab_u_j (by decide), ab_u_j (by decide)]; exact hn, d2, by dsimp only; rw [ab_u_j (by decide), ab_u_at], d4, by dsimp only; rw [ab_u_at], d6, fun l hl => by dsimp only; rw [ab_u_ne (by omega), ab_u_ne (by omega), hw l hl]; exact d7 l hl, fun p q hp => ?_⟩
          have hl : p < d.2.1.length := (List.getElem?_eq_some_iff.mp hp).1
          exact on_v_congr (by dsimp only; rw [ab_u_ne (by omega), ab_u_ne (by omega)]) (by dsimp only; rw [ab_u_ne (by omega), ab_u_ne (by omega)]) (by dsimp only; rw [ab_u_ne (by omega), ab_u_ne (by omega)]) (hpp p q hl hp)
        · intro a ha
          dsimp only
          rw [ab_u_ne (by omega), ab_u_ne (by omega), hf a ha]
      · simp only [ab_cmp, pr_8_26, pr_i_0, pr_i_1] at h41
        exact absurd e1 h41
    | succ dd ih =>
      intro p I hp hf hw hn hpp
      have e1 : ¬ nI d.2.1.length ≤ nI p := nI_ge (by omega) (by omega)
      have h8 : p < 8 := by omega
      have hl : p < d.2.1.length := by omega
      obtain ⟨q, hq⟩ : ∃ q, d.2.1[p]? = some q := ⟨_, List.getElem?_eq_getElem hl⟩
      obtain ⟨y1, y2⟩ := hon p h8
      obtain ⟨z1, z2⟩ := hoo p h8
      have y3 := y2.2.1
      have e3 : (nI p).toNatClampNeg = p := nI_clamp (by omega)
      have v1 : (24 ≤ ab_k h (g + 2) ∧ ab_k h (g + 2) ≤ 27) ∧ vp_in (nI p) (ab_n h (g + 2)) := ⟨by rw [k3]; decide, by rw [k4]; exact vp_in_nI h8 (by decide)⟩
      have v2 : (24 ≤ ab_k h (o + 2) ∧ ab_k h (o + 2) ≤ 27) ∧ vp_in (nI p) (ab_n h (o + 2)) := ⟨by rw [m3]; decide, by rw [m4]; exact vp_in_nI h8 (by decide)⟩
      have vq : on_v I (o + 3 + 3 * p) q := on_v_congr (hf _ (by omega)) (hf _ (by omega)) (hf _ (by omega)) (d8 p q hq)
      have hh := ih (p + 1) (on_cp I (g + 3 + 3 * p) (o + 3 + 3 * p) q.2.2.2.length) (by omega) (fun a ha => by rw [on_cp_far (by omega) (by omega) (by omega)]; exact hf a ha) (fun l hl => by rw [on_cp_far (by omega) (by omega) (by omega)]; exact hw l hl) (by rw [on_cp_far (by omega) (by omega) (by omega)]; exact hn) (fun p' q' hp' hq' => by
        rcases (show p' = p ∨ p' < p by omega) with rfl | hlt
        · rw [hq] at hq'
          cases hq'
          exact on_cp_v (by omega) vq
        · exact on_v_congr (on_cp_far (by omega) (by omega) (by omega)) (on_cp_far (by omega) (by omega) (by omega)) (on_cp_far (by omega) (by omega) (by omega)) (hpp p' q' hlt hq'))
      rw [← nI_1] at hh
      refine pr_seqT (pc' := 41) 3 rfl ⟨⟨⟨trivial, trivial⟩, (by first | assumption | decide | omega | exact ⟨Or.inl (by assumption), by assumption⟩ | exact ⟨by assumption, by assumption⟩ | (simp only [hn, r2, s2, e3, y1, z1, pr_8_26, pr_i_0, pr_i_1]; first | assumption | omega | exact ⟨by assumption, by assumption⟩ | exact ⟨Or.inl (by assumption), by assumption⟩))⟩, (by first | assumption | decide | omega | exact ⟨Or.inl (by assumption), by assumption⟩ | exact ⟨by assumption, by assumption⟩ | (simp only [hn, r2, s2, e3, y1, z1, pr_8_26, pr_i_0, pr_i_1]; first | assumption | omega | exact ⟨by assumption, by assumption⟩ | exact ⟨Or.inl (by assumption), by assumption⟩))⟩ ?_
      try simp only [hn, r2, s2, e3, y1, z1, pr_8_26, pr_i_0, pr_i_1]
      refine pr_icT rfl (fun h41 => ?_) (fun h41 => ?_)
      · simp only [ab_cmp, pr_8_26, pr_i_0, pr_i_1] at h41
        exact absurd h41 e1
      · simp only [ab_cmp, pr_8_26, pr_i_0, pr_i_1] at h41
        refine pr_seqT (pc' := 56) 8 rfl ⟨⟨⟨⟨⟨⟨⟨⟨trivial, (by first | assumption | decide | omega | exact ⟨Or.inl (by assumption), by assumption⟩ | exact ⟨by assumption, by assumption⟩ | (simp only [hn, r2, s2, e3, y1, z1, pr_8_26, pr_i_0, pr_i_1]; first | assumption | omega | exact ⟨by assumption, by assumption⟩ | exact ⟨Or.inl (by assumption), by assumption⟩))⟩, (by first | assumption | decide | omega | exact ⟨Or.inl (by assumption), by assumption⟩ | exact ⟨by assumption, by assumption⟩ | (simp only [hn, r2, s2, e3, y1, z1, pr_8_26, pr_i_0, pr_i_1]; first | assumption | omega | exact ⟨by assumption, by assumption⟩ | exact ⟨Or.inl (by assumption), by assumption⟩))⟩, trivial⟩, (by first | assumption | decide | omega | exact ⟨Or.inl (by assumption), by assumption⟩ | exact ⟨by assumption, by assumption⟩ | (simp only [hn, r2, s2, e3, y1, z1, pr_8_26, pr_i_0, pr_i_1]; first | assumption | omega | exact ⟨by assumption, by assumption⟩ | exact ⟨Or.inl (by assumption), by assumption⟩))⟩, (by first | assumption | decide | omega | exact ⟨Or.inl (by assumption), by assumption⟩ | exact ⟨by assumption, by assumption⟩ | (simp only [hn, r2, s2, e3, y1, z1, pr_8_26, pr_i_0, pr_i_1]; first | assumption | omega | exact ⟨by assumption, by assumption⟩ | exact ⟨Or.inl (by assumption), by assumption⟩))⟩, (by first | assumption | decide | omega | exact ⟨Or.inl (by assumption), by assumption⟩ | exact ⟨by assumption, by assumption⟩ | (simp only [hn, r2, s2, e3, y1, z1, pr_8_26, pr_i_0, pr_i_1]; first | assumption | omega | exact ⟨by assumption, by assumption⟩ | exact ⟨Or.inl (by assumption), by assumption⟩))⟩, trivial⟩, (by first | assumption | decide | omega | exact ⟨Or.inl (by assumption), by assumption⟩ | exact ⟨by assumption, by assumption⟩ | (simp only [hn, r2, s2, e3, y1, z1, pr_8_26, pr_i_0, pr_i_1]; first | assumption | omega | exact ⟨by assumption, by assumption⟩ | exact ⟨Or.inl (by assumption), by assumption⟩))⟩ ?_
        try simp only [hn, r2, s2, e3, y1, z1, pr_8_26, pr_i_0, pr_i_1]
        refine pr_cvT [_] rfl rfl rfl rfl rfl (Nat.le_of_ble_eq_true rfl) (by first | assumption | decide | omega | exact ⟨Or.inl (by assumption), by assumption⟩ | exact ⟨by assumption, by assumption⟩ | (simp only [hn, r2, s2, e3, y1, z1, pr_8_26, pr_i_0, pr_i_1]; first | assumption | omega | exact ⟨by assumption, by assumption⟩ | exact ⟨Or.inl (by assumption), by assumption⟩)) (Nat.le_of_ble_eq_true rfl) (c_ocopy h (I, M.2.1, M.2.2) y2 z2 (by omega) vq) ?_
        refine pr_seqT (pc' := 36) 2 rfl ⟨⟨trivial, trivial⟩, trivial⟩ ?_
        try simp only [hn, r2, s2, e3, y1, z1, pr_8_26, pr_i_0, pr_i_1]
        exact hh
  have loop1 : ∀ dd k, k + dd = 26 → pr_T pX1_copy 2 [some (.ref g), some (.ref o), some (.int (nI k))] [] h (ld_cw M.1 g o k, M.2.1, M.2.2) (fun r M' => r = none ∧ M'.2 = M.2 ∧ ld_v M'.1 g d ∧ ∀ a, (a < g ∨ g + 27 ≤ a) → M'.1 a = M.1 a) := by
    intro dd
    induction dd with
    | zero =>
      intro k hk
      obtain rfl : k = 26 := by omega
      have e1 : (26 : Int32) ≤ nI 26 := by decide
      have x1 : ld_cw M.1 g o 26 o 2 = nI d.2.1.length := by rw [ld_cw_far (by omega)]; exact d1
      refine pr_seqT (pc' := 5) 2 rfl ⟨⟨trivial, trivial⟩, trivial⟩ ?_
      try simp only [x1, pr_8_26, pr_i_0, pr_i_1]
      refine pr_icT rfl (fun h5 => ?_) (fun h5 => ?_)
      · simp only [ab_cmp, pr_8_26, pr_i_0, pr_i_1] at h5
        refine pr_seqT (pc' := 36) 6 rfl ⟨⟨⟨⟨⟨⟨trivial, (by first | assumption | decide | omega | exact ⟨Or.inl (by assumption), by assumption⟩ | exact ⟨by assumption, by assumption⟩ | (simp only [x1, pr_8_26, pr_i_0, pr_i_1]; first | assumption | omega | exact ⟨by assumption, by assumption⟩ | exact ⟨Or.inl (by assumption), by assumption⟩))⟩, (by first | assumption | decide | omega | exact ⟨Or.inl (by assumption), by assumption⟩ | exact ⟨by assumption, by assumption⟩ | (simp only [x1, pr_8_26, pr_i_0, pr_i_1]; first | assumption | omega | exact ⟨by assumption, by assumption⟩ | exact ⟨Or.inl (by assumption), by assumption⟩))⟩, (by first | assumption | decide | omega | exact ⟨Or.inl (by assumption), by assumption⟩ | exact ⟨by assumption, by assumption⟩ | (simp only [x1, pr_8_26, pr_i_0, pr_i_1]; first | assumption | omega | exact ⟨by assumption, by assumption⟩ | exact ⟨Or.inl (by assumption), by assumption⟩))⟩, (by first | assumption | decide | omega | exact ⟨Or.inl (by assumption), by assumption⟩ | exact ⟨by assumption, by assumption⟩ | (simp only [x1, pr_8_26, pr_i_0, pr_i_1]; first | assumption | omega | exact ⟨by assumption, by assumption⟩ | exact ⟨Or.inl (by assumption), by assumption⟩))⟩, trivial⟩, trivial⟩ ?_
        try simp only [x1, pr_8_26, pr_i_0, pr_i_1]
        refine loop2 d.2.1.length 0 _ (by omega) (fun a ha => ?_) (fun l hl => ?_) ab_u_at (fun p' q hp => absurd hp (by omega))
        · rw [ab_u_ne (by omega), ld_cw_far (by omega)]
        · rw [ab_u_ne (by omega)]
          unfold ld_cw
          rw [if_pos ⟨rfl, hl⟩]
      · simp only [ab_cmp, pr_8_26, pr_i_0, pr_i_1] at h5
        exact absurd e1 h5
    | succ dd ih =>
      intro k hk
      have e1 : ¬ (26 : Int32) ≤ nI k := by rw [pr_n26]; exact nI_ge (by omega) (by omega)
      have e3 : (nI k).toNatClampNeg = k := nI_clamp (by omega)
      have v1 : vp_in (nI k) (ab_n h (g + 1)) := by rw [k2]; exact vp_in_nI (by omega) (by decide)
      have v2 : vp_in (nI k) (ab_n h (o + 1)) := by rw [m2]; exact vp_in_nI (by omega) (by decide)
      have x1 : ld_cw M.1 g o k (o + 1) k = M.1 (o + 1) k := by rw [ld_cw_far (by omega)]
      have hh := ih (k + 1) (by omega)
      rw [← ld_cw_s, ← nI_1] at hh
      refine pr_seqT (pc' := 5) 2 rfl ⟨⟨trivial, trivial⟩, trivial⟩ ?_
      try simp only [r1, s1, e3, x1, pr_8_26, pr_i_0, pr_i_1]
      refine pr_icT rfl (fun h5 => ?_) (fun h5 => ?_)
      · simp only [ab_cmp, pr_8_26, pr_i_0, pr_i_1] at h5
        exact absurd h5 e1
      · simp only [ab_cmp, pr_8_26, pr_i_0, pr_i_1] at h5
        refine pr_seqT (pc' := 2) 10 rfl ⟨⟨⟨⟨⟨⟨⟨⟨⟨⟨trivial, (by first | assumption | decide | omega | exact ⟨Or.inl (by assumption), by assumption⟩ | exact ⟨by assumption, by assumption⟩ | (simp only [r1, s1, e3, x1, pr_8_26, pr_i_0, pr_i_1]; first | assumption | omega | exact ⟨by assumption, by assumption⟩ | exact ⟨Or.inl (by assumption), by assumption⟩))⟩, (by first | assumption | decide | omega | exact ⟨Or.inl (by assumption), by assumption⟩ | exact ⟨by assumption, by assumption⟩ | (simp only [r1, s1, e3, x1, pr_8_26, pr_i_0, pr_i_1]; first | assumption | omega | exact ⟨by assumption, by assumption⟩ | exact ⟨Or.inl (by assumption), by assumption⟩))⟩, trivial⟩, (by first | assumption | decide | omega | exact ⟨Or.inl (by assumption), by assumption⟩ | exact ⟨by assumption, by assumption⟩ | (simp only [r1, s1, e3, x1, pr_8_26, pr_i_0, pr_i_1]; first | assumption | omega | exact ⟨by assumption, by assumption⟩ | exact ⟨Or.inl (by assumption), by assumption⟩))⟩, (by first | assumption | decide | omega | exact ⟨Or.inl (by assumption), by assumption⟩ | exact ⟨by assumption, by assumption⟩ | (simp only [r1, s1, e3, x1, pr_8_26, pr_i_0, pr_i_1]; first | assumption | omega | exact ⟨by assumption, by assumption⟩ | exact ⟨Or.inl (by assumption), by assumption⟩))⟩, trivial⟩, (by first | assumption | decide | omega | exact ⟨Or.inl (by assumption), by assumption⟩ | exact ⟨by assumption, by assumption⟩ | (simp only [r1, s1, e3, x1, pr_8_26, pr_i_0, pr_i_1]; first | assumption | omega | exact ⟨by assumption, by assumption⟩ | exact ⟨Or.inl (by assumption), by assumption⟩))⟩, (by first | assumption | decide | omega | exact ⟨Or.inl (by assumption), by assumption⟩ | exact ⟨by assumption, by assumption⟩ | (simp only [r1, s1, e3, x1, pr_8_26, pr_i_0, pr_i_1]; first | assumption | omega | exact ⟨by assumption, by assumption⟩ | exact ⟨Or.inl (by assumption), by assumption⟩))⟩, trivial⟩, trivial⟩ ?_
        try simp only [r1, s1, e3, x1, pr_8_26, pr_i_0, pr_i_1]
        exact hh
  have h0 := loop1 26 0 (by omega)
  rw [show ld_cw M.1 g o 0 = M.1 by funext a j; unfold ld_cw; rw [if_neg (by omega)]] at h0
  refine pr_seqT (pc' := 2) 2 rfl ⟨⟨trivial, trivial⟩, trivial⟩ ?_
  exact h0
