/-! ===== small ones, and Name ===== -/
section PRM
variable {i : ab_I} {pc ex ln : Nat} {L : ab_Ls} {h : ab_H} {M M' : ab_M} {r : Option Value}
theorem pr_irM {x : Int32} (hk : ab_lk (ab_It i) pc = some (.ireturn, ln, ex)) (hr : r = some (.int x)) (ht : ab_rt (ab_Ir i) (.int x)) (hM : M' = M) : pr_E i pc L [.int x] h M r h M' := by
  subst hM
  exact pr_ir hk hr ht
theorem pr_lrM {x : Int64} (hk : ab_lk (ab_It i) pc = some (.lreturn, ln, ex)) (hr : r = some (.long x)) (ht : ab_rt (ab_Ir i) (.long x)) (hM : M' = M) : pr_E i pc L [.long x] h M r h M' := by
  subst hM
  exact pr_lr hk hr ht
theorem pr_arM {x : Nat} (hk : ab_lk (ab_It i) pc = some (.areturn, ln, ex)) (hr : r = some (.ref x)) (ht : ab_rt (ab_Ir i) (.ref x)) (hM : M' = M) : pr_E i pc L [.ref x] h M r h M' := by
  subst hM
  exact pr_ar hk hr ht
theorem pr_vrM (hk : ab_lk (ab_It i) pc = some (.return_, ln, ex)) (hr : r = none) (ht : ab_Ir i = none) (hM : M' = M) : pr_E i pc L [] h M r h M' := by
  subst hM
  exact pr_vr hk hr ht
end PRM
def pr_b : Bool → Int32
  | true => 1
  | false => 0
theorem pr_b01 (b : Bool) : pr_b b = 0 ∨ pr_b b = 1 := by cases b <;> simp [pr_b]
/-- v is within lo and hi -/
def pr_in (v lo hi : Int32) : Bool := !decide (v < lo) && !decide (hi < v)
theorem c_within (v lo hi : Int32) (h : ab_H) (M : ab_M) : pr_C pX10_within [.int v, .int lo, .int hi] h M (some (.int (pr_b (pr_in v lo hi)))) h M := by
  unfold pr_in
  refine pr_seq (pc' := 2) 2 rfl ⟨⟨trivial, trivial⟩, trivial⟩ ?_
  refine pr_ic rfl (fun h2 => ?_) (fun h2 => ?_)
  · simp only [ab_cmp, pr_i_0, pr_i_1] at h2
    refine pr_seq (pc' := 15) 1 rfl ⟨trivial, trivial⟩ ?_
    exact pr_irM rfl (by first | rfl | (simp [pr_b, pr_i_0, pr_i_1, *]; done) | (simp_all [pr_b, pr_i_0, pr_i_1]; done)) (by first | exact Or.inl rfl | exact Or.inr rfl | exact pr_b01 _ | assumption) (by rfl)
  · simp only [ab_cmp, pr_i_0, pr_i_1] at h2
    refine pr_seq (pc' := 7) 2 rfl ⟨⟨trivial, trivial⟩, trivial⟩ ?_
    refine pr_ic rfl (fun h7 => ?_) (fun h7 => ?_)
    · simp only [ab_cmp, pr_i_0, pr_i_1] at h7
      refine pr_seq (pc' := 15) 1 rfl ⟨trivial, trivial⟩ ?_
      exact pr_irM rfl (by first | rfl | (simp [pr_b, pr_i_0, pr_i_1, *]; done) | (simp_all [pr_b, pr_i_0, pr_i_1]; done)) (by first | exact Or.inl rfl | exact Or.inr rfl | exact pr_b01 _ | assumption) (by rfl)
    · simp only [ab_cmp, pr_i_0, pr_i_1] at h7
      refine pr_seq (pc' := 15) 2 rfl ⟨⟨trivial, trivial⟩, trivial⟩ ?_
      exact pr_irM rfl (by first | rfl | (simp [pr_b, pr_i_0, pr_i_1, *]; done) | (simp_all [pr_b, pr_i_0, pr_i_1]; done)) (by first | exact Or.inl rfl | exact Or.inr rfl | exact pr_b01 _ | assumption) (by rfl)
theorem c_isLetter (l : Int32) (h : ab_H) (M : ab_M) : pr_C pX10_isLetter [.int l] h M (some (.int (pr_b (pr_in l 0 25)))) h M := by
  refine pr_seq (pc' := 4) 3 rfl ⟨⟨⟨trivial, trivial⟩, trivial⟩, trivial⟩ ?_
  refine pr_cs [_, _, _] rfl rfl rfl rfl rfl (Nat.le_of_ble_eq_true rfl) (Nat.le_of_ble_eq_true rfl) (c_within _ _ _ _ _) ?_
  exact pr_irM rfl (by first | rfl | (simp [pr_b, pr_8_25, pr_i_0, *]; done) | (simp_all [pr_b, pr_8_25, pr_i_0]; done)) (by first | exact Or.inl rfl | exact Or.inr rfl | exact pr_b01 _ | assumption) (by rfl)
theorem c_isLetterAndWorth (l v : Int32) (h : ab_H) (M : ab_M) : pr_C pX10_isLetterAndWorth [.int l, .int v] h M (some (.int (pr_b (pr_in l 0 25 && pr_in v 0 40)))) h M := by
  cases e1 : pr_in l 0 25 <;> cases e2 : pr_in v 0 40
  all_goals
    refine pr_seq (pc' := 1) 1 rfl ⟨trivial, trivial⟩ ?_
    refine pr_cs [_] rfl rfl rfl rfl rfl (Nat.le_of_ble_eq_true rfl) (Nat.le_of_ble_eq_true rfl) (c_isLetter _ _ _) ?_
    refine pr_if rfl (fun h4 => ?_) (fun h4 => ?_)
    · simp only [ab_cmp, pr_8_40, pr_i_0, pr_i_1] at h4
      refine pr_seq (pc' := 22) 1 rfl ⟨trivial, trivial⟩ ?_
      exact pr_irM rfl (by first | rfl | (simp [pr_b, pr_8_40, pr_i_0, pr_i_1, *]; done) | (simp_all [pr_b, pr_8_40, pr_i_0, pr_i_1]; done)) (by first | exact Or.inl rfl | exact Or.inr rfl | exact pr_b01 _ | assumption) (by rfl)
    · simp only [ab_cmp, pr_8_40, pr_i_0, pr_i_1] at h4
      refine pr_seq (pc' := 11) 3 rfl ⟨⟨⟨trivial, trivial⟩, trivial⟩, trivial⟩ ?_
      refine pr_cs [_, _, _] rfl rfl rfl rfl rfl (Nat.le_of_ble_eq_true rfl) (Nat.le_of_ble_eq_true rfl) (c_within _ _ _ _ _) ?_
      refine pr_if rfl (fun h14 => ?_) (fun h14 => ?_)
      · simp only [ab_cmp, pr_8_40, pr_i_0, pr_i_1] at h14
        refine pr_seq (pc' := 22) 1 rfl ⟨trivial, trivial⟩ ?_
        exact pr_irM rfl (by first | rfl | (simp [pr_b, pr_8_40, pr_i_0, pr_i_1, *]; done) | (simp_all [pr_b, pr_8_40, pr_i_0, pr_i_1]; done)) (by first | exact Or.inl rfl | exact Or.inr rfl | exact pr_b01 _ | assumption) (by rfl)
      · simp only [ab_cmp, pr_8_40, pr_i_0, pr_i_1] at h14
        refine pr_seq (pc' := 22) 2 rfl ⟨⟨trivial, trivial⟩, trivial⟩ ?_
        exact pr_irM rfl (by first | rfl | (simp [pr_b, pr_8_40, pr_i_0, pr_i_1, *]; done) | (simp_all [pr_b, pr_8_40, pr_i_0, pr_i_1]; done)) (by first | exact Or.inl rfl | exact Or.inr rfl | exact pr_b01 _ | assumption) (by rfl)
/-- a Name at n: its letters behind it -/
def pr_Nm (h : ab_H) (R : Nat → Nat → Nat) (n : Nat) : Prop := n ≠ 0 ∧ ab_k h n = 3 ∧ R n 0 = n + 1 ∧ ab_k h (n + 1) = 20 ∧ ab_n h (n + 1) = 20
theorem c_hasPlace (a : Nat) (i : Int32) (h : ab_H) (M : ab_M) (hk : ab_k h a = 3) (h0 : a ≠ 0) : pr_C pX2_hasPlace [.ref a, .int i] h M (some (.int (pr_b (!decide (i < 0) && !decide (M.1 a 1 ≤ i))))) h M := by
  refine pr_seq (pc' := 1) 1 rfl ⟨trivial, trivial⟩ ?_
  refine pr_if rfl (fun h1 => ?_) (fun h1 => ?_)
  · simp only [ab_cmp, pr_i_0, pr_i_1] at h1
    refine pr_seq (pc' := 17) 1 rfl ⟨trivial, trivial⟩ ?_
    exact pr_irM rfl (by first | rfl | (simp [pr_b, pr_i_0, pr_i_1, *]; done) | (simp_all [pr_b, pr_i_0, pr_i_1]; done)) (by first | exact Or.inl rfl | exact Or.inr rfl | exact pr_b01 _ | assumption) (by rfl)
  · simp only [ab_cmp, pr_i_0, pr_i_1] at h1
    refine pr_seq (pc' := 9) 3 rfl ⟨⟨⟨trivial, trivial⟩, (by first | assumption | decide | omega | exact ⟨Or.inl (by assumption), by assumption⟩ | exact ⟨by assumption, by assumption⟩)⟩, (by first | assumption | decide | omega | exact ⟨Or.inl (by assumption), by assumption⟩ | exact ⟨by assumption, by assumption⟩)⟩ ?_
    refine pr_ic rfl (fun h9 => ?_) (fun h9 => ?_)
    · simp only [ab_cmp, pr_i_0, pr_i_1] at h9
      refine pr_seq (pc' := 17) 1 rfl ⟨trivial, trivial⟩ ?_
      exact pr_irM rfl (by first | rfl | (simp [pr_b, pr_i_0, pr_i_1, *]; done) | (simp_all [pr_b, pr_i_0, pr_i_1]; done)) (by first | exact Or.inl rfl | exact Or.inr rfl | exact pr_b01 _ | assumption) (by rfl)
    · simp only [ab_cmp, pr_i_0, pr_i_1] at h9
      refine pr_seq (pc' := 17) 2 rfl ⟨⟨trivial, trivial⟩, trivial⟩ ?_
      exact pr_irM rfl (by first | rfl | (simp [pr_b, pr_i_0, pr_i_1, *]; done) | (simp_all [pr_b, pr_i_0, pr_i_1]; done)) (by first | exact Or.inl rfl | exact Or.inr rfl | exact pr_b01 _ | assumption) (by rfl)
/-- a name w in the cells n and n + 1 -/
def nm_v (I : Nat → Nat → Int32) (n : Nat) (w : List Nat) : Prop := I n 1 = nI w.length ∧ w.length ≤ 20 ∧ ∀ j, j < w.length → I (n + 1) j = nI (w.getD j 0) ∧ w.getD j 0 < 26
/-- what is asked of a name by a place -/
def nm_q (w : List Nat) (x : Int32) : Int32 := if x < 0 then -1 else if nI w.length ≤ x then -1 else nI (w.getD x.toNatClampNeg 0)
theorem nI_lt31 {n : Nat} (h : n ≤ 1000000) : n < 2 ^ 31 := Nat.lt_of_le_of_lt h (by decide)
theorem pr_vin {x : Int32} {n N : Nat} (h0 : ¬ x < 0) (h1 : ¬ nI n ≤ x) (hn : n ≤ N) (hN : N ≤ 1000000) : vp_in x N ∧ x.toNatClampNeg < n ∧ x = nI x.toNatClampNeg := by
  rcases pk_ix x (nI_lt31 (Nat.le_trans hn hN)) with q | q | ⟨j, hj, rfl⟩
  · exact absurd q h0
  · exact absurd q h1
  · have hj2 : j < 2 ^ 31 := Nat.lt_trans hj (nI_lt31 (Nat.le_trans hn hN))
    rw [nI_clamp hj2]
    exact ⟨vp_in_nI (Nat.lt_of_lt_of_le hj hn) (nI_lt31 hN), hj, rfl⟩
theorem c_letterAt {n : Nat} {w : List Nat} (x : Int32) (h : ab_H) (M : ab_M) (hn : pr_Nm h M.2.2 n) (hw : nm_v M.1 n w) : pr_C pX2_letterAt [.ref n, .int x] h M (some (.int (nm_q w x))) h M := by
  obtain ⟨h0, k1, r1, k2, k3⟩ := hn
  obtain ⟨w1, w2, w3⟩ := hw
  unfold nm_q
  by_cases c1 : x < 0
  · refine pr_seq (pc' := 2) 2 rfl ⟨⟨trivial, (by first | assumption | decide | omega | exact ⟨Or.inl (by assumption), by assumption⟩ | exact ⟨by assumption, by assumption⟩)⟩, trivial⟩ ?_
    refine pr_cv [_] rfl rfl rfl rfl rfl (Nat.le_of_ble_eq_true rfl) (by first | assumption | decide | omega | exact ⟨Or.inl (by assumption), by assumption⟩ | exact ⟨by assumption, by assumption⟩) (Nat.le_of_ble_eq_true rfl) (c_hasPlace n x h M k1 h0) ?_
    refine pr_if rfl (fun h5 => ?_) (fun h5 => ?_)
    · simp only [ab_cmp, pr_i_m1] at h5
      refine pr_seq (pc' := 18) 1 rfl ⟨trivial, trivial⟩ ?_
      exact pr_irM rfl (by simp_all [pr_b, pr_i_m1]) trivial (by rfl)
    · simp only [ab_cmp, pr_i_m1] at h5
      refine pr_seq (pc' := 18) 5 rfl ⟨⟨⟨⟨⟨trivial, (by first | assumption | decide | omega | exact ⟨Or.inl (by assumption), by assumption⟩ | exact ⟨by assumption, by assumption⟩)⟩, (by assumption)⟩, trivial⟩, (by simp_all [pr_b])⟩, trivial⟩ ?_
      exact pr_irM rfl (by simp_all [pr_b, pr_i_m1]) trivial (by rfl)
  · by_cases c2 : nI w.length ≤ x
    · refine pr_seq (pc' := 2) 2 rfl ⟨⟨trivial, (by first | assumption | decide | omega | exact ⟨Or.inl (by assumption), by assumption⟩ | exact ⟨by assumption, by assumption⟩)⟩, trivial⟩ ?_
      refine pr_cv [_] rfl rfl rfl rfl rfl (Nat.le_of_ble_eq_true rfl) (by first | assumption | decide | omega | exact ⟨Or.inl (by assumption), by assumption⟩ | exact ⟨by assumption, by assumption⟩) (Nat.le_of_ble_eq_true rfl) (c_hasPlace n x h M k1 h0) ?_
      refine pr_if rfl (fun h5 => ?_) (fun h5 => ?_)
      · simp only [ab_cmp, pr_i_m1] at h5
        refine pr_seq (pc' := 18) 1 rfl ⟨trivial, trivial⟩ ?_
        exact pr_irM rfl (by simp_all [pr_b, pr_i_m1]) trivial (by rfl)
      · simp only [ab_cmp, pr_i_m1] at h5
        refine pr_seq (pc' := 18) 5 rfl ⟨⟨⟨⟨⟨trivial, (by first | assumption | decide | omega | exact ⟨Or.inl (by assumption), by assumption⟩ | exact ⟨by assumption, by assumption⟩)⟩, (by assumption)⟩, trivial⟩, (by simp_all [pr_b])⟩, trivial⟩ ?_
        exact pr_irM rfl (by simp_all [pr_b, pr_i_m1]) trivial (by rfl)
    · obtain ⟨v1, v2, v3⟩ := pr_vin c1 c2 w2 (by decide)
      have v4 := (w3 _ v2).1
      have hb : (!decide (x < 0) && !decide (M.1 n 1 ≤ x)) = true := by rw [w1, decide_eq_false c1, decide_eq_false c2]; rfl
      have hp := c_hasPlace n x h M k1 h0
      rw [hb] at hp
      rw [if_neg c1, if_neg c2]
      refine pr_seq (pc' := 2) 2 rfl ⟨⟨trivial, (by first | assumption | decide | omega | exact ⟨Or.inl (by assumption), by assumption⟩ | exact ⟨by assumption, by assumption⟩)⟩, trivial⟩ ?_
      refine pr_cv [_] rfl rfl rfl rfl rfl (Nat.le_of_ble_eq_true rfl) (by first | assumption | decide | omega | exact ⟨Or.inl (by assumption), by assumption⟩ | exact ⟨by assumption, by assumption⟩) (Nat.le_of_ble_eq_true rfl) (hp) ?_
      refine pr_if rfl (fun h5 => ?_) (fun h5 => ?_)
      · simp only [ab_cmp, pr_i_m1] at h5
        exact absurd h5 (by decide)
      · simp only [ab_cmp, pr_i_m1] at h5
        refine pr_seq (pc' := 18) 5 rfl ⟨⟨⟨⟨⟨trivial, (by first | assumption | decide | omega | exact ⟨Or.inl (by assumption), by assumption⟩ | exact ⟨by assumption, by assumption⟩)⟩, (by assumption)⟩, trivial⟩, (by exact ⟨Or.inl (by rw [r1]; exact k2), by rw [r1, k3]; exact v1⟩)⟩, trivial⟩ ?_
        exact pr_irM rfl (by show _ = some (Value.int (M.1 (M.2.2 n 0) x.toNatClampNeg)); rw [r1, v4]) trivial (by rfl)
theorem c_clear {n : Nat} (h : ab_H) (M : ab_M) (hn : pr_Nm h M.2.2 n) : pr_C pX2_clear [.ref n] h M none h (ab_u M.1 n 1 0, M.2.1, M.2.2) := by
  obtain ⟨h0, k1, r1, k2, k3⟩ := hn
  refine pr_seq (pc' := 5) 3 rfl ⟨⟨⟨trivial, (by first | assumption | decide | omega | exact ⟨Or.inl (by assumption), by assumption⟩ | exact ⟨by assumption, by assumption⟩)⟩, trivial⟩, (by first | assumption | decide | omega | exact ⟨Or.inl (by assumption), by assumption⟩ | exact ⟨by assumption, by assumption⟩)⟩ ?_
  exact pr_vrM rfl rfl rfl (by rfl)
theorem c_add {n k : Nat} (l : Int32) (h : ab_H) (M : ab_M) (hn : pr_Nm h M.2.2 n) (hl : M.1 n 1 = nI k) (hk : k < 20) : pr_C pX2_add [.ref n, .int l] h M none h (ab_u (ab_u M.1 (n + 1) k l) n 1 (nI (k + 1)), M.2.1, M.2.2) := by
  obtain ⟨h0, k1, r1, k2, k3⟩ := hn
  have hk2 : k < 2 ^ 31 := Nat.lt_trans hk (by decide)
  have h20 : ¬ (20 : Int32) ≤ M.1 n 1 := by rw [hl]; exact nI_ge hk (by decide)
  refine pr_seq (pc' := 6) 3 rfl ⟨⟨⟨trivial, (by first | assumption | decide | omega | exact ⟨Or.inl (by assumption), by assumption⟩ | exact ⟨by assumption, by assumption⟩)⟩, (by first | assumption | decide | omega | exact ⟨Or.inl (by assumption), by assumption⟩ | exact ⟨by assumption, by assumption⟩)⟩, trivial⟩ ?_
  refine pr_ic rfl (fun h6 => ?_) (fun h6 => ?_)
  · simp only [ab_cmp, pr_8_20, pr_i_1] at h6
    exact absurd h6 h20
  · simp only [ab_cmp, pr_8_20, pr_i_1] at h6
    refine pr_seq (pc' := 29) 12 rfl ⟨⟨⟨⟨⟨⟨⟨⟨⟨⟨⟨⟨trivial, (by first | assumption | decide | omega | exact ⟨Or.inl (by assumption), by assumption⟩ | exact ⟨by assumption, by assumption⟩)⟩, (by first | assumption | decide | omega | exact ⟨Or.inl (by assumption), by assumption⟩ | exact ⟨by assumption, by assumption⟩)⟩, (by first | assumption | decide | omega | exact ⟨Or.inl (by assumption), by assumption⟩ | exact ⟨by assumption, by assumption⟩)⟩, (by first | assumption | decide | omega | exact ⟨Or.inl (by assumption), by assumption⟩ | exact ⟨by assumption, by assumption⟩)⟩, trivial⟩, (by exact ⟨by rw [r1]; exact k2, by rw [r1, k3, hl]; exact vp_in_nI hk (by decide)⟩)⟩, (by first | assumption | decide | omega | exact ⟨Or.inl (by assumption), by assumption⟩ | exact ⟨by assumption, by assumption⟩)⟩, trivial⟩, (by first | assumption | decide | omega | exact ⟨Or.inl (by assumption), by assumption⟩ | exact ⟨by assumption, by assumption⟩)⟩, trivial⟩, trivial⟩, (by first | assumption | decide | omega | exact ⟨Or.inl (by assumption), by assumption⟩ | exact ⟨by assumption, by assumption⟩)⟩ ?_
    exact pr_vrM rfl rfl rfl (by show _ = (ab_u (ab_u M.1 (M.2.2 n 0) (M.1 n 1).toNatClampNeg l) n 1 (ab_u M.1 (M.2.2 n 0) (M.1 n 1).toNatClampNeg l n 1 + Int32.ofInt 1), M.2.1, M.2.2); rw [r1, hl, nI_clamp hk2, ab_u_ne (by omega), hl, pr_i_1, nI_1])
/-- the name at n, of length b, and the first k letters of the name at o behind it -/
def nm_app (I : Nat → Nat → Int32) (n b o k : Nat) : Nat → Nat → Int32 := fun a j => if a = n ∧ j = 1 then nI (b + k) else if a = n + 1 ∧ b ≤ j ∧ j < b + k then I (o + 1) (j - b) else I a j
theorem nm_app_0 {I : Nat → Nat → Int32} {n b o : Nat} (h : I n 1 = nI b) : nm_app I n b o 0 = I := by
  funext a j
  unfold nm_app
  by_cases h1 : a = n ∧ j = 1
  · rw [if_pos h1, h1.1, h1.2, h]; rfl
  · rw [if_neg h1, if_neg (by omega)]
theorem nm_app_len {I : Nat → Nat → Int32} {n b o k : Nat} : nm_app I n b o k n 1 = nI (b + k) := by simp [nm_app]
theorem nm_app_far {I : Nat → Nat → Int32} {n b o k a : Nat} (h1 : a ≠ n) (h2 : a ≠ n + 1) : nm_app I n b o k a = I a := by
  funext j
  simp [nm_app, h1, h2]
theorem nm_app_s {I : Nat → Nat → Int32} {n b o k : Nat} (l : Int32) (hl : l = I (o + 1) k) : ab_u (ab_u (nm_app I n b o k) (n + 1) (b + k) l) n 1 (nI (b + k + 1)) = nm_app I n b o (k + 1) := by
  funext a j
  unfold ab_u nm_app
  by_cases h1 : a = n ∧ j = 1
  · rw [if_pos h1, if_pos h1]
    rfl
  · rw [if_neg h1, if_neg h1, if_neg h1]
    by_cases h2 : a = n + 1 ∧ j = b + k
    · rw [if_pos h2, if_pos (by omega), hl]
      congr 1
      omega
    · rw [if_neg h2]
      by_cases h3 : a = n + 1 ∧ b ≤ j ∧ j < b + k
      · rw [if_pos h3, if_pos (by omega)]
      · rw [if_neg h3, if_neg (by omega)]
theorem c_addAll {n o b m : Nat} (h : ab_H) (M : ab_M) (hn : pr_Nm h M.2.2 n) (ho : pr_Nm h M.2.2 o) (hno : n + 1 < o ∨ o + 1 < n) (hl : M.1 n 1 = nI b) (hm : M.1 o 1 = nI m) (hb : b + m ≤ 20) : pr_C pX2_addAll [.ref n, .ref o] h M none h (nm_app M.1 n b o m, M.2.1, M.2.2) := by
  have loop : ∀ d k, k + d = m → pr_E pX2_addAll 2 [some (.ref n), some (.ref o), some (.int (nI k))] [] h (nm_app M.1 n b o k, M.2.1, M.2.2) none h (nm_app M.1 n b o m, M.2.1, M.2.2) := by
    intro d
    induction d with
    | zero =>
      intro k hk
      have hk : k = m := by omega
      subst hk
      obtain ⟨o0, o1, o2, o3, o4⟩ := ho
      have e1 : nm_app M.1 n b o k o 1 = nI k := by rw [nm_app_far (by omega) (by omega)]; exact hm
      refine pr_seq (pc' := 7) 3 rfl ⟨⟨⟨trivial, trivial⟩, (by first | assumption | decide | omega | exact ⟨Or.inl (by assumption), by assumption⟩ | exact ⟨by assumption, by assumption⟩)⟩, (by first | assumption | decide | omega | exact ⟨Or.inl (by assumption), by assumption⟩ | exact ⟨by assumption, by assumption⟩)⟩ ?_
      refine pr_ic rfl (fun h7 => ?_) (fun h7 => ?_)
      · simp only [ab_cmp, pr_i_0, pr_i_1] at h7
        exact pr_vrM rfl rfl rfl (by rfl)
      · simp only [ab_cmp, pr_i_0, pr_i_1] at h7
        exact absurd (show nm_app M.1 n b o k o 1 ≤ nI k by rw [e1]; exact nI_le (Nat.le_refl _) (by omega)) h7
    | succ d ih =>
      intro k hk
      have o' := ho
      obtain ⟨o0, o1, o2, o3, o4⟩ := o'
      obtain ⟨n0, n1, -⟩ := id hn
      have e1 : nm_app M.1 n b o k o 1 = nI m := by rw [nm_app_far (by omega) (by omega)]; exact hm
      have e2 : nm_app M.1 n b o k (o + 1) k = M.1 (o + 1) k := by rw [nm_app_far (by omega) (by omega)]
      have e3 : (nI k).toNatClampNeg = k := nI_clamp (by omega)
      refine pr_seq (pc' := 7) 3 rfl ⟨⟨⟨trivial, trivial⟩, (by first | assumption | decide | omega | exact ⟨Or.inl (by assumption), by assumption⟩ | exact ⟨by assumption, by assumption⟩)⟩, (by first | assumption | decide | omega | exact ⟨Or.inl (by assumption), by assumption⟩ | exact ⟨by assumption, by assumption⟩)⟩ ?_
      refine pr_ic rfl (fun h7 => ?_) (fun h7 => ?_)
      · simp only [ab_cmp, pr_i_0, pr_i_1] at h7
        exact absurd (show nm_app M.1 n b o k o 1 ≤ nI k from h7) (by rw [e1]; exact nI_ge (by omega) (by omega))
      · simp only [ab_cmp, pr_i_0, pr_i_1] at h7
        refine pr_seq (pc' := 17) 5 rfl ⟨⟨⟨⟨⟨trivial, (by first | assumption | decide | omega | exact ⟨Or.inl (by assumption), by assumption⟩ | exact ⟨by assumption, by assumption⟩)⟩, (by first | assumption | decide | omega | exact ⟨Or.inl (by assumption), by assumption⟩ | exact ⟨by assumption, by assumption⟩)⟩, (by first | assumption | decide | omega | exact ⟨Or.inl (by assumption), by assumption⟩ | exact ⟨by assumption, by assumption⟩)⟩, trivial⟩, (by exact ⟨Or.inl (by rw [o2]; exact o3), by rw [o2, o4]; exact vp_in_nI (by omega) (by decide)⟩)⟩ ?_
        refine pr_cv [_] rfl rfl rfl rfl rfl (Nat.le_of_ble_eq_true rfl) (by first | assumption | decide | omega | exact ⟨Or.inl (by assumption), by assumption⟩ | exact ⟨by assumption, by assumption⟩) (Nat.le_of_ble_eq_true rfl) (c_add (k := b + k) _ h (nm_app M.1 n b o k, M.2.1, M.2.2) hn nm_app_len (by omega)) ?_
        refine pr_seq (pc' := 2) 2 rfl ⟨⟨trivial, trivial⟩, trivial⟩ ?_
        rw [nm_app_s _ (by show nm_app M.1 n b o k (M.2.2 o 0) (nI k).toNatClampNeg = _; rw [o2, e3, e2]), pr_i_1, nI_1]; exact ih (k + 1) (by omega)
  have h0 := loop m 0 (by omega)
  rw [nm_app_0 hl] at h0
  refine pr_seq (pc' := 2) 2 rfl ⟨⟨trivial, trivial⟩, trivial⟩ ?_
  exact h0
