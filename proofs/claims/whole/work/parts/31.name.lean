/-! ===== small ones, and Name ===== -/
section PRM
variable {i : ab_I} {pc ex ln : Nat} {L : ab_Ls} {h : ab_H} {M M' : ab_M} {r : Option Value}
theorem pr_irM {x : Int32} (hk : ab_lk (ab_It i) pc = some (.ireturn, ln, ex)) (hr : r = some (.int x)) (ht : ab_rt (ab_Ir i) (.int x)) (hM : M' = M) : pr_E i pc L [.int x] h M r h M' := by
  subst hM
  exact pr_ir hk hr ht
theorem pr_lrM {x : Int64} (hk : ab_lk (ab_It i) pc = some (.lreturn, ln, ex)) (hr : r = some (.long x)) (ht : ab_rt (ab_Ir i) (.long x)) (hM : M' = M) : pr_E i pc L [.long x] h M r h M' := by
  subst hM
  exact pr_lr hk hr ht
theorem pr_arM {x : Nat} (hk : ab_lk (ab_It i) pc = some (.areturn, ln, ex)) (hr : r = some (.ref x)) (ht : ab_rt (ab_Ir i) (.ref x)) (hM : M' = M) : pr_E i pc L [.ref x] h M r h M' := by
  subst hM
  exact pr_ar hk hr ht
theorem pr_vrM (hk : ab_lk (ab_It i) pc = some (.return_, ln, ex)) (hr : r = none) (ht : ab_Ir i = none) (hM : M' = M) : pr_E i pc L [] h M r h M' := by
  subst hM
  exact pr_vr hk hr ht
end PRM
def pr_b : Bool → Int32
  | true => 1
  | false => 0
theorem pr_b01 (b : Bool) : pr_b b = 0 ∨ pr_b b = 1 := by cases b <;> simp [pr_b]
/-- v is within lo and hi -/
def pr_in (v lo hi : Int32) : Bool := !decide (v < lo) && !decide (hi < v)
theorem c_within (v lo hi : Int32) (h : ab_H) (M : ab_M) : pr_C pX10_within [.int v, .int lo, .int hi] h M (some (.int (pr_b (pr_in v lo hi)))) h M := by
  unfold pr_in
  refine pr_seq (pc' := 2) 2 rfl ⟨⟨trivial, trivial⟩, trivial⟩ ?_
  refine pr_ic rfl (fun h2 => ?_) (fun h2 => ?_)
  · simp only [ab_cmp, pr_i_0, pr_i_1] at h2
    refine pr_seq (pc' := 15) 1 rfl ⟨trivial, trivial⟩ ?_
    exact pr_irM rfl (by first | rfl | (simp [pr_b, pr_i_0, pr_i_1, *]; done) | (simp_all [pr_b, pr_i_0, pr_i_1]; done)) (by first | exact Or.inl rfl | exact Or.inr rfl | exact pr_b01 _ | assumption) (by rfl)
  · simp only [ab_cmp, pr_i_0, pr_i_1] at h2
    refine pr_seq (pc' := 7) 2 rfl ⟨⟨trivial, trivial⟩, trivial⟩ ?_
    refine pr_ic rfl (fun h7 => ?_) (fun h7 => ?_)
    · simp only [ab_cmp, pr_i_0, pr_i_1] at h7
      refine pr_seq (pc' := 15) 1 rfl ⟨trivial, trivial⟩ ?_
      exact pr_irM rfl (by first | rfl | (simp [pr_b, pr_i_0, pr_i_1, *]; done) | (simp_all [pr_b, pr_i_0, pr_i_1]; done)) (by first | exact Or.inl rfl | exact Or.inr rfl | exact pr_b01 _ | assumption) (by rfl)
    · simp only [ab_cmp, pr_i_0, pr_i_1] at h7
      refine pr_seq (pc' := 15) 2 rfl ⟨⟨trivial, trivial⟩, trivial⟩ ?_
      exact pr_irM rfl (by first | rfl | (simp [pr_b, pr_i_0, pr_i_1, *]; done) | (simp_all [pr_b, pr_i_0, pr_i_1]; done)) (by first | exact Or.inl rfl | exact Or.inr rfl | exact pr_b01 _ | assumption) (by rfl)
theorem c_isLetter (l : Int32) (h : ab_H) (M : ab_M) : pr_C pX10_isLetter [.int l] h M (some (.int (pr_b (pr_in l 0 25)))) h M := by
  refine pr_seq (pc' := 4) 3 rfl ⟨⟨⟨trivial, trivial⟩, trivial⟩, trivial⟩ ?_
  refine pr_cs [_, _, _] rfl rfl rfl rfl rfl (Nat.le_of_ble_eq_true rfl) (Nat.le_of_ble_eq_true rfl) (c_within _ _ _ _ _) ?_
  exact pr_irM rfl (by first | rfl | (simp [pr_b, pr_8_25, pr_i_0, *]; done) | (simp_all [pr_b, pr_8_25, pr_i_0]; done)) (by first | exact Or.inl rfl | exact Or.inr rfl | exact pr_b01 _ | assumption) (by rfl)
theorem c_isLetterAndWorth (l v : Int32) (h : ab_H) (M : ab_M) : pr_C pX10_isLetterAndWorth [.int l, .int v] h M (some (.int (pr_b (pr_in l 0 25 && pr_in v 0 40)))) h M := by
  cases e1 : pr_in l 0 25 <;> cases e2 : pr_in v 0 40
  all_goals
    refine pr_seq (pc' := 1) 1 rfl ⟨trivial, trivial⟩ ?_
    refine pr_cs [_] rfl rfl rfl rfl rfl (Nat.le_of_ble_eq_true rfl) (Nat.le_of_ble_eq_true rfl) (c_isLetter _ _ _) ?_
    refine pr_if rfl (fun h4 => ?_) (fun h4 => ?_)
    · simp only [ab_cmp, pr_8_40, pr_i_0, pr_i_1] at h4
      refine pr_seq (pc' := 22) 1 rfl ⟨trivial, trivial⟩ ?_
      exact pr_irM rfl (by first | rfl | (simp [pr_b, pr_8_40, pr_i_0, pr_i_1, *]; done) | (simp_all [pr_b, pr_8_40, pr_i_0, pr_i_1]; done)) (by first | exact Or.inl rfl | exact Or.inr rfl | exact pr_b01 _ | assumption) (by rfl)
    · simp only [ab_cmp, pr_8_40, pr_i_0, pr_i_1] at h4
      refine pr_seq (pc' := 11) 3 rfl ⟨⟨⟨trivial, trivial⟩, trivial⟩, trivial⟩ ?_
      refine pr_cs [_, _, _] rfl rfl rfl rfl rfl (Nat.le_of_ble_eq_true rfl) (Nat.le_of_ble_eq_true rfl) (c_within _ _ _ _ _) ?_
      refine pr_if rfl (fun h14 => ?_) (fun h14 => ?_)
      · simp only [ab_cmp, pr_8_40, pr_i_0, pr_i_1] at h14
        refine pr_seq (pc' := 22) 1 rfl ⟨trivial, trivial⟩ ?_
        exact pr_irM rfl (by first | rfl | (simp [pr_b, pr_8_40, pr_i_0, pr_i_1, *]; done) | (simp_all [pr_b, pr_8_40, pr_i_0, pr_i_1]; done)) (by first | exact Or.inl rfl | exact Or.inr rfl | exact pr_b01 _ | assumption) (by rfl)
      · simp only [ab_cmp, pr_8_40, pr_i_0, pr_i_1] at h14
        refine pr_seq (pc' := 22) 2 rfl ⟨⟨trivial, trivial⟩, trivial⟩ ?_
        exact pr_irM rfl (by first | rfl | (simp [pr_b, pr_8_40, pr_i_0, pr_i_1, *]; done) | (simp_all [pr_b, pr_8_40, pr_i_0, pr_i_1]; done)) (by first | exact Or.inl rfl | exact Or.inr rfl | exact pr_b01 _ | assumption) (by rfl)
/-- a Name at n: its letters behind it -/
def pr_Nm (h : ab_H) (R : Nat → Nat → Nat) (n : Nat) : Prop := n ≠ 0 ∧ ab_k h n = 3 ∧ R n 0 = n + 1 ∧ ab_k h (n + 1) = 20 ∧ ab_n h (n + 1) = 20
theorem c_hasPlace (a : Nat) (i : Int32) (h : ab_H) (M : ab_M) (hk : ab_k h a = 3) (h0 : a ≠ 0) : pr_C pX2_hasPlace [.ref a, .int i] h M (some (.int (pr_b (!decide (i < 0) && !decide (M.1 a 1 ≤ i))))) h M := by
  refine pr_seq (pc' := 1) 1 rfl ⟨trivial, trivial⟩ ?_
  refine pr_if rfl (fun h1 => ?_) (fun h1 => ?_)
  · simp only [ab_cmp, pr_i_0, pr_i_1] at h1
    refine pr_seq (pc' := 17) 1 rfl ⟨trivial, trivial⟩ ?_
    exact pr_irM rfl (by first | rfl | (simp [pr_b, pr_i_0, pr_i_1, *]; done) | (simp_all [pr_b, pr_i_0, pr_i_1]; done)) (by first | exact Or.inl rfl | exact Or.inr rfl | exact pr_b01 _ | assumption) (by rfl)
  · simp only [ab_cmp, pr_i_0, pr_i_1] at h1
    refine pr_seq (pc' := 9) 3 rfl ⟨⟨⟨trivial, trivial⟩, (by first | assumption | decide | omega)⟩, (by first | assumption | decide | omega)⟩ ?_
    refine pr_ic rfl (fun h9 => ?_) (fun h9 => ?_)
    · simp only [ab_cmp, pr_i_0, pr_i_1] at h9
      refine pr_seq (pc' := 17) 1 rfl ⟨trivial, trivial⟩ ?_
      exact pr_irM rfl (by first | rfl | (simp [pr_b, pr_i_0, pr_i_1, *]; done) | (simp_all [pr_b, pr_i_0, pr_i_1]; done)) (by first | exact Or.inl rfl | exact Or.inr rfl | exact pr_b01 _ | assumption) (by rfl)
    · simp only [ab_cmp, pr_i_0, pr_i_1] at h9
      refine pr_seq (pc' := 17) 2 rfl ⟨⟨trivial, trivial⟩, trivial⟩ ?_
      exact pr_irM rfl (by first | rfl | (simp [pr_b, pr_i_0, pr_i_1, *]; done) | (simp_all [pr_b, pr_i_0, pr_i_1]; done)) (by first | exact Or.inl rfl | exact Or.inr rfl | exact pr_b01 _ | assumption) (by rfl)
