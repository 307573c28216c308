
/-! ===== the class's reader: begin, tell; and text ===== -/
theorem tl_rng {I I' : Nat → Nat → Int32} {t : Nat} {T : Tl} (h : ∀ a, t ≤ a → a < t + 43 → I' a = I a) (hv : tl_v I t T) : tl_v I' t T := by
  obtain ⟨v1, v2, v3, v4, v5, v6, v7⟩ := hv
  refine ⟨ld_v_congr (fun a _ _ => h a (by omega) (by omega)) v1, by rw [h t (by omega) (by omega)]; exact v2, v3, by rw [h t (by omega) (by omega)]; exact v4, v5, fun q w hq => ?_, fun i k hk => ?_⟩
  · have hl : q < T.2.1.length := (List.getElem?_eq_some_iff.mp hq).1
    exact ⟨nm_v_congr (h _ (by omega) (by omega)) (h _ (by omega) (by omega)) (v6 q w hq).1, (v6 q w hq).2⟩
  · rw [h (t + 29) (by omega) (by omega), h (t + 30) (by omega) (by omega)]
    exact v7 i k hk
theorem td_tl {I : Nat → Nat → Int32} {t : Nat} {T : Tl} (hv : td_v I t T) (ha : allL T = true) : tl_v I t T := by
  obtain ⟨v1, v2, v3, v4, v5, v6, v7⟩ := hv
  refine ⟨v1, v2, v3, v4, v5, v6, fun i k hk => ?_⟩
  obtain ⟨x1, x2, x3, x4⟩ := v7 i k hk
  refine ⟨x1, x2, ?_, x4⟩
  have hl : i < T.2.2.length := (List.getElem?_eq_some_iff.mp hk).1
  have hg : T.2.2.getD i (0, 0) = k := by rw [List.getD_eq_getElem?_getD, hk]; rfl
  by_cases c : k.1 < T.2.1.length
  · exact c
  · exfalso
    unfold allL at ha
    rw [nb_false (q := i) (show (!decide ((T.2.2.getD i (0, 0)).1 < T.2.1.length)) = true by rw [hg, decide_eq_false c]; rfl) T.2.2.length hl] at ha
    cases ha
theorem c_tclear {t : Nat} (h : ab_H) (M : ab_M) (ht : pr_Tl h M.2.2 t) : pr_C pX9_clear [.ref t] h M none h (ab_u (ab_u (ld_new M.1 (t + 1)) t 4 0) t 5 0, M.2) := by
  obtain ⟨t0, t1, r0, -, -, -, hg, -⟩ := id ht
  have hg1 := hg.2.1
  refine pr_seq (pc' := 4) 2 rfl ⟨⟨trivial, (by first | assumption | (simp only [r0, pr_i_0]; first | assumption | decide | exact ⟨by assumption, by assumption⟩ | exact ⟨Or.inl (by assumption), by assumption⟩ | omega) | decide | exact ⟨Or.inl (by assumption), by assumption⟩ | exact ⟨by assumption, by assumption⟩ | omega)⟩, (by first | assumption | (simp only [r0, pr_i_0]; first | assumption | decide | exact ⟨by assumption, by assumption⟩ | exact ⟨Or.inl (by assumption), by assumption⟩ | omega) | decide | exact ⟨Or.inl (by assumption), by assumption⟩ | exact ⟨by assumption, by assumption⟩ | omega)⟩ ?_
  try simp only [r0, pr_i_0]
  refine pr_cv [] rfl rfl rfl rfl rfl (Nat.le_of_ble_eq_true rfl) (by first | assumption | (simp only [r0, pr_i_0]; first | assumption | decide | exact ⟨by assumption, by assumption⟩ | exact ⟨Or.inl (by assumption), by assumption⟩ | omega) | decide | exact ⟨Or.inl (by assumption), by assumption⟩ | exact ⟨by assumption, by assumption⟩ | omega) (Nat.le_of_ble_eq_true rfl) (c_lclear h M hg) ?_
  refine pr_seq (pc' := 17) 6 rfl ⟨⟨⟨⟨⟨⟨trivial, (by first | assumption | (simp only [r0, pr_i_0]; first | assumption | decide | exact ⟨by assumption, by assumption⟩ | exact ⟨Or.inl (by assumption), by assumption⟩ | omega) | decide | exact ⟨Or.inl (by assumption), by assumption⟩ | exact ⟨by assumption, by assumption⟩ | omega)⟩, trivial⟩, (by first | assumption | (simp only [r0, pr_i_0]; first | assumption | decide | exact ⟨by assumption, by assumption⟩ | exact ⟨Or.inl (by assumption), by assumption⟩ | omega) | decide | exact ⟨Or.inl (by assumption), by assumption⟩ | exact ⟨by assumption, by assumption⟩ | omega)⟩, (by first | assumption | (simp only [r0, pr_i_0]; first | assumption | decide | exact ⟨by assumption, by assumption⟩ | exact ⟨Or.inl (by assumption), by assumption⟩ | omega) | decide | exact ⟨Or.inl (by assumption), by assumption⟩ | exact ⟨by assumption, by assumption⟩ | omega)⟩, trivial⟩, (by first | assumption | (simp only [r0, pr_i_0]; first | assumption | decide | exact ⟨by assumption, by assumption⟩ | exact ⟨Or.inl (by assumption), by assumption⟩ | omega) | decide | exact ⟨Or.inl (by assumption), by assumption⟩ | exact ⟨by assumption, by assumption⟩ | omega)⟩ ?_
  try simp only [r0, pr_i_0]
  exact pr_vrM rfl rfl rfl (by rfl)
theorem bg_v {t : Nat} {I0 N0 N : Nat → Nat → Int32} (ht5 : 5 < t) (f0 : fr t I0 N0) (v0 : td_v N0 t P0.1) (m1 : ∀ a, a ≠ 5 → N a = N0 a) (m2 : ∀ j, j < 26 → N 5 j = 0) : fr t I0 (ab_u (ab_u (ab_u (ab_u (ab_u N 4 3 0) 4 4 0) 4 5 0) 4 9 0) 4 10 0) ∧ ab_u (ab_u (ab_u (ab_u (ab_u N 4 3 0) 4 4 0) 4 5 0) 4 9 0) 4 10 0 4 5 = nI 0 ∧ ab_u (ab_u (ab_u (ab_u (ab_u N 4 3 0) 4 4 0) 4 5 0) 4 9 0) 4 10 0 4 9 = nI 0 ∧ ps_v (ab_u (ab_u (ab_u (ab_u (ab_u N 4 3 0) 4 4 0) 4 5 0) 4 9 0) 4 10 0) t P0 := by
  have e : ∀ a, a ≠ 4 → ab_u (ab_u (ab_u (ab_u (ab_u N 4 3 0) 4 4 0) 4 5 0) 4 9 0) 4 10 0 a = N a := fun a ha => by rw [ab_u_ne ha, ab_u_ne ha, ab_u_ne ha, ab_u_ne ha, ab_u_ne ha]
  refine ⟨fun a a4 a5 ha => by rw [e a a4, m1 a a5]; exact f0 a a4 a5 ha, ?_, ?_, td_congr (fun a a1 a2 => by rw [e a (by omega), m1 a (by omega)]) v0, ?_, ?_, fun l hl => ?_⟩
  · rw [ab_u_j (by decide), ab_u_j (by decide), ab_u_at]
    rfl
  · rw [ab_u_j (by decide), ab_u_at]
    rfl
  · rw [ab_u_j (by decide), ab_u_j (by decide), ab_u_j (by decide), ab_u_j (by decide), ab_u_at]
    rfl
  · rw [ab_u_j (by decide), ab_u_j (by decide), ab_u_j (by decide), ab_u_at]
    rfl
  · rw [e 5 (by decide)]
    exact (m2 l hl).trans rfl
theorem bz {N : Nat → Nat → Int32} {k : Nat} {v : Int32} (m2 : ∀ j, j < k → N 5 j = 0) (hv : v = 0) : ∀ j, j < k + 1 → ab_u N 5 k v 5 j = 0 := fun j hj => by
  by_cases e : j = k
  · subst e
    rw [ab_u_at]
    exact hv
  · rw [ab_u_j e]
    exact m2 j (by omega)
def bg_p (t : Nat) (M : ab_M) (r : Option Value) (M' : ab_M) : Prop := r = none ∧ M'.2 = M.2 ∧ fr t M.1 M'.1 ∧ M'.1 4 5 = nI 0 ∧ M'.1 4 9 = nI 0 ∧ ps_v M'.1 t P0
theorem c_rbegin {t : Nat} (h : ab_H) (M : ab_M) (ht5 : 5 < t) (hr : pr_Rd h M.2.2 t) (ht : pr_Tl h M.2.2 t) : pr_X pX6_begin [.ref 4] h M (bg_p t M) := by
  obtain ⟨k4, r0, r1, r2, -, k5, n5⟩ := id hr
  obtain ⟨t0, t1, -⟩ := id ht
  have n4 : (4 : Nat) ≠ 0 := by decide
  have hc := c_tclear h M ht
  generalize hN0 : ab_u (ab_u (ld_new M.1 (t + 1)) t 4 0) t 5 0 = N0 at hc
  have f0 : fr t M.1 N0 := fun a a4 a5 ha => by rw [← hN0, ab_u_ne (by omega), ab_u_ne (by omega), ld_new_far (by omega) (by omega)]
  have v0 : td_v N0 t P0.1 := by
    refine ⟨ld_v_congr (I := ld_new M.1 (t + 1)) (fun a a1 a2 => by rw [← hN0, ab_u_ne (by omega), ab_u_ne (by omega)]) ld_new_v, ?_, Nat.zero_le _, ?_, Nat.zero_le _, fun q w hq => (by cases hq), fun i k hk => (by cases hk)⟩
    · rw [← hN0, ab_u_j (by decide), ab_u_at]
      rfl
    · rw [← hN0, ab_u_at]
      rfl
  have loop : ∀ dd k, k + dd = 26 → ∀ N : Nat → Nat → Int32, (∀ a, a ≠ 5 → N a = N0 a) → (∀ j, j < k → N 5 j = 0) → pr_T pX6_begin 9 [some (.ref 4), some (.int (nI k))] [] h (N, M.2) (bg_p t M) := by
    intro dd
    induction dd with
    | zero =>
      intro k hk N m1 m2
      obtain rfl : k = 26 := by omega
      have e1 : (26 : Int32) ≤ nI 26 := by decide
      refine pr_seqT (pc' := 12) 2 rfl ⟨⟨trivial, trivial⟩, trivial⟩ ?_
      try simp only [pr_i_0, pr_8_26, pr_i_0, pr_i_1]
      refine pr_icT rfl (fun h12 => ?_) (fun h12 => ?_)
      · simp only [ab_cmp, pr_8_26, pr_i_0, pr_i_1] at h12
        first
        | contradiction
        | exact absurd trivial h12
        | exact absurd h12 (by decide)
        | exact absurd (Classical.not_not.mp h12) (by decide)
        | skip
          refine pr_seqT (pc' := 53) 15 rfl ⟨⟨⟨⟨⟨⟨⟨⟨⟨⟨⟨⟨⟨⟨⟨trivial, (by first | assumption | exact ⟨by assumption, Or.inl rfl⟩)⟩, trivial⟩, (by first | assumption | exact ⟨by assumption, Or.inl rfl⟩)⟩, (by first | assumption | exact ⟨by assumption, Or.inl rfl⟩)⟩, trivial⟩, (by first | assumption | exact ⟨by assumption, Or.inl rfl⟩)⟩, (by first | assumption | exact ⟨by assumption, Or.inl rfl⟩)⟩, trivial⟩, (by first | assumption | exact ⟨by assumption, Or.inl rfl⟩)⟩, (by first | assumption | exact ⟨by assumption, Or.inl rfl⟩)⟩, trivial⟩, (by first | assumption | exact ⟨by assumption, Or.inl rfl⟩)⟩, (by first | assumption | exact ⟨by assumption, Or.inl rfl⟩)⟩, trivial⟩, (by first | assumption | exact ⟨by assumption, Or.inl rfl⟩)⟩ ?_
          try simp only [pr_i_0, pr_8_26, pr_i_0, pr_i_1]
          exact pr_vrT rfl rfl (by exact ⟨rfl, rfl, bg_v ht5 f0 v0 m1 m2⟩)
      · simp only [ab_cmp, pr_8_26, pr_i_0, pr_i_1] at h12
        exact absurd e1 h12
    | succ dd ih =>
      intro k hk N m1 m2
      have e1 : ¬ (26 : Int32) ≤ nI k := by rw [pr_n26]; exact nI_ge (by omega) (by omega)
      have e3 : (nI k).toNatClampNeg = k := nI_clamp (by omega)
      have b1 : (ab_k h 5 = 21 ∨ ab_k h 5 = 22 ∧ ((0 : Int32) = 0 ∨ (0 : Int32) = 1)) ∧ vp_in (nI k) (ab_n h 5) := ⟨Or.inr ⟨k5, Or.inl rfl⟩, by rw [n5]; exact vp_in_nI (by omega) (by decide)⟩
      refine pr_seqT (pc' := 12) 2 rfl ⟨⟨trivial, trivial⟩, trivial⟩ ?_
      try simp only [r1, e3, nI_1, pr_8_26, pr_i_0, pr_i_1]
      refine pr_icT rfl (fun h12 => ?_) (fun h12 => ?_)
      · simp only [ab_cmp, pr_8_26, pr_i_0, pr_i_1] at h12
        exact absurd h12 e1
      · simp only [ab_cmp, pr_8_26, pr_i_0, pr_i_1] at h12
        first
        | contradiction
        | exact absurd trivial h12
        | exact absurd h12 (by decide)
        | exact absurd (Classical.not_not.mp h12) (by decide)
        | skip
          refine pr_seqT (pc' := 9) 7 rfl ⟨⟨⟨⟨⟨⟨⟨trivial, (by first | assumption | (simp only [r1, e3, nI_1, pr_8_26, pr_i_0, pr_i_1]; first | assumption | decide | exact ⟨by assumption, by assumption⟩ | exact ⟨Or.inl (by assumption), by assumption⟩ | omega) | decide | exact ⟨Or.inl (by assumption), by assumption⟩ | exact ⟨by assumption, by assumption⟩ | omega)⟩, (by first | assumption | (simp only [r1, e3, nI_1, pr_8_26, pr_i_0, pr_i_1]; first | assumption | decide | exact ⟨by assumption, by assumption⟩ | exact ⟨Or.inl (by assumption), by assumption⟩ | omega) | decide | exact ⟨Or.inl (by assumption), by assumption⟩ | exact ⟨by assumption, by assumption⟩ | omega)⟩, trivial⟩, trivial⟩, (by show (ab_k h (M.2.2 4 1) = 21 ∨ ab_k h (M.2.2 4 1) = 22 ∧ ((0 : Int32) = 0 ∨ (0 : Int32) = 1)) ∧ vp_in (nI k) (ab_n h (M.2.2 4 1)); rw [r1]; exact b1)⟩, trivial⟩, trivial⟩ ?_
          try simp only [r1, e3, nI_1, pr_8_26, pr_i_0, pr_i_1]
          exact ih (k + 1) (by omega) _ (fun a ha => (ab_u_ne ha).trans (m1 a ha)) (bz m2 (by decide))
  refine pr_seqT (pc' := 4) 2 rfl ⟨⟨trivial, (by first | assumption | (simp only [r2, pr_8_26, pr_i_0, pr_i_1]; first | assumption | decide | exact ⟨by assumption, by assumption⟩ | exact ⟨Or.inl (by assumption), by assumption⟩ | omega) | decide | exact ⟨Or.inl (by assumption), by assumption⟩ | exact ⟨by assumption, by assumption⟩ | omega)⟩, (by first | assumption | (simp only [r2, pr_8_26, pr_i_0, pr_i_1]; first | assumption | decide | exact ⟨by assumption, by assumption⟩ | exact ⟨Or.inl (by assumption), by assumption⟩ | omega) | decide | exact ⟨Or.inl (by assumption), by assumption⟩ | exact ⟨by assumption, by assumption⟩ | omega)⟩ ?_
  try simp only [r2, pr_8_26, pr_i_0, pr_i_1]
  refine pr_cvT [] rfl rfl rfl rfl rfl (Nat.le_of_ble_eq_true rfl) (by first | assumption | (simp only [r2, pr_8_26, pr_i_0, pr_i_1]; first | assumption | decide | exact ⟨by assumption, by assumption⟩ | exact ⟨Or.inl (by assumption), by assumption⟩ | omega) | decide | exact ⟨Or.inl (by assumption), by assumption⟩ | exact ⟨by assumption, by assumption⟩ | omega) (Nat.le_of_ble_eq_true rfl) (hc) ?_
  refine pr_seqT (pc' := 9) 2 rfl ⟨⟨trivial, trivial⟩, trivial⟩ ?_
  try simp only [r2, pr_8_26, pr_i_0, pr_i_1]
  exact loop 26 0 (by omega) N0 (fun _ _ => rfl) (fun j hj => absurd hj (Nat.not_lt_zero j))
/-- what a run of lines comes to, once all that is known is held against the list -/
def fnT (w : List Nat) (e : Except (Nat × Nat) (PS × Nat)) : Except (Nat × Nat) (PS × Nat) := match e with
  | .error q => .error q
  | .ok x => if allL x.1.1 then .ok x else .error (6, w.length)
def te_p (t : Nat) (M : ab_M) (e : Except (Nat × Nat) (PS × Nat)) (r : Option Value) (M' : ab_M) : Prop := M'.2 = M.2 ∧ fr t M.1 M'.1 ∧ match e with
  | .error q => r = some (.int (-10 - nI q.2)) ∧ M'.1 4 9 = nI q.1 ∧ 1 ≤ q.1 ∧ q.1 ≤ 6
  | .ok x => r = some (.int (nI x.2)) ∧ M'.1 4 9 = nI 0 ∧ tl_v M'.1 t x.1.1
theorem te_68 {t : Nat} {q : Nat × Nat} {I : Nat → Nat → Int32} {z : Int32} (h : ab_H) (M : ab_M) (hr : pr_Rd h M.2.2 t) (hf : fr t M.1 I) (h9 : I 4 9 = nI q.1) (h10 : I 4 10 = nI q.2) (hq : 1 ≤ q.1 ∧ q.1 ≤ 6) : pr_T pX6_tell 68 [some (.ref 4), some (.int z)] [] h (I, M.2) (te_p t M (.error q)) := by
  obtain ⟨k4, -⟩ := id hr
  have n4 : (4 : Nat) ≠ 0 := by decide
  have c0 : ¬ nI q.1 = 0 := by
    show ¬ nI q.1 = nI 0
    exact nI_ne (by omega) (by omega) (by decide)
  refine pr_seqT (pc' := 72) 2 rfl ⟨⟨trivial, (by first | assumption | (simp only [h9, h10, pr_16_320, pr_8_6, pr_8_m10, pr_i_0, pr_i_1]; first | assumption | decide | exact ⟨by assumption, by assumption⟩ | exact ⟨Or.inl (by assumption), by assumption⟩ | omega) | decide | exact ⟨Or.inl (by assumption), by assumption⟩ | exact ⟨by assumption, by assumption⟩ | omega)⟩, (by first | assumption | (simp only [h9, h10, pr_16_320, pr_8_6, pr_8_m10, pr_i_0, pr_i_1]; first | assumption | decide | exact ⟨by assumption, by assumption⟩ | exact ⟨Or.inl (by assumption), by assumption⟩ | omega) | decide | exact ⟨Or.inl (by assumption), by assumption⟩ | exact ⟨by assumption, by assumption⟩ | omega)⟩ ?_
  try simp only [h9, h10, pr_16_320, pr_8_6, pr_8_m10, pr_i_0, pr_i_1]
  refine pr_ifT rfl (fun h72 => ?_) (fun h72 => ?_)
  · simp only [ab_cmp, pr_16_320, pr_8_6, pr_8_m10, pr_i_0, pr_i_1] at h72
    first
    | contradiction
    | exact absurd trivial h72
    | exact absurd h72 (by decide)
    | exact absurd (Classical.not_not.mp h72) (by decide)
    | skip
      refine pr_seqT (pc' := 86) 4 rfl ⟨⟨⟨⟨trivial, trivial⟩, (by first | assumption | (simp only [h9, h10, pr_16_320, pr_8_6, pr_8_m10, pr_i_0, pr_i_1]; first | assumption | decide | exact ⟨by assumption, by assumption⟩ | exact ⟨Or.inl (by assumption), by assumption⟩ | omega) | decide | exact ⟨Or.inl (by assumption), by assumption⟩ | exact ⟨by assumption, by assumption⟩ | omega)⟩, (by first | assumption | (simp only [h9, h10, pr_16_320, pr_8_6, pr_8_m10, pr_i_0, pr_i_1]; first | assumption | decide | exact ⟨by assumption, by assumption⟩ | exact ⟨Or.inl (by assumption), by assumption⟩ | omega) | decide | exact ⟨Or.inl (by assumption), by assumption⟩ | exact ⟨by assumption, by assumption⟩ | omega)⟩, trivial⟩ ?_
      try simp only [h9, h10, pr_16_320, pr_8_6, pr_8_m10, pr_i_0, pr_i_1]
      exact pr_irT rfl trivial (by exact ⟨rfl, hf, rfl, h9, hq⟩)
  · simp only [ab_cmp, pr_16_320, pr_8_6, pr_8_m10, pr_i_0, pr_i_1] at h72
    exact absurd c0 h72
theorem te_err {t : Nat} {q : Nat × Nat} {I : Nat → Nat → Int32} {z : Int32} (h : ab_H) (M : ab_M) (hr : pr_Rd h M.2.2 t) (hf : fr t M.1 I) (h9 : I 4 9 = nI q.1) (h10 : I 4 10 = nI q.2) (hq : 1 ≤ q.1 ∧ q.1 ≤ 6) : pr_T pX6_tell 40 [some (.ref 4), some (.int z)] [] h (I, M.2) (te_p t M (.error q)) := by
  obtain ⟨k4, -⟩ := id hr
  have n4 : (4 : Nat) ≠ 0 := by decide
  have c0 : ¬ nI q.1 = 0 := by
    show ¬ nI q.1 = nI 0
    exact nI_ne (by omega) (by omega) (by decide)
  refine pr_seqT (pc' := 44) 2 rfl ⟨⟨trivial, (by first | assumption | (simp only [h9, pr_16_320, pr_8_6, pr_8_m10, pr_i_0, pr_i_1]; first | assumption | decide | exact ⟨by assumption, by assumption⟩ | exact ⟨Or.inl (by assumption), by assumption⟩ | omega) | decide | exact ⟨Or.inl (by assumption), by assumption⟩ | exact ⟨by assumption, by assumption⟩ | omega)⟩, (by first | assumption | (simp only [h9, pr_16_320, pr_8_6, pr_8_m10, pr_i_0, pr_i_1]; first | assumption | decide | exact ⟨by assumption, by assumption⟩ | exact ⟨Or.inl (by assumption), by assumption⟩ | omega) | decide | exact ⟨Or.inl (by assumption), by assumption⟩ | exact ⟨by assumption, by assumption⟩ | omega)⟩ ?_
  try simp only [h9, pr_16_320, pr_8_6, pr_8_m10, pr_i_0, pr_i_1]
  refine pr_ifT rfl (fun h44 => ?_) (fun h44 => ?_)
  · simp only [ab_cmp, pr_16_320, pr_8_6, pr_8_m10, pr_i_0, pr_i_1] at h44
    first
    | contradiction
    | exact absurd trivial h44
    | exact absurd h44 (by decide)
    | exact absurd (Classical.not_not.mp h44) (by decide)
    | skip
      exact te_68 h M hr hf h9 h10 hq
  · simp only [ab_cmp, pr_16_320, pr_8_6, pr_8_m10, pr_i_0, pr_i_1] at h44
    exact absurd c0 h44
theorem te_fin {t : Nat} {w : List Nat} {x : PS × Nat} {I : Nat → Nat → Int32} (h : ab_H) (M : ab_M) (ht5 : 5 < t) (hr : pr_Rd h M.2.2 t) (ht : pr_Tl h M.2.2 t) (hw : tp_v I w) (hf : fr t M.1 I) (h9 : I 4 9 = nI 0) (hd : td_v I t x.1.1) : pr_T pX6_tell 40 [some (.ref 4), some (.int (nI x.2))] [] h (I, M.2) (te_p t M (fnT w (.ok x))) := by
  obtain ⟨k4, r0, r1, r2, ⟨k2, -, -, -⟩, -⟩ := id hr
  have n4 : (4 : Nat) ≠ 0 := by decide
  have n2 : (2 : Nat) ≠ 0 := by decide
  have ha := c_allKnown h (I, M.2) ht5 hr ht hd
  have h90 : I 4 9 = 0 := h9
  have hw1 := hw.1
  unfold fnT
  dsimp only
  cases b : allL x.1.1 with
  | true =>
    rw [b] at ha
    rw [if_pos rfl]
    refine pr_seqT (pc' := 44) 2 rfl ⟨⟨trivial, (by first | assumption | (simp only [h90, pr_16_320, pr_8_6, pr_8_m10, pr_i_0, pr_i_1]; first | assumption | decide | exact ⟨by assumption, by assumption⟩ | exact ⟨Or.inl (by assumption), by assumption⟩ | omega) | decide | exact ⟨Or.inl (by assumption), by assumption⟩ | exact ⟨by assumption, by assumption⟩ | omega)⟩, (by first | assumption | (simp only [h90, pr_16_320, pr_8_6, pr_8_m10, pr_i_0, pr_i_1]; first | assumption | decide | exact ⟨by assumption, by assumption⟩ | exact ⟨Or.inl (by assumption), by assumption⟩ | omega) | decide | exact ⟨Or.inl (by assumption), by assumption⟩ | exact ⟨by assumption, by assumption⟩ | omega)⟩ ?_
    try simp only [h90, pr_16_320, pr_8_6, pr_8_m10, pr_i_0, pr_i_1]
    refine pr_ifT rfl (fun h44 => ?_) (fun h44 => ?_)
    · simp only [ab_cmp, pr_16_320, pr_8_6, pr_8_m10, pr_i_0, pr_i_1] at h44
      first
      | contradiction
      | exact absurd trivial h44
      | exact absurd h44 (by decide)
      | exact absurd (Classical.not_not.mp h44) (by decide)
      | skip
        refine pr_seqT (pc' := 72) 2 rfl ⟨⟨trivial, (by first | assumption | (simp only [h90, pr_16_320, pr_8_6, pr_8_m10, pr_i_0, pr_i_1]; first | assumption | decide | exact ⟨by assumption, by assumption⟩ | exact ⟨Or.inl (by assumption), by assumption⟩ | omega) | decide | exact ⟨Or.inl (by assumption), by assumption⟩ | exact ⟨by assumption, by assumption⟩ | omega)⟩, (by first | assumption | (simp only [h90, pr_16_320, pr_8_6, pr_8_m10, pr_i_0, pr_i_1]; first | assumption | decide | exact ⟨by assumption, by assumption⟩ | exact ⟨Or.inl (by assumption), by assumption⟩ | omega) | decide | exact ⟨Or.inl (by assumption), by assumption⟩ | exact ⟨by assumption, by assumption⟩ | omega)⟩ ?_
        try simp only [h90, pr_16_320, pr_8_6, pr_8_m10, pr_i_0, pr_i_1]
        refine pr_ifT rfl (fun h72 => ?_) (fun h72 => ?_)
        · simp only [ab_cmp, pr_16_320, pr_8_6, pr_8_m10, pr_i_0, pr_i_1] at h72
          first
          | contradiction
          | exact absurd trivial h72
          | exact absurd h72 (by decide)
          | exact absurd (Classical.not_not.mp h72) (by decide)
          | skip
            fail
        · simp only [ab_cmp, pr_16_320, pr_8_6, pr_8_m10, pr_i_0, pr_i_1] at h72
          first
          | contradiction
          | exact absurd trivial h72
          | exact absurd h72 (by decide)
          | exact absurd (Classical.not_not.mp h72) (by decide)
          | skip
            refine pr_seqT (pc' := 86) 2 rfl ⟨⟨trivial, trivial⟩, trivial⟩ ?_
            try simp only [h90, pr_16_320, pr_8_6, pr_8_m10, pr_i_0, pr_i_1]
            exact pr_irT rfl trivial (by exact ⟨rfl, hf, rfl, h9, td_tl hd b⟩)
    · simp only [ab_cmp, pr_16_320, pr_8_6, pr_8_m10, pr_i_0, pr_i_1] at h44
      first
      | contradiction
      | exact absurd trivial h44
      | exact absurd h44 (by decide)
      | exact absurd (Classical.not_not.mp h44) (by decide)
      | skip
        refine pr_seqT (pc' := 48) 1 rfl ⟨trivial, (by first | assumption | (simp only [h90, pr_16_320, pr_8_6, pr_8_m10, pr_i_0, pr_i_1]; first | assumption | decide | exact ⟨by assumption, by assumption⟩ | exact ⟨Or.inl (by assumption), by assumption⟩ | omega) | decide | exact ⟨Or.inl (by assumption), by assumption⟩ | exact ⟨by assumption, by assumption⟩ | omega)⟩ ?_
        try simp only [h90, pr_16_320, pr_8_6, pr_8_m10, pr_i_0, pr_i_1]
        refine pr_cvT [] rfl rfl rfl rfl rfl (Nat.le_of_ble_eq_true rfl) (by first | assumption | (simp only [h90, pr_16_320, pr_8_6, pr_8_m10, pr_i_0, pr_i_1]; first | assumption | decide | exact ⟨by assumption, by assumption⟩ | exact ⟨Or.inl (by assumption), by assumption⟩ | omega) | decide | exact ⟨Or.inl (by assumption), by assumption⟩ | exact ⟨by assumption, by assumption⟩ | omega) (Nat.le_of_ble_eq_true rfl) (ha) ?_
        refine pr_ifT rfl (fun h51 => ?_) (fun h51 => ?_)
        · simp only [ab_cmp, pr_16_320, pr_8_6, pr_8_m10, pr_i_0, pr_i_1] at h51
          first
          | contradiction
          | exact absurd trivial h51
          | exact absurd h51 (by decide)
          | exact absurd (Classical.not_not.mp h51) (by decide)
          | skip
            refine pr_seqT (pc' := 72) 2 rfl ⟨⟨trivial, (by first | assumption | (simp only [h90, pr_16_320, pr_8_6, pr_8_m10, pr_i_0, pr_i_1]; first | assumption | decide | exact ⟨by assumption, by assumption⟩ | exact ⟨Or.inl (by assumption), by assumption⟩ | omega) | decide | exact ⟨Or.inl (by assumption), by assumption⟩ | exact ⟨by assumption, by assumption⟩ | omega)⟩, (by first | assumption | (simp only [h90, pr_16_320, pr_8_6, pr_8_m10, pr_i_0, pr_i_1]; first | assumption | decide | exact ⟨by assumption, by assumption⟩ | exact ⟨Or.inl (by assumption), by assumption⟩ | omega) | decide | exact ⟨Or.inl (by assumption), by assumption⟩ | exact ⟨by assumption, by assumption⟩ | omega)⟩ ?_
            try simp only [h90, pr_16_320, pr_8_6, pr_8_m10, pr_i_0, pr_i_1]
            refine pr_ifT rfl (fun h72 => ?_) (fun h72 => ?_)
            · simp only [ab_cmp, pr_16_320, pr_8_6, pr_8_m10, pr_i_0, pr_i_1] at h72
              first
              | contradiction
              | exact absurd trivial h72
              | exact absurd h72 (by decide)
              | exact absurd (Classical.not_not.mp h72) (by decide)
              | skip
                fail
            · simp only [ab_cmp, pr_16_320, pr_8_6, pr_8_m10, pr_i_0, pr_i_1] at h72
              first
              | contradiction
              | exact absurd trivial h72
              | exact absurd h72 (by decide)
              | exact absurd (Classical.not_not.mp h72) (by decide)
              | skip
                refine pr_seqT (pc' := 86) 2 rfl ⟨⟨trivial, trivial⟩, trivial⟩ ?_
                try simp only [h90, pr_16_320, pr_8_6, pr_8_m10, pr_i_0, pr_i_1]
                exact pr_irT rfl trivial (by exact ⟨rfl, hf, rfl, h9, td_tl hd b⟩)
        · simp only [ab_cmp, pr_16_320, pr_8_6, pr_8_m10, pr_i_0, pr_i_1] at h51
          first
          | contradiction
          | exact absurd trivial h51
          | exact absurd h51 (by decide)
          | exact absurd (Classical.not_not.mp h51) (by decide)
          | skip
            fail
  | false =>
    rw [b] at ha
    rw [if_neg (by decide)]
    refine pr_seqT (pc' := 44) 2 rfl ⟨⟨trivial, (by first | assumption | (simp only [h90, r0, hw1, pr_16_320, pr_8_6, pr_8_m10, pr_i_0, pr_i_1]; first | assumption | decide | exact ⟨by assumption, by assumption⟩ | exact ⟨Or.inl (by assumption), by assumption⟩ | omega) | decide | exact ⟨Or.inl (by assumption), by assumption⟩ | exact ⟨by assumption, by assumption⟩ | omega)⟩, (by first | assumption | (simp only [h90, r0, hw1, pr_16_320, pr_8_6, pr_8_m10, pr_i_0, pr_i_1]; first | assumption | decide | exact ⟨by assumption, by assumption⟩ | exact ⟨Or.inl (by assumption), by assumption⟩ | omega) | decide | exact ⟨Or.inl (by assumption), by assumption⟩ | exact ⟨by assumption, by assumption⟩ | omega)⟩ ?_
    try simp only [h90, r0, hw1, pr_16_320, pr_8_6, pr_8_m10, pr_i_0, pr_i_1]
    refine pr_ifT rfl (fun h44 => ?_) (fun h44 => ?_)
    · simp only [ab_cmp, pr_16_320, pr_8_6, pr_8_m10, pr_i_0, pr_i_1] at h44
      exact absurd (by first | exact trivial | exact rfl) h44
    · simp only [ab_cmp, pr_16_320, pr_8_6, pr_8_m10, pr_i_0, pr_i_1] at h44
      first
      | contradiction
      | exact absurd trivial h44
      | exact absurd h44 (by decide)
      | exact absurd (Classical.not_not.mp h44) (by decide)
      | skip
        refine pr_seqT (pc' := 48) 1 rfl ⟨trivial, (by first | assumption | (simp only [h90, r0, hw1, pr_16_320, pr_8_6, pr_8_m10, pr_i_0, pr_i_1]; first | assumption | decide | exact ⟨by assumption, by assumption⟩ | exact ⟨Or.inl (by assumption), by assumption⟩ | omega) | decide | exact ⟨Or.inl (by assumption), by assumption⟩ | exact ⟨by assumption, by assumption⟩ | omega)⟩ ?_
        try simp only [h90, r0, hw1, pr_16_320, pr_8_6, pr_8_m10, pr_i_0, pr_i_1]
        refine pr_cvT [] rfl rfl rfl rfl rfl (Nat.le_of_ble_eq_true rfl) (by first | assumption | (simp only [h90, r0, hw1, pr_16_320, pr_8_6, pr_8_m10, pr_i_0, pr_i_1]; first | assumption | decide | exact ⟨by assumption, by assumption⟩ | exact ⟨Or.inl (by assumption), by assumption⟩ | omega) | decide | exact ⟨Or.inl (by assumption), by assumption⟩ | exact ⟨by assumption, by assumption⟩ | omega) (Nat.le_of_ble_eq_true rfl) (ha) ?_
        refine pr_ifT rfl (fun h51 => ?_) (fun h51 => ?_)
        · simp only [ab_cmp, pr_16_320, pr_8_6, pr_8_m10, pr_i_0, pr_i_1] at h51
          exact absurd (by first | exact trivial | exact rfl) h51
        · simp only [ab_cmp, pr_16_320, pr_8_6, pr_8_m10, pr_i_0, pr_i_1] at h51
          first
          | contradiction
          | exact absurd trivial h51
          | exact absurd h51 (by decide)
          | exact absurd (Classical.not_not.mp h51) (by decide)
          | skip
            refine pr_seqT (pc' := 64) 5 rfl ⟨⟨⟨⟨⟨trivial, (by first | assumption | (simp only [h90, r0, hw1, pr_16_320, pr_8_6, pr_8_m10, pr_i_0, pr_i_1]; first | assumption | decide | exact ⟨by assumption, by assumption⟩ | exact ⟨Or.inl (by assumption), by assumption⟩ | omega) | decide | exact ⟨Or.inl (by assumption), by assumption⟩ | exact ⟨by assumption, by assumption⟩ | omega)⟩, trivial⟩, (by first | assumption | (simp only [h90, r0, hw1, pr_16_320, pr_8_6, pr_8_m10, pr_i_0, pr_i_1]; first | assumption | decide | exact ⟨by assumption, by assumption⟩ | exact ⟨Or.inl (by assumption), by assumption⟩ | omega) | decide | exact ⟨Or.inl (by assumption), by assumption⟩ | exact ⟨by assumption, by assumption⟩ | omega)⟩, (by first | assumption | (simp only [h90, r0, hw1, pr_16_320, pr_8_6, pr_8_m10, pr_i_0, pr_i_1]; first | assumption | decide | exact ⟨by assumption, by assumption⟩ | exact ⟨Or.inl (by assumption), by assumption⟩ | omega) | decide | exact ⟨Or.inl (by assumption), by assumption⟩ | exact ⟨by assumption, by assumption⟩ | omega)⟩, (by first | assumption | (simp only [h90, r0, hw1, pr_16_320, pr_8_6, pr_8_m10, pr_i_0, pr_i_1]; first | assumption | decide | exact ⟨by assumption, by assumption⟩ | exact ⟨Or.inl (by assumption), by assumption⟩ | omega) | decide | exact ⟨Or.inl (by assumption), by assumption⟩ | exact ⟨by assumption, by assumption⟩ | omega)⟩ ?_
            try simp only [h90, r0, hw1, pr_16_320, pr_8_6, pr_8_m10, pr_i_0, pr_i_1]
            refine pr_cvT [_, _] rfl rfl rfl rfl rfl (Nat.le_of_ble_eq_true rfl) (by first | assumption | (simp only [h90, r0, hw1, pr_16_320, pr_8_6, pr_8_m10, pr_i_0, pr_i_1]; first | assumption | decide | exact ⟨by assumption, by assumption⟩ | exact ⟨Or.inl (by assumption), by assumption⟩ | omega) | decide | exact ⟨Or.inl (by assumption), by assumption⟩ | exact ⟨by assumption, by assumption⟩ | omega) (Nat.le_of_ble_eq_true rfl) (c_refuse 6 (nI w.length) h (I, M.2) k4) ?_
            refine pr_seqT (pc' := 68) 1 rfl ⟨trivial, trivial⟩ ?_
            try simp only [h90, r0, hw1, pr_16_320, pr_8_6, pr_8_m10, pr_i_0, pr_i_1]
            exact te_68 (q := (6, w.length)) h M hr (fun a a4 a5 aa => (ab_u_ne a4).trans ((ab_u_ne a4).trans (hf a a4 a5 aa))) ((ab_u_j (by decide)).trans ab_u_at) ab_u_at ⟨by show 1 ≤ 6; decide, by show 6 ≤ 6; decide⟩
theorem te_loop {t : Nat} {w : List Nat} (h : ab_H) (M : ab_M) (ht5 : 5 < t) (hr : pr_Rd h M.2.2 t) (ht : pr_Tl h M.2.2 t) (hw : tp_v M.1 w) : ∀ f P p n (I : Nat → Nat → Int32), n + f = 320 → p ≤ w.length → fr t M.1 I → I 4 5 = nI p → I 4 9 = nI 0 → ps_v I t P → pr_T pX6_tell 6 [some (.ref 4), some (.int (nI n))] [] h (I, M.2) (te_p t M (fnT w (rnT w f P p n))) := by
  obtain ⟨k4, r0, r1, r2, -, -⟩ := id hr
  have n4 : (4 : Nat) ≠ 0 := by decide
  intro f
  induction f with
  | zero =>
    intro P p n I hn hp hf h5 h9 hps
    obtain rfl : n = 320 := by omega
    have e1 : (320 : Int32) ≤ nI 320 := by decide
    have hE := te_fin (x := (P, 320)) h M ht5 hr ht (tp_fr ht5 hf hw) hf h9 hps.1
    refine pr_seqT (pc' := 10) 2 rfl ⟨⟨trivial, trivial⟩, trivial⟩ ?_
    refine pr_icT rfl (fun h10 => ?_) (fun h10 => ?_)
    · simp only [ab_cmp, pr_16_320, pr_8_6, pr_8_m10, pr_i_0, pr_i_1] at h10
      first
      | contradiction
      | exact absurd trivial h10
      | exact absurd h10 (by decide)
      | exact absurd (Classical.not_not.mp h10) (by decide)
      | skip
        exact hE
    · simp only [ab_cmp, pr_16_320, pr_8_6, pr_8_m10, pr_i_0, pr_i_1] at h10
      exact absurd e1 h10
  | succ f ih =>
    intro P p n I hn hp hf h5 h9 hps
    have e1 : ¬ (320 : Int32) ≤ nI n := by rw [show (320 : Int32) = nI 320 from rfl]; exact nI_ge (by omega) (by omega)
    have hA := c_advance h (I, M.2) hr (tp_fr ht5 hf hw) h5 hp
    obtain ⟨l1, l2, l3, l4⟩ := tok_le hp
    have hR : rnT w (f + 1) P p n = if (tok w p).1 = 4 then .error (1, (tok w p).2.1) else if (tok w p).1 = 0 then .ok (P, n) else match lnLine w P (tok w p) with
      | .error e => .error e
      | .ok x => rnT w f x.1 x.2 (n + 1) := rfl
    rw [hR]
    by_cases c4 : (tok w p).1 = 4
    · rw [if_pos c4]
      have hd : decide (¬ (tok w p).1 = 4) = false := decide_eq_false (fun q => q c4)
      refine pr_seqT (pc' := 10) 2 rfl ⟨⟨trivial, trivial⟩, trivial⟩ ?_
      refine pr_icT rfl (fun h10 => ?_) (fun h10 => ?_)
      · simp only [ab_cmp, pr_16_320, pr_8_6, pr_8_m10, pr_i_0, pr_i_1] at h10
        exact absurd h10 e1
      · simp only [ab_cmp, pr_16_320, pr_8_6, pr_8_m10, pr_i_0, pr_i_1] at h10
        first
        | contradiction
        | exact absurd trivial h10
        | exact absurd h10 (by decide)
        | exact absurd (Classical.not_not.mp h10) (by decide)
        | skip
          refine pr_seqT (pc' := 14) 1 rfl ⟨trivial, (by first | assumption | decide | exact ⟨Or.inl (by assumption), by assumption⟩ | exact ⟨by assumption, by assumption⟩ | omega)⟩ ?_
          refine pr_cvX [] rfl rfl rfl rfl rfl (Nat.le_of_ble_eq_true rfl) (by first | assumption | decide | exact ⟨Or.inl (by assumption), by assumption⟩ | exact ⟨by assumption, by assumption⟩ | omega) (Nat.le_of_ble_eq_true rfl) (hA) (fun v14 M14 q14 => ?_)
          obtain ⟨a1, a2, rfl, a4, a5⟩ := q14
          obtain ⟨I1, Z1⟩ := M14
          dsimp only at a1 a2 a4 a5
          subst a1
          rw [hd]
          refine pr_ifT rfl (fun h17 => ?_) (fun h17 => ?_)
          · simp only [ab_cmp, pr_16_320, pr_8_6, pr_8_m10, pr_i_0, pr_i_1] at h17
            first
            | contradiction
            | exact absurd trivial h17
            | exact absurd h17 (by decide)
            | exact absurd (Classical.not_not.mp h17) (by decide)
            | skip
              exact te_err (q := (1, (tok w p).2.1)) h M hr (fr_trans hf (fr_rd4 a2)) (a4 c4).1 (a4 c4).2 ⟨by show 1 ≤ 1; decide, by show 1 ≤ 6; decide⟩
          · simp only [ab_cmp, pr_16_320, pr_8_6, pr_8_m10, pr_i_0, pr_i_1] at h17
            exact absurd (by first | exact trivial | exact rfl) h17
    · rw [if_neg c4]
      have hd : decide (¬ (tok w p).1 = 4) = true := decide_eq_true c4
      have p1 : ¬ pr_b true = 0 := by decide
      by_cases c0 : (tok w p).1 = 0
      · rw [if_pos c0]
        refine pr_seqT (pc' := 10) 2 rfl ⟨⟨trivial, trivial⟩, trivial⟩ ?_
        try simp only [b60, pr_16_320, pr_8_6, pr_8_m10, pr_i_0, pr_i_1]
        refine pr_icT rfl (fun h10 => ?_) (fun h10 => ?_)
        · simp only [ab_cmp, pr_16_320, pr_8_6, pr_8_m10, pr_i_0, pr_i_1] at h10
          exact absurd h10 e1
        · simp only [ab_cmp, pr_16_320, pr_8_6, pr_8_m10, pr_i_0, pr_i_1] at h10
          first
          | contradiction
          | exact absurd trivial h10
          | exact absurd h10 (by decide)
          | exact absurd (Classical.not_not.mp h10) (by decide)
          | skip
            refine pr_seqT (pc' := 14) 1 rfl ⟨trivial, (by first | assumption | (simp only [b60, pr_16_320, pr_8_6, pr_8_m10, pr_i_0, pr_i_1]; first | assumption | decide | exact ⟨by assumption, by assumption⟩ | exact ⟨Or.inl (by assumption), by assumption⟩ | omega) | decide | exact ⟨Or.inl (by assumption), by assumption⟩ | exact ⟨by assumption, by assumption⟩ | omega)⟩ ?_
            try simp only [b60, pr_16_320, pr_8_6, pr_8_m10, pr_i_0, pr_i_1]
            refine pr_cvX [] rfl rfl rfl rfl rfl (Nat.le_of_ble_eq_true rfl) (by first | assumption | (simp only [b60, pr_16_320, pr_8_6, pr_8_m10, pr_i_0, pr_i_1]; first | assumption | decide | exact ⟨by assumption, by assumption⟩ | exact ⟨Or.inl (by assumption), by assumption⟩ | omega) | decide | exact ⟨Or.inl (by assumption), by assumption⟩ | exact ⟨by assumption, by assumption⟩ | omega) (Nat.le_of_ble_eq_true rfl) (hA) (fun v14 M14 q14 => ?_)
            obtain ⟨a1, a2, rfl, a4, a5⟩ := q14
            obtain ⟨I1, Z1⟩ := M14
            dsimp only at a1 a2 a4 a5
            subst a1
            rw [hd]
            obtain ⟨b5, b6, b7, b8, b3, b4, b9⟩ := a5 c4
            have b60 : I1 4 6 = 0 := by rw [b6, c0]; rfl
            refine pr_ifT rfl (fun h17 => ?_) (fun h17 => ?_)
            · simp only [ab_cmp, pr_16_320, pr_8_6, pr_8_m10, pr_i_0, pr_i_1] at h17
              exact absurd h17 p1
            · simp only [ab_cmp, pr_16_320, pr_8_6, pr_8_m10, pr_i_0, pr_i_1] at h17
              first
              | contradiction
              | exact absurd trivial h17
              | exact absurd h17 (by decide)
              | exact absurd (Classical.not_not.mp h17) (by decide)
              | skip
                refine pr_seqT (pc' := 24) 2 rfl ⟨⟨trivial, (by first | assumption | (simp only [b60, pr_16_320, pr_8_6, pr_8_m10, pr_i_0, pr_i_1]; first | assumption | decide | exact ⟨by assumption, by assumption⟩ | exact ⟨Or.inl (by assumption), by assumption⟩ | omega) | decide | exact ⟨Or.inl (by assumption), by assumption⟩ | exact ⟨by assumption, by assumption⟩ | omega)⟩, (by first | assumption | (simp only [b60, pr_16_320, pr_8_6, pr_8_m10, pr_i_0, pr_i_1]; first | assumption | decide | exact ⟨by assumption, by assumption⟩ | exact ⟨Or.inl (by assumption), by assumption⟩ | omega) | decide | exact ⟨Or.inl (by assumption), by assumption⟩ | exact ⟨by assumption, by assumption⟩ | omega)⟩ ?_
                try simp only [b60, pr_16_320, pr_8_6, pr_8_m10, pr_i_0, pr_i_1]
                refine pr_ifT rfl (fun h24 => ?_) (fun h24 => ?_)
                · simp only [ab_cmp, pr_16_320, pr_8_6, pr_8_m10, pr_i_0, pr_i_1] at h24
                  first
                  | contradiction
                  | exact absurd trivial h24
                  | exact absurd h24 (by decide)
                  | exact absurd (Classical.not_not.mp h24) (by decide)
                  | skip
                    exact te_fin (x := (P, n)) h M ht5 hr ht (tp_fr ht5 (fr_trans hf (fr_rd4 a2)) hw) (fr_trans hf (fr_rd4 a2)) (b9.trans h9) (ps_rd4 ht5 a2 b3 b4 hps).1
                · simp only [ab_cmp, pr_16_320, pr_8_6, pr_8_m10, pr_i_0, pr_i_1] at h24
                  exact absurd (by first | exact trivial | exact rfl) h24
      · rw [if_neg c0]
        have cn : ¬ nI (tok w p).1 = 0 := by
          show ¬ nI (tok w p).1 = nI 0
          exact nI_ne c0 (by omega) (by decide)
        cases hL : lnLine w P (tok w p) with
        | error q =>
          have hL' : lnLine w P ((tok w p).1, (tok w p).2.1, (tok w p).2.2.1, (tok w p).2.2.2) = .error q := hL
          refine pr_seqT (pc' := 10) 2 rfl ⟨⟨trivial, trivial⟩, trivial⟩ ?_
          try simp only [b6, pr_16_320, pr_8_6, pr_8_m10, pr_i_0, pr_i_1]
          refine pr_icT rfl (fun h10 => ?_) (fun h10 => ?_)
          · simp only [ab_cmp, pr_16_320, pr_8_6, pr_8_m10, pr_i_0, pr_i_1] at h10
            exact absurd h10 e1
          · simp only [ab_cmp, pr_16_320, pr_8_6, pr_8_m10, pr_i_0, pr_i_1] at h10
            first
            | contradiction
            | exact absurd trivial h10
            | exact absurd h10 (by decide)
            | exact absurd (Classical.not_not.mp h10) (by decide)
            | skip
              refine pr_seqT (pc' := 14) 1 rfl ⟨trivial, (by first | assumption | (simp only [b6, pr_16_320, pr_8_6, pr_8_m10, pr_i_0, pr_i_1]; first | assumption | decide | exact ⟨by assumption, by assumption⟩ | exact ⟨Or.inl (by assumption), by assumption⟩ | omega) | decide | exact ⟨Or.inl (by assumption), by assumption⟩ | exact ⟨by assumption, by assumption⟩ | omega)⟩ ?_
              try simp only [b6, pr_16_320, pr_8_6, pr_8_m10, pr_i_0, pr_i_1]
              refine pr_cvX [] rfl rfl rfl rfl rfl (Nat.le_of_ble_eq_true rfl) (by first | assumption | (simp only [b6, pr_16_320, pr_8_6, pr_8_m10, pr_i_0, pr_i_1]; first | assumption | decide | exact ⟨by assumption, by assumption⟩ | exact ⟨Or.inl (by assumption), by assumption⟩ | omega) | decide | exact ⟨Or.inl (by assumption), by assumption⟩ | exact ⟨by assumption, by assumption⟩ | omega) (Nat.le_of_ble_eq_true rfl) (hA) (fun v14 M14 q14 => ?_)
              obtain ⟨a1, a2, rfl, a4, a5⟩ := q14
              obtain ⟨I1, Z1⟩ := M14
              dsimp only at a1 a2 a4 a5
              subst a1
              rw [hd]
              obtain ⟨b5, b6, b7, b8, b3, b4, b9⟩ := a5 c4
              refine pr_ifT rfl (fun h17 => ?_) (fun h17 => ?_)
              · simp only [ab_cmp, pr_16_320, pr_8_6, pr_8_m10, pr_i_0, pr_i_1] at h17
                exact absurd h17 p1
              · simp only [ab_cmp, pr_16_320, pr_8_6, pr_8_m10, pr_i_0, pr_i_1] at h17
                first
                | contradiction
                | exact absurd trivial h17
                | exact absurd h17 (by decide)
                | exact absurd (Classical.not_not.mp h17) (by decide)
                | skip
                  refine pr_seqT (pc' := 24) 2 rfl ⟨⟨trivial, (by first | assumption | (simp only [b6, pr_16_320, pr_8_6, pr_8_m10, pr_i_0, pr_i_1]; first | assumption | decide | exact ⟨by assumption, by assumption⟩ | exact ⟨Or.inl (by assumption), by assumption⟩ | omega) | decide | exact ⟨Or.inl (by assumption), by assumption⟩ | exact ⟨by assumption, by assumption⟩ | omega)⟩, (by first | assumption | (simp only [b6, pr_16_320, pr_8_6, pr_8_m10, pr_i_0, pr_i_1]; first | assumption | decide | exact ⟨by assumption, by assumption⟩ | exact ⟨Or.inl (by assumption), by assumption⟩ | omega) | decide | exact ⟨Or.inl (by assumption), by assumption⟩ | exact ⟨by assumption, by assumption⟩ | omega)⟩ ?_
                  try simp only [b6, pr_16_320, pr_8_6, pr_8_m10, pr_i_0, pr_i_1]
                  refine pr_ifT rfl (fun h24 => ?_) (fun h24 => ?_)
                  · simp only [ab_cmp, pr_16_320, pr_8_6, pr_8_m10, pr_i_0, pr_i_1] at h24
                    exact absurd h24 cn
                  · simp only [ab_cmp, pr_16_320, pr_8_6, pr_8_m10, pr_i_0, pr_i_1] at h24
                    first
                    | contradiction
                    | exact absurd trivial h24
                    | exact absurd h24 (by decide)
                    | exact absurd (Classical.not_not.mp h24) (by decide)
                    | skip
                      refine pr_seqT (pc' := 28) 1 rfl ⟨trivial, (by first | assumption | (simp only [b6, pr_16_320, pr_8_6, pr_8_m10, pr_i_0, pr_i_1]; first | assumption | decide | exact ⟨by assumption, by assumption⟩ | exact ⟨Or.inl (by assumption), by assumption⟩ | omega) | decide | exact ⟨Or.inl (by assumption), by assumption⟩ | exact ⟨by assumption, by assumption⟩ | omega)⟩ ?_
                      try simp only [b6, pr_16_320, pr_8_6, pr_8_m10, pr_i_0, pr_i_1]
                      refine pr_cvX [] rfl rfl rfl rfl rfl (Nat.le_of_ble_eq_true rfl) (by first | assumption | (simp only [b6, pr_16_320, pr_8_6, pr_8_m10, pr_i_0, pr_i_1]; first | assumption | decide | exact ⟨by assumption, by assumption⟩ | exact ⟨Or.inl (by assumption), by assumption⟩ | omega) | decide | exact ⟨Or.inl (by assumption), by assumption⟩ | exact ⟨by assumption, by assumption⟩ | omega) (Nat.le_of_ble_eq_true rfl) (c_tellLine (v := (tok w p).2.2.2) h (I1, M.2) ht5 hr ht (tp_fr ht5 (fr_trans hf (fr_rd4 a2)) hw) (ps_rd4 ht5 a2 b3 b4 hps) b5 b6 b7 l4 l2 l3) (fun v28 M28 q28 => ?_)
                      rw [hL'] at q28
                      obtain ⟨rfl, u2, u3, u4, u5⟩ := q28
                      obtain ⟨I2, Z2⟩ := M28
                      dsimp only at u2 u3 u4 u5
                      subst u2
                      refine pr_ifT rfl (fun h31 => ?_) (fun h31 => ?_)
                      · simp only [ab_cmp, pr_16_320, pr_8_6, pr_8_m10, pr_i_0, pr_i_1] at h31
                        first
                        | contradiction
                        | exact absurd trivial h31
                        | exact absurd h31 (by decide)
                        | exact absurd (Classical.not_not.mp h31) (by decide)
                        | skip
                          exact te_err (q := q) h M hr (fr_trans (fr_trans hf (fr_rd4 a2)) u3) u4 u5 (eK_line w P (tok w p) q hL)
                      · simp only [ab_cmp, pr_16_320, pr_8_6, pr_8_m10, pr_i_0, pr_i_1] at h31
                        exact absurd (by first | exact trivial | exact rfl) h31
        | ok x =>
          have hL' : lnLine w P ((tok w p).1, (tok w p).2.1, (tok w p).2.2.1, (tok w p).2.2.2) = .ok x := hL
          have hN := eN_line (w := w) (P := P) (T := tok w p) l3 x hL
          have p2 : ¬ pr_b (okB (Except.ok x : Except (Nat × Nat) (PS × Nat))) = 0 := by show ¬ pr_b true = 0; decide
          refine pr_seqT (pc' := 10) 2 rfl ⟨⟨trivial, trivial⟩, trivial⟩ ?_
          try simp only [b6, nI_1, pr_16_320, pr_8_6, pr_8_m10, pr_i_0, pr_i_1]
          refine pr_icT rfl (fun h10 => ?_) (fun h10 => ?_)
          · simp only [ab_cmp, pr_16_320, pr_8_6, pr_8_m10, pr_i_0, pr_i_1] at h10
            exact absurd h10 e1
          · simp only [ab_cmp, pr_16_320, pr_8_6, pr_8_m10, pr_i_0, pr_i_1] at h10
            first
            | contradiction
            | exact absurd trivial h10
            | exact absurd h10 (by decide)
            | exact absurd (Classical.not_not.mp h10) (by decide)
            | skip
              refine pr_seqT (pc' := 14) 1 rfl ⟨trivial, (by first | assumption | (simp only [b6, nI_1, pr_16_320, pr_8_6, pr_8_m10, pr_i_0, pr_i_1]; first | assumption | decide | exact ⟨by assumption, by assumption⟩ | exact ⟨Or.inl (by assumption), by assumption⟩ | omega) | decide | exact ⟨Or.inl (by assumption), by assumption⟩ | exact ⟨by assumption, by assumption⟩ | omega)⟩ ?_
              try simp only [b6, nI_1, pr_16_320, pr_8_6, pr_8_m10, pr_i_0, pr_i_1]
              refine pr_cvX [] rfl rfl rfl rfl rfl (Nat.le_of_ble_eq_true rfl) (by first | assumption | (simp only [b6, nI_1, pr_16_320, pr_8_6, pr_8_m10, pr_i_0, pr_i_1]; first | assumption | decide | exact ⟨by assumption, by assumption⟩ | exact ⟨Or.inl (by assumption), by assumption⟩ | omega) | decide | exact ⟨Or.inl (by assumption), by assumption⟩ | exact ⟨by assumption, by assumption⟩ | omega) (Nat.le_of_ble_eq_true rfl) (hA) (fun v14 M14 q14 => ?_)
              obtain ⟨a1, a2, rfl, a4, a5⟩ := q14
              obtain ⟨I1, Z1⟩ := M14
              dsimp only at a1 a2 a4 a5
              subst a1
              rw [hd]
              obtain ⟨b5, b6, b7, b8, b3, b4, b9⟩ := a5 c4
              refine pr_ifT rfl (fun h17 => ?_) (fun h17 => ?_)
              · simp only [ab_cmp, pr_16_320, pr_8_6, pr_8_m10, pr_i_0, pr_i_1] at h17
                exact absurd h17 p1
              · simp only [ab_cmp, pr_16_320, pr_8_6, pr_8_m10, pr_i_0, pr_i_1] at h17
                first
                | contradiction
                | exact absurd trivial h17
                | exact absurd h17 (by decide)
                | exact absurd (Classical.not_not.mp h17) (by decide)
                | skip
                  refine pr_seqT (pc' := 24) 2 rfl ⟨⟨trivial, (by first | assumption | (simp only [b6, nI_1, pr_16_320, pr_8_6, pr_8_m10, pr_i_0, pr_i_1]; first | assumption | decide | exact ⟨by assumption, by assumption⟩ | exact ⟨Or.inl (by assumption), by assumption⟩ | omega) | decide | exact ⟨Or.inl (by assumption), by assumption⟩ | exact ⟨by assumption, by assumption⟩ | omega)⟩, (by first | assumption | (simp only [b6, nI_1, pr_16_320, pr_8_6, pr_8_m10, pr_i_0, pr_i_1]; first | assumption | decide | exact ⟨by assumption, by assumption⟩ | exact ⟨Or.inl (by assumption), by assumption⟩ | omega) | decide | exact ⟨Or.inl (by assumption), by assumption⟩ | exact ⟨by assumption, by assumption⟩ | omega)⟩ ?_
                  try simp only [b6, nI_1, pr_16_320, pr_8_6, pr_8_m10, pr_i_0, pr_i_1]
                  refine pr_ifT rfl (fun h24 => ?_) (fun h24 => ?_)
                  · simp only [ab_cmp, pr_16_320, pr_8_6, pr_8_m10, pr_i_0, pr_i_1] at h24
                    exact absurd h24 cn
                  · simp only [ab_cmp, pr_16_320, pr_8_6, pr_8_m10, pr_i_0, pr_i_1] at h24
                    first
                    | contradiction
                    | exact absurd trivial h24
                    | exact absurd h24 (by decide)
                    | exact absurd (Classical.not_not.mp h24) (by decide)
                    | skip
                      refine pr_seqT (pc' := 28) 1 rfl ⟨trivial, (by first | assumption | (simp only [b6, nI_1, pr_16_320, pr_8_6, pr_8_m10, pr_i_0, pr_i_1]; first | assumption | decide | exact ⟨by assumption, by assumption⟩ | exact ⟨Or.inl (by assumption), by assumption⟩ | omega) | decide | exact ⟨Or.inl (by assumption), by assumption⟩ | exact ⟨by assumption, by assumption⟩ | omega)⟩ ?_
                      try simp only [b6, nI_1, pr_16_320, pr_8_6, pr_8_m10, pr_i_0, pr_i_1]
                      refine pr_cvX [] rfl rfl rfl rfl rfl (Nat.le_of_ble_eq_true rfl) (by first | assumption | (simp only [b6, nI_1, pr_16_320, pr_8_6, pr_8_m10, pr_i_0, pr_i_1]; first | assumption | decide | exact ⟨by assumption, by assumption⟩ | exact ⟨Or.inl (by assumption), by assumption⟩ | omega) | decide | exact ⟨Or.inl (by assumption), by assumption⟩ | exact ⟨by assumption, by assumption⟩ | omega) (Nat.le_of_ble_eq_true rfl) (c_tellLine (v := (tok w p).2.2.2) h (I1, M.2) ht5 hr ht (tp_fr ht5 (fr_trans hf (fr_rd4 a2)) hw) (ps_rd4 ht5 a2 b3 b4 hps) b5 b6 b7 l4 l2 l3) (fun v28 M28 q28 => ?_)
                      rw [hL'] at q28
                      obtain ⟨rfl, u2, u3, u4, u5, u6⟩ := q28
                      obtain ⟨I2, Z2⟩ := M28
                      dsimp only at u2 u3 u4 u5 u6
                      subst u2
                      refine pr_ifT rfl (fun h31 => ?_) (fun h31 => ?_)
                      · simp only [ab_cmp, pr_16_320, pr_8_6, pr_8_m10, pr_i_0, pr_i_1] at h31
                        exact absurd h31 p2
                      · simp only [ab_cmp, pr_16_320, pr_8_6, pr_8_m10, pr_i_0, pr_i_1] at h31
                        first
                        | contradiction
                        | exact absurd trivial h31
                        | exact absurd h31 (by decide)
                        | exact absurd (Classical.not_not.mp h31) (by decide)
                        | skip
                          refine pr_seqT (pc' := 6) 2 rfl ⟨⟨trivial, trivial⟩, trivial⟩ ?_
                          try simp only [b6, nI_1, pr_16_320, pr_8_6, pr_8_m10, pr_i_0, pr_i_1]
                          exact ih x.1 x.2 (n + 1) I2 (by omega) hN.2 (fr_trans (fr_trans hf (fr_rd4 a2)) u3) u5 (u4.trans (b9.trans h9)) u6
theorem c_tell {t : Nat} {w : List Nat} (h : ab_H) (M : ab_M) (ht5 : 5 < t) (hr : pr_Rd h M.2.2 t) (ht : pr_Tl h M.2.2 t) (hw : tp_v M.1 w) : pr_X pX6_tell [.ref 4] h M (te_p t M (parse w)) := by
  obtain ⟨k4, -⟩ := id hr
  have n4 : (4 : Nat) ≠ 0 := by decide
  have hB := c_rbegin h M ht5 hr ht
  have hP : parse w = fnT w (rnT w 320 P0 0 0) := by
    unfold parse fnT
    cases rnT w 320 P0 0 0 <;> rfl
  rw [hP]
  refine pr_seqT (pc' := 1) 1 rfl ⟨trivial, (by first | assumption | (simp only [pr_i_0, pr_16_320, pr_8_6, pr_8_m10, pr_i_0, pr_i_1]; first | assumption | decide | exact ⟨by assumption, by assumption⟩ | exact ⟨Or.inl (by assumption), by assumption⟩ | omega) | decide | exact ⟨Or.inl (by assumption), by assumption⟩ | exact ⟨by assumption, by assumption⟩ | omega)⟩ ?_
  try simp only [pr_i_0, pr_16_320, pr_8_6, pr_8_m10, pr_i_0, pr_i_1]
  refine pr_cvX [] rfl rfl rfl rfl rfl (Nat.le_of_ble_eq_true rfl) (by first | assumption | (simp only [pr_i_0, pr_16_320, pr_8_6, pr_8_m10, pr_i_0, pr_i_1]; first | assumption | decide | exact ⟨by assumption, by assumption⟩ | exact ⟨Or.inl (by assumption), by assumption⟩ | omega) | decide | exact ⟨Or.inl (by assumption), by assumption⟩ | exact ⟨by assumption, by assumption⟩ | omega) (Nat.le_of_ble_eq_true rfl) (hB) (fun v1 M1 q1 => ?_)
  obtain ⟨rfl, a1, a2, a3, a4, a5⟩ := q1
  obtain ⟨I1, Z1⟩ := M1
  dsimp only at a1 a2 a3 a4 a5
  subst a1
  refine pr_seqT (pc' := 6) 2 rfl ⟨⟨trivial, trivial⟩, trivial⟩ ?_
  try simp only [pr_i_0, pr_16_320, pr_8_6, pr_8_m10, pr_i_0, pr_i_1]
  exact te_loop h M ht5 hr ht hw 320 P0 0 0 I1 (by omega) (Nat.zero_le _) a2 a3 a4 a5
theorem c_exchange {t u : Nat} (h : ab_H) (M : ab_M) (hr : pr_Rd h M.2.2 t) (t0 : t ≠ 0) (u0 : u ≠ 0) : pr_C pX6_exchange [.ref 4, .ref u] h M (some (.ref t)) h (M.1, M.2.1, ab_u M.2.2 4 2 u) := by
  obtain ⟨k4, r0, r1, r2, -⟩ := id hr
  have n4 : (4 : Nat) ≠ 0 := by decide
  refine pr_seq (pc' := 11) 7 rfl ⟨⟨⟨⟨⟨⟨⟨trivial, (by first | assumption | (simp only [r2]; first | assumption | decide | exact ⟨by assumption, by assumption⟩ | exact ⟨Or.inl (by assumption), by assumption⟩ | omega) | decide | exact ⟨Or.inl (by assumption), by assumption⟩ | exact ⟨by assumption, by assumption⟩ | omega)⟩, (by first | assumption | (simp only [r2]; first | assumption | decide | exact ⟨by assumption, by assumption⟩ | exact ⟨Or.inl (by assumption), by assumption⟩ | omega) | decide | exact ⟨Or.inl (by assumption), by assumption⟩ | exact ⟨by assumption, by assumption⟩ | omega)⟩, (by first | assumption | (simp only [r2]; first | assumption | decide | exact ⟨by assumption, by assumption⟩ | exact ⟨Or.inl (by assumption), by assumption⟩ | omega) | decide | exact ⟨Or.inl (by assumption), by assumption⟩ | exact ⟨by assumption, by assumption⟩ | omega)⟩, (by first | assumption | (simp only [r2]; first | assumption | decide | exact ⟨by assumption, by assumption⟩ | exact ⟨Or.inl (by assumption), by assumption⟩ | omega) | decide | exact ⟨Or.inl (by assumption), by assumption⟩ | exact ⟨by assumption, by assumption⟩ | omega)⟩, (by first | assumption | (simp only [r2]; first | assumption | decide | exact ⟨by assumption, by assumption⟩ | exact ⟨Or.inl (by assumption), by assumption⟩ | omega) | decide | exact ⟨Or.inl (by assumption), by assumption⟩ | exact ⟨by assumption, by assumption⟩ | omega)⟩, (by first | assumption | (simp only [r2]; first | assumption | decide | exact ⟨by assumption, by assumption⟩ | exact ⟨Or.inl (by assumption), by assumption⟩ | omega) | decide | exact ⟨Or.inl (by assumption), by assumption⟩ | exact ⟨by assumption, by assumption⟩ | omega)⟩, (by first | assumption | (simp only [r2]; first | assumption | decide | exact ⟨by assumption, by assumption⟩ | exact ⟨Or.inl (by assumption), by assumption⟩ | omega) | decide | exact ⟨Or.inl (by assumption), by assumption⟩ | exact ⟨by assumption, by assumption⟩ | omega)⟩ ?_
  try simp only [r2]
  exact pr_arM rfl (by first | rfl | (simp only [r2]; done) | (simp [pr_b, *]; done) | (simp_all [pr_b]; done)) (by first | assumption | (simp only [r2]; first | assumption | decide | exact ⟨by assumption, by assumption⟩ | exact ⟨Or.inl (by assumption), by assumption⟩ | omega) | decide | exact ⟨Or.inl (by assumption), by assumption⟩ | exact ⟨by assumption, by assumption⟩ | omega) (by rfl)
theorem ly_rd {h : ab_H} {R : Nat → Nat → Nat} {b : Bool} (hl : Lay h R b) : pr_Rd h R (tB (!b)) := by
  obtain ⟨c1, d1, d2, d3, d4, d5, d6⟩ := hl.2.2.2.2.1
  exact ⟨d1, d2, d3, d4, c1, d5, d6⟩
theorem ly_tl2 {h : ab_H} {R : Nat → Nat → Nat} {b : Bool} (hl : Lay h R b) : pr_Tl h R (tB (!b)) := by
  cases b
  · exact hl.2.1.2
  · exact hl.2.1.1
theorem ly_flip {h : ab_H} {R : Nat → Nat → Nat} {b : Bool} (hl : Lay h R b) : Lay h (ab_u (ab_u R 4 2 (tB b)) 1 9 (tB (!b))) (!b) := by
  have e : ∀ c, c ≠ 1 → c ≠ 4 → ab_u (ab_u R 4 2 (tB b)) 1 9 (tB (!b)) c = R c := fun c c1 c4 => by rw [ab_u_ne c1, ab_u_ne c4]
  have e1 : ∀ j, j ≠ 9 → ab_u (ab_u R 4 2 (tB b)) 1 9 (tB (!b)) 1 j = R 1 j := fun j hj => by rw [ab_u_j hj, ab_u_ne (by decide)]
  have e4 : ∀ j, j ≠ 2 → ab_u (ab_u R 4 2 (tB b)) 1 9 (tB (!b)) 4 j = R 4 j := fun j hj => by rw [ab_u_ne (by decide), ab_u_j hj]
  have e19 : ab_u (ab_u R 4 2 (tB b)) 1 9 (tB (!b)) 1 9 = tB (!b) := ab_u_at
  have e42 : ab_u (ab_u R 4 2 (tB b)) 1 9 (tB (!b)) 4 2 = tB (!(!b)) := by rw [ab_u_ne (by decide), ab_u_at, Bool.not_not]
  generalize ab_u (ab_u R 4 2 (tB b)) 1 9 (tB (!b)) = R' at e e1 e4 e19 e42 ⊢
  have g : ∀ lo hi, 4 < lo → ag lo hi h ((fun _ _ => 0 : Nat → Nat → Int32), (fun _ _ => 0 : Nat → Nat → Int64), R) h ((fun _ _ => 0 : Nat → Nat → Int32), (fun _ _ => 0 : Nat → Nat → Int64), R') := fun lo hi hlo c c1 c2 => ⟨rfl, rfl, rfl, e c (by omega) (by omega)⟩
  obtain ⟨⟨o0, o1, o2, o3, o4, o5, o6, o7, o8, o9, o10⟩, ⟨t1, t2⟩, ⟨i1, i2, i3⟩, ⟨s1, s2⟩, ⟨⟨x1, x2, x3, x4⟩, d1, d2, d3, d4, d5, d6⟩, w1, ⟨y0, y1, y2, y3⟩, ⟨z0, z1, z2, z3, z4⟩, w4⟩ := hl
  refine ⟨⟨o0, (e1 0 (by decide)).trans o1, (e1 1 (by decide)).trans o2, (e1 2 (by decide)).trans o3, (e1 3 (by decide)).trans o4, (e1 4 (by decide)).trans o5, (e1 5 (by decide)).trans o6, (e1 6 (by decide)).trans o7, (e1 7 (by decide)).trans o8, (e1 8 (by decide)).trans o9, e19⟩, ⟨pr_Tl_ag (g 6 _ (by omega)) t1, pr_Tl_ag (g 67 _ (by omega)) t2⟩, ⟨i1, i2, fun k hk => ⟨(congrFun (e 64 (by decide) (by decide)) k).trans (i3 k hk).1, pr_Ld_ag (g _ _ (by omega)) (i3 k hk).2⟩⟩, ⟨s1, fun k hk => ⟨(congrFun (e 66 (by decide) (by decide)) k).trans (s2 k hk).1, pr_Sh_ag (g _ _ (by omega)) (s2 k hk).2⟩⟩, ⟨⟨x1, (congrFun (e 2 (by decide) (by decide)) 0).trans x2, x3, x4⟩, d1, (e4 0 (by decide)).trans d2, (e4 1 (by decide)).trans d3, e42, d5, d6⟩, pr_Cs_ag (g 49 _ (by omega)) w1, ⟨y0, (congrFun (e 55 (by decide) (by decide)) 0).trans y1, (congrFun (e 55 (by decide) (by decide)) 1).trans y2, y3⟩, ⟨z0, (congrFun (e 58 (by decide) (by decide)) 0).trans z1, (congrFun (e 58 (by decide) (by decide)) 1).trans z2, (congrFun (e 58 (by decide) (by decide)) 2).trans z3, z4⟩, pr_Nm_ag (g 62 _ (by omega)) w4⟩
theorem tB_2 (b : Bool) : (tB b = 6 ∧ tB (!b) = 67) ∨ (tB b = 67 ∧ tB (!b) = 6) := by cases b <;> decide
theorem cx_E {b : Bool} {X : St} {q : Nat × Nat} {I1 : Nat → Nat → Int32} {v : Int32} (h : ab_H) (M : ab_M) (hl : Lay h M.2.2 b) (hv : cl_v M.1 b X) (hf : fr (tB (!b)) M.1 I1) : cp h M (v, (X.1, X.2.1, X.2.2.1, [], q.1, X.2.2.2.2.2)) (some (.int v)) (ab_u (ab_u I1 1 10 (nI q.1)) 2 1 0, M.2) := by
  have b2 := tB_2 b
  obtain ⟨v1, v2, v3, v4, v5, v6⟩ := hv
  have e : ∀ a, a ≠ 1 → a ≠ 2 → a ≠ 4 → a ≠ 5 → (a < tB (!b) ∨ tB (!b) + 43 ≤ a) → ab_u (ab_u I1 1 10 (nI q.1)) 2 1 0 a = M.1 a := fun a a1 a2 a4 a5 aa => by rw [ab_u_ne a2, ab_u_ne a1]; exact hf a a4 a5 aa
  refine ⟨rfl, b, hl, ⟨tl_rng (fun a a1 a2 => e a (by omega) (by omega) (by omega) (by omega) (by omega)) v1, fun k hk => im_v_congr hk (congrFun (e 65 (by omega) (by omega) (by omega) (by omega) (by omega)) k) (fun a a1 a2 => e a (by omega) (by omega) (by omega) (by omega) (by omega)) (v2 k hk), fun k hk => sh_v_congr (e _ (by omega) (by omega) (by omega) (by omega) (by omega)) (e _ (by omega) (by omega) (by omega) (by omega) (by omega)) (v3 k hk), ⟨(show ab_u (ab_u I1 1 10 (nI q.1)) 2 1 0 2 1 = 0 from ab_u_at), Nat.zero_le _, fun j hj => absurd hj (Nat.not_lt_zero j)⟩, ?_, ?_⟩, fun a ha => ⟨e a (by omega) (by omega) (by omega) (by omega) (by omega), rfl⟩⟩
  · show ab_u (ab_u I1 1 10 (nI q.1)) 2 1 0 1 10 = nI q.1
    rw [ab_u_ne (by decide), ab_u_at]
  · show ab_u (ab_u I1 1 10 (nI q.1)) 2 1 0 1 11 = _
    rw [ab_u_ne (by decide), ab_u_j (by decide), hf 1 (by decide) (by decide) (by omega)]
    exact v6
theorem cx_O {b : Bool} {X : St} {T : Tl} {I1 : Nat → Nat → Int32} {v : Int32} (h : ab_H) (M : ab_M) (hl : Lay h M.2.2 b) (hv : cl_v M.1 b X) (hf : fr (tB (!b)) M.1 I1) (hT : tl_v I1 (tB (!b)) T) : cp h M (v, (T, fun _ => none, X.2.2.1, [], 0, X.2.2.2.2.2)) (some (.int v)) (ab_u (ab_u (ab_u (ab_u I1 1 10 0) 2 1 0) 65 0 0) 65 1 0, M.2.1, ab_u (ab_u M.2.2 4 2 (tB b)) 1 9 (tB (!b))) := by
  have b2 := tB_2 b
  obtain ⟨v1, v2, v3, v4, v5, v6⟩ := hv
  have e : ∀ a, a ≠ 1 → a ≠ 2 → a ≠ 65 → ab_u (ab_u (ab_u (ab_u I1 1 10 0) 2 1 0) 65 0 0) 65 1 0 a = I1 a := fun a a1 a2 a3 => by rw [ab_u_ne a3, ab_u_ne a3, ab_u_ne a2, ab_u_ne a1]
  refine ⟨rfl, !b, ly_flip hl, ⟨tl_rng (fun a a1 a2 => e a (by omega) (by omega) (by omega)) hT, fun k hk => ?_, fun k hk => sh_v_congr ((e _ (by omega) (by omega) (by omega)).trans (hf _ (by omega) (by omega) (by omega))) ((e _ (by omega) (by omega) (by omega)).trans (hf _ (by omega) (by omega) (by omega))) (v3 k hk), ⟨?_, Nat.zero_le _, fun j hj => absurd hj (Nat.not_lt_zero j)⟩, ?_, ?_⟩, fun a ha => ⟨(e a (by omega) (by omega) (by omega)).trans (hf a (by omega) (by omega) (by omega)), ?_⟩⟩
  · show ab_u (ab_u (ab_u (ab_u I1 1 10 0) 2 1 0) 65 0 0) 65 1 0 65 k = 0
    rcases (show k = 0 ∨ k = 1 by omega) with rfl | rfl
    · rw [ab_u_j (by decide), ab_u_at]
    · rw [ab_u_at]
  · show ab_u (ab_u (ab_u (ab_u I1 1 10 0) 2 1 0) 65 0 0) 65 1 0 2 1 = 0
    rw [ab_u_ne (by decide), ab_u_ne (by decide), ab_u_at]
  · show ab_u (ab_u (ab_u (ab_u I1 1 10 0) 2 1 0) 65 0 0) 65 1 0 1 10 = 0
    rw [ab_u_ne (by decide), ab_u_ne (by decide), ab_u_ne (by decide), ab_u_at]
  · show ab_u (ab_u (ab_u (ab_u I1 1 10 0) 2 1 0) 65 0 0) 65 1 0 1 11 = _
    rw [ab_u_ne (by decide), ab_u_ne (by decide), ab_u_ne (by decide), ab_u_j (by decide), hf 1 (by decide) (by decide) (by omega)]
    exact v6
  · show ab_u (ab_u M.2.2 4 2 (tB b)) 1 9 (tB (!b)) a = _
    rw [ab_u_ne (by omega), ab_u_ne (by omega)]
theorem p_text {b : Bool} {X : St} (h : ab_H) (M : ab_M) (hl : Lay h M.2.2 b) (hv : cl_v M.1 b X) : pr_X pX10_text [.ref 1] h M (cp h M (f_text X)) := by
  obtain ⟨k1, q0, q1, rc, q3, q4, q5, q6, q7, q8, r9⟩ := id hl.1
  have hrd := ly_rd hl
  have htl := ly_tl2 hl
  obtain ⟨k4, r40, r41, r42, ⟨k2, -, -, -⟩, -⟩ := id hrd
  have b2 := tB_2 b
  have ht5 : 5 < tB (!b) := by omega
  have n1 : (1 : Nat) ≠ 0 := by decide
  have n2 : (2 : Nat) ≠ 0 := by decide
  have n4 : (4 : Nat) ≠ 0 := by decide
  have nb0 := tB_ne b
  have nb1 := tB_ne (!b)
  have hT := c_tell (w := X.2.2.2.1) h M ht5 hrd htl hv.2.2.2.1
  unfold f_text
  cases hp : parse X.2.2.2.1 with
  | error q =>
    rw [hp] at hT
    refine pr_seqT (pc' := 4) 2 rfl ⟨⟨trivial, (by first | assumption | (simp only [q0, q1, b9, u10, pr_i_0]; first | assumption | decide | exact ⟨by assumption, by assumption⟩ | exact ⟨Or.inl (by assumption), by assumption⟩ | omega) | decide | exact ⟨Or.inl (by assumption), by assumption⟩ | exact ⟨by assumption, by assumption⟩ | omega)⟩, (by first | assumption | (simp only [q0, q1, b9, u10, pr_i_0]; first | assumption | decide | exact ⟨by assumption, by assumption⟩ | exact ⟨Or.inl (by assumption), by assumption⟩ | omega) | decide | exact ⟨Or.inl (by assumption), by assumption⟩ | exact ⟨by assumption, by assumption⟩ | omega)⟩ ?_
    try simp only [q0, q1, b9, u10, pr_i_0]
    simp only [q1]
    refine pr_cvX [] rfl rfl rfl rfl rfl (Nat.le_of_ble_eq_true rfl) (by first | assumption | (simp only [q0, q1, b9, u10, pr_i_0]; first | assumption | decide | exact ⟨by assumption, by assumption⟩ | exact ⟨Or.inl (by assumption), by assumption⟩ | omega) | decide | exact ⟨Or.inl (by assumption), by assumption⟩ | exact ⟨by assumption, by assumption⟩ | omega) (Nat.le_of_ble_eq_true rfl) (hT) (fun vz Mz qz => ?_)
    obtain ⟨a1, a2, rfl, b9, b10, b11⟩ := qz
    obtain ⟨I1, Z1⟩ := Mz
    dsimp only at a1 a2 b9 b10
    subst a1
    have c0 : ¬ nI q.1 = 0 := by
      show ¬ nI q.1 = nI 0
      exact nI_ne (by omega) (by omega) (by decide)
    have u10 : ab_u (ab_u I1 1 10 (nI q.1)) 2 1 0 1 10 = nI q.1 := by rw [ab_u_ne (by decide), ab_u_at]
    refine pr_seqT (pc' := 31) 12 rfl ⟨⟨⟨⟨⟨⟨⟨⟨⟨⟨⟨⟨trivial, trivial⟩, (by first | assumption | (simp only [q0, q1, b9, u10, pr_i_0]; first | assumption | decide | exact ⟨by assumption, by assumption⟩ | exact ⟨Or.inl (by assumption), by assumption⟩ | omega) | decide | exact ⟨Or.inl (by assumption), by assumption⟩ | exact ⟨by assumption, by assumption⟩ | omega)⟩, (by first | assumption | (simp only [q0, q1, b9, u10, pr_i_0]; first | assumption | decide | exact ⟨by assumption, by assumption⟩ | exact ⟨Or.inl (by assumption), by assumption⟩ | omega) | decide | exact ⟨Or.inl (by assumption), by assumption⟩ | exact ⟨by assumption, by assumption⟩ | omega)⟩, (by first | assumption | (simp only [q0, q1, b9, u10, pr_i_0]; first | assumption | decide | exact ⟨by assumption, by assumption⟩ | exact ⟨Or.inl (by assumption), by assumption⟩ | omega) | decide | exact ⟨Or.inl (by assumption), by assumption⟩ | exact ⟨by assumption, by assumption⟩ | omega)⟩, (by first | assumption | (simp only [q0, q1, b9, u10, pr_i_0]; first | assumption | decide | exact ⟨by assumption, by assumption⟩ | exact ⟨Or.inl (by assumption), by assumption⟩ | omega) | decide | exact ⟨Or.inl (by assumption), by assumption⟩ | exact ⟨by assumption, by assumption⟩ | omega)⟩, (by first | assumption | (simp only [q0, q1, b9, u10, pr_i_0]; first | assumption | decide | exact ⟨by assumption, by assumption⟩ | exact ⟨Or.inl (by assumption), by assumption⟩ | omega) | decide | exact ⟨Or.inl (by assumption), by assumption⟩ | exact ⟨by assumption, by assumption⟩ | omega)⟩, (by first | assumption | (simp only [q0, q1, b9, u10, pr_i_0]; first | assumption | decide | exact ⟨by assumption, by assumption⟩ | exact ⟨Or.inl (by assumption), by assumption⟩ | omega) | decide | exact ⟨Or.inl (by assumption), by assumption⟩ | exact ⟨by assumption, by assumption⟩ | omega)⟩, (by first | assumption | (simp only [q0, q1, b9, u10, pr_i_0]; first | assumption | decide | exact ⟨by assumption, by assumption⟩ | exact ⟨Or.inl (by assumption), by assumption⟩ | omega) | decide | exact ⟨Or.inl (by assumption), by assumption⟩ | exact ⟨by assumption, by assumption⟩ | omega)⟩, trivial⟩, (by first | assumption | (simp only [q0, q1, b9, u10, pr_i_0]; first | assumption | decide | exact ⟨by assumption, by assumption⟩ | exact ⟨Or.inl (by assumption), by assumption⟩ | omega) | decide | exact ⟨Or.inl (by assumption), by assumption⟩ | exact ⟨by assumption, by assumption⟩ | omega)⟩, (by first | assumption | (simp only [q0, q1, b9, u10, pr_i_0]; first | assumption | decide | exact ⟨by assumption, by assumption⟩ | exact ⟨Or.inl (by assumption), by assumption⟩ | omega) | decide | exact ⟨Or.inl (by assumption), by assumption⟩ | exact ⟨by assumption, by assumption⟩ | omega)⟩, (by first | assumption | (simp only [q0, q1, b9, u10, pr_i_0]; first | assumption | decide | exact ⟨by assumption, by assumption⟩ | exact ⟨Or.inl (by assumption), by assumption⟩ | omega) | decide | exact ⟨Or.inl (by assumption), by assumption⟩ | exact ⟨by assumption, by assumption⟩ | omega)⟩ ?_
    try simp only [q0, q1, b9, u10, pr_i_0]
    refine pr_ifT rfl (fun h31 => ?_) (fun h31 => ?_)
    · simp only [ab_cmp, pr_i_0] at h31
      first
      | contradiction
      | exact absurd trivial h31
      | exact absurd h31 (by decide)
      | exact absurd (Classical.not_not.mp h31) (by decide)
      | skip
        refine pr_seqT (pc' := 54) 1 rfl ⟨trivial, trivial⟩ ?_
        try simp only [q0, q1, b9, u10, pr_i_0]
        exact pr_irT rfl trivial (by exact cx_E h M hl hv a2)
    · simp only [ab_cmp, pr_i_0] at h31
      exact absurd c0 h31
  | ok x =>
    rw [hp] at hT
    refine pr_seqT (pc' := 4) 2 rfl ⟨⟨trivial, (by first | assumption | (simp only [q0, q1, b90, u10, r9, pr_i_0]; first | assumption | decide | exact ⟨by assumption, by assumption⟩ | exact ⟨Or.inl (by assumption), by assumption⟩ | omega) | decide | exact ⟨Or.inl (by assumption), by assumption⟩ | exact ⟨by assumption, by assumption⟩ | omega)⟩, (by first | assumption | (simp only [q0, q1, b90, u10, r9, pr_i_0]; first | assumption | decide | exact ⟨by assumption, by assumption⟩ | exact ⟨Or.inl (by assumption), by assumption⟩ | omega) | decide | exact ⟨Or.inl (by assumption), by assumption⟩ | exact ⟨by assumption, by assumption⟩ | omega)⟩ ?_
    try simp only [q0, q1, b90, u10, r9, pr_i_0]
    simp only [q1]
    refine pr_cvX [] rfl rfl rfl rfl rfl (Nat.le_of_ble_eq_true rfl) (by first | assumption | (simp only [q0, q1, b90, u10, r9, pr_i_0]; first | assumption | decide | exact ⟨by assumption, by assumption⟩ | exact ⟨Or.inl (by assumption), by assumption⟩ | omega) | decide | exact ⟨Or.inl (by assumption), by assumption⟩ | exact ⟨by assumption, by assumption⟩ | omega) (Nat.le_of_ble_eq_true rfl) (hT) (fun vz Mz qz => ?_)
    obtain ⟨a1, a2, rfl, b9, b10⟩ := qz
    obtain ⟨I1, Z1⟩ := Mz
    dsimp only at a1 a2 b9 b10
    subst a1
    have b90 : I1 4 9 = 0 := b9
    have u10 : ab_u (ab_u I1 1 10 0) 2 1 0 1 10 = 0 := by rw [ab_u_ne (by decide), ab_u_at]
    refine pr_seqT (pc' := 31) 12 rfl ⟨⟨⟨⟨⟨⟨⟨⟨⟨⟨⟨⟨trivial, trivial⟩, (by first | assumption | (simp only [q0, q1, b90, u10, r9, pr_i_0]; first | assumption | decide | exact ⟨by assumption, by assumption⟩ | exact ⟨Or.inl (by assumption), by assumption⟩ | omega) | decide | exact ⟨Or.inl (by assumption), by assumption⟩ | exact ⟨by assumption, by assumption⟩ | omega)⟩, (by first | assumption | (simp only [q0, q1, b90, u10, r9, pr_i_0]; first | assumption | decide | exact ⟨by assumption, by assumption⟩ | exact ⟨Or.inl (by assumption), by assumption⟩ | omega) | decide | exact ⟨Or.inl (by assumption), by assumption⟩ | exact ⟨by assumption, by assumption⟩ | omega)⟩, (by first | assumption | (simp only [q0, q1, b90, u10, r9, pr_i_0]; first | assumption | decide | exact ⟨by assumption, by assumption⟩ | exact ⟨Or.inl (by assumption), by assumption⟩ | omega) | decide | exact ⟨Or.inl (by assumption), by assumption⟩ | exact ⟨by assumption, by assumption⟩ | omega)⟩, (by first | assumption | (simp only [q0, q1, b90, u10, r9, pr_i_0]; first | assumption | decide | exact ⟨by assumption, by assumption⟩ | exact ⟨Or.inl (by assumption), by assumption⟩ | omega) | decide | exact ⟨Or.inl (by assumption), by assumption⟩ | exact ⟨by assumption, by assumption⟩ | omega)⟩, (by first | assumption | (simp only [q0, q1, b90, u10, r9, pr_i_0]; first | assumption | decide | exact ⟨by assumption, by assumption⟩ | exact ⟨Or.inl (by assumption), by assumption⟩ | omega) | decide | exact ⟨Or.inl (by assumption), by assumption⟩ | exact ⟨by assumption, by assumption⟩ | omega)⟩, (by first | assumption | (simp only [q0, q1, b90, u10, r9, pr_i_0]; first | assumption | decide | exact ⟨by assumption, by assumption⟩ | exact ⟨Or.inl (by assumption), by assumption⟩ | omega) | decide | exact ⟨Or.inl (by assumption), by assumption⟩ | exact ⟨by assumption, by assumption⟩ | omega)⟩, (by first | assumption | (simp only [q0, q1, b90, u10, r9, pr_i_0]; first | assumption | decide | exact ⟨by assumption, by assumption⟩ | exact ⟨Or.inl (by assumption), by assumption⟩ | omega) | decide | exact ⟨Or.inl (by assumption), by assumption⟩ | exact ⟨by assumption, by assumption⟩ | omega)⟩, trivial⟩, (by first | assumption | (simp only [q0, q1, b90, u10, r9, pr_i_0]; first | assumption | decide | exact ⟨by assumption, by assumption⟩ | exact ⟨Or.inl (by assumption), by assumption⟩ | omega) | decide | exact ⟨Or.inl (by assumption), by assumption⟩ | exact ⟨by assumption, by assumption⟩ | omega)⟩, (by first | assumption | (simp only [q0, q1, b90, u10, r9, pr_i_0]; first | assumption | decide | exact ⟨by assumption, by assumption⟩ | exact ⟨Or.inl (by assumption), by assumption⟩ | omega) | decide | exact ⟨Or.inl (by assumption), by assumption⟩ | exact ⟨by assumption, by assumption⟩ | omega)⟩, (by first | assumption | (simp only [q0, q1, b90, u10, r9, pr_i_0]; first | assumption | decide | exact ⟨by assumption, by assumption⟩ | exact ⟨Or.inl (by assumption), by assumption⟩ | omega) | decide | exact ⟨Or.inl (by assumption), by assumption⟩ | exact ⟨by assumption, by assumption⟩ | omega)⟩ ?_
    try simp only [q0, q1, b90, u10, r9, pr_i_0]
    refine pr_ifT rfl (fun h31 => ?_) (fun h31 => ?_)
    · simp only [ab_cmp, pr_i_0] at h31
      exact absurd (by first | exact trivial | exact rfl) h31
    · simp only [ab_cmp, pr_i_0] at h31
      first
      | contradiction
      | exact absurd trivial h31
      | exact absurd h31 (by decide)
      | exact absurd (Classical.not_not.mp h31) (by decide)
      | skip
        refine pr_seqT (pc' := 43) 5 rfl ⟨⟨⟨⟨⟨trivial, (by first | assumption | (simp only [q0, q1, b90, u10, r9, pr_i_0]; first | assumption | decide | exact ⟨by assumption, by assumption⟩ | exact ⟨Or.inl (by assumption), by assumption⟩ | omega) | decide | exact ⟨Or.inl (by assumption), by assumption⟩ | exact ⟨by assumption, by assumption⟩ | omega)⟩, (by first | assumption | (simp only [q0, q1, b90, u10, r9, pr_i_0]; first | assumption | decide | exact ⟨by assumption, by assumption⟩ | exact ⟨Or.inl (by assumption), by assumption⟩ | omega) | decide | exact ⟨Or.inl (by assumption), by assumption⟩ | exact ⟨by assumption, by assumption⟩ | omega)⟩, (by first | assumption | (simp only [q0, q1, b90, u10, r9, pr_i_0]; first | assumption | decide | exact ⟨by assumption, by assumption⟩ | exact ⟨Or.inl (by assumption), by assumption⟩ | omega) | decide | exact ⟨Or.inl (by assumption), by assumption⟩ | exact ⟨by assumption, by assumption⟩ | omega)⟩, (by first | assumption | (simp only [q0, q1, b90, u10, r9, pr_i_0]; first | assumption | decide | exact ⟨by assumption, by assumption⟩ | exact ⟨Or.inl (by assumption), by assumption⟩ | omega) | decide | exact ⟨Or.inl (by assumption), by assumption⟩ | exact ⟨by assumption, by assumption⟩ | omega)⟩, (by first | assumption | (simp only [q0, q1, b90, u10, r9, pr_i_0]; first | assumption | decide | exact ⟨by assumption, by assumption⟩ | exact ⟨Or.inl (by assumption), by assumption⟩ | omega) | decide | exact ⟨Or.inl (by assumption), by assumption⟩ | exact ⟨by assumption, by assumption⟩ | omega)⟩ ?_
        try simp only [q0, q1, b90, u10, r9, pr_i_0]
        refine pr_cvT [_] rfl rfl rfl rfl rfl (Nat.le_of_ble_eq_true rfl) (by first | assumption | (simp only [q0, q1, b90, u10, r9, pr_i_0]; first | assumption | decide | exact ⟨by assumption, by assumption⟩ | exact ⟨Or.inl (by assumption), by assumption⟩ | omega) | decide | exact ⟨Or.inl (by assumption), by assumption⟩ | exact ⟨by assumption, by assumption⟩ | omega) (Nat.le_of_ble_eq_true rfl) (c_exchange h (ab_u (ab_u I1 1 10 0) 2 1 0, M.2) hrd nb1 nb0) ?_
        refine pr_seqT (pc' := 50) 2 rfl ⟨⟨trivial, (by first | assumption | (simp only [q0, q1, b90, u10, r9, pr_i_0]; first | assumption | decide | exact ⟨by assumption, by assumption⟩ | exact ⟨Or.inl (by assumption), by assumption⟩ | omega) | decide | exact ⟨Or.inl (by assumption), by assumption⟩ | exact ⟨by assumption, by assumption⟩ | omega)⟩, (by first | assumption | (simp only [q0, q1, b90, u10, r9, pr_i_0]; first | assumption | decide | exact ⟨by assumption, by assumption⟩ | exact ⟨Or.inl (by assumption), by assumption⟩ | omega) | decide | exact ⟨Or.inl (by assumption), by assumption⟩ | exact ⟨by assumption, by assumption⟩ | omega)⟩ ?_
        try simp only [q0, q1, b90, u10, r9, pr_i_0]
        refine pr_cvT [] rfl rfl rfl rfl rfl (Nat.le_of_ble_eq_true rfl) (by first | assumption | (simp only [q0, q1, b90, u10, r9, pr_i_0]; first | assumption | decide | exact ⟨by assumption, by assumption⟩ | exact ⟨Or.inl (by assumption), by assumption⟩ | omega) | decide | exact ⟨Or.inl (by assumption), by assumption⟩ | exact ⟨by assumption, by assumption⟩ | omega) (Nat.le_of_ble_eq_true rfl) (c_forgetImages (b := !b) h (ab_u (ab_u I1 1 10 0) 2 1 0, M.2.1, ab_u (ab_u M.2.2 4 2 (tB b)) 1 9 (tB (!b))) (ly_flip hl)) ?_
        refine pr_seqT (pc' := 54) 1 rfl ⟨trivial, trivial⟩ ?_
        try simp only [q0, q1, b90, u10, r9, pr_i_0]
        exact pr_irT rfl trivial (by exact cx_O h M hl hv a2 b10)
