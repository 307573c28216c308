/-! ===== Census: children, votes, weights ===== -/
theorem cs_v_ext {I : Nat → Nat → Int32} {c n : Nat} {S S' : Nat → Int32} {K Dt Wl K' Dt' Wl' : Nat → Nat} (hv : cs_v I c n S K Dt Wl) (h : ∀ p, p < n → S' p = S p ∧ K' p = K p ∧ Dt' p = Dt p ∧ Wl' p = Wl p) : cs_v I c n S' K' Dt' Wl' := by
  refine ⟨hv.1, hv.2.1, fun p hp => ?_⟩
  obtain ⟨e1, e2, e3, e4⟩ := h p hp
  rw [e1, e2, e3, e4]
  exact hv.2.2 p hp
theorem cs_v_congr {I I' : Nat → Nat → Int32} {c n : Nat} {S : Nat → Int32} {K Dt Wl : Nat → Nat} (h : ∀ a, c ≤ a → a ≤ c + 4 → I' a = I a) (hv : cs_v I c n S K Dt Wl) : cs_v I' c n S K Dt Wl := by
  obtain ⟨v1, v2, v3⟩ := hv
  refine ⟨by rw [h c (by omega) (by omega)]; exact v1, v2, fun p hp => ?_⟩
  rw [h (c + 1) (by omega) (by omega), h (c + 2) (by omega) (by omega), h (c + 3) (by omega) (by omega), h (c + 4) (by omega) (by omega)]
  exact v3 p hp
theorem va_up_at {α : Type} (f : Nat → α) (k : Nat) (v : α) : va_up f k v k = v := by simp [va_up]
theorem va_up_n {α : Type} {f : Nat → α} {k j : Nat} {v : α} (h : j ≠ k) : va_up f k v j = f j := by simp [va_up, h]
/-- the census with a child -/
theorem cs_child {I : Nat → Nat → Int32} {c n : Nat} {S : Nat → Int32} {K Dt Wl : Nat → Nat} (s : Int32) (hv : cs_v I c n S K Dt Wl) (h28 : n < 28) : cs_v (cs_ap I c n s 0 0 0) c (n + 1) (va_up S n s) (va_up K n 0) (va_up Dt n 0) (va_up Wl n 0) := by
  have h1 := cs_v_ext (S' := va_up S n s) (K' := va_up K n 0) (Dt' := va_up Dt n 0) (Wl' := va_up Wl n 0) hv (fun p hp => ⟨va_up_n (by omega), va_up_n (by omega), va_up_n (by omega), va_up_n (by omega)⟩)
  have h2 := cs_ap_v h1 h28 (by rw [va_up_at]; decide)
  rw [va_up_at, va_up_at, va_up_at, va_up_at] at h2
  exact h2
theorem c_worthHavingOfChild {c n : Nat} {S : Nat → Int32} {K Dt Wl : Nat → Nat} (s : Int32) (h : ab_H) (M : ab_M) (hc : pr_Cs h M.2.2 c) (hv : cs_v M.1 c n S K Dt Wl) (h28 : n < 28) : pr_X pX0_worthHavingOfChild [.ref c, .int s] h M (fun r M' => r = some (.int (a_wh (al (va_up S n s) (va_up K n 0) n) (va_up Wl n 0) (va_up Dt n 0) (n + 1))) ∧ M'.2 = M.2 ∧ cs_v M'.1 c n S K Dt Wl ∧ ∀ a, (a < c ∨ c + 4 < a) → M'.1 a = M.1 a) := by
  obtain ⟨c0, c1, -⟩ := id hc
  have v1 := hv.1
  have hv1 := cs_child s hv h28
  have v2 := hv1.1
  have e1 : nI (n + 1) - (1 : Int32) = nI n := nI_pred n
  have hw := c_worthHaving h (cs_ap M.1 c n s 0 0 0, M.2.1, M.2.2) hc hv1 (show n < n + 1 by omega)
  have fin : cs_v (ab_u (cs_ap M.1 c n s 0 0 0) c 5 (nI n)) c n S K Dt Wl := by
    refine ⟨ab_u_at, hv.2.1, fun p hp => ?_⟩
    have h3 := (cs_v_ext (S' := S) (K' := K) (Dt' := Dt) (Wl' := Wl) (n := n) ⟨ab_u_at (f := cs_ap M.1 c n s 0 0 0) (a := c) (k := 5), hv.2.1, fun p hp => by rw [ab_u_ne (by omega), ab_u_ne (by omega), ab_u_ne (by omega), ab_u_ne (by omega)]; exact hv1.2.2 p (by omega)⟩ (fun p hp => ⟨(va_up_n (by omega)).symm, (va_up_n (by omega)).symm, (va_up_n (by omega)).symm, (va_up_n (by omega)).symm⟩)).2.2 p hp
    exact h3
  refine pr_seqT (pc' := 7) 5 rfl ⟨⟨⟨⟨⟨trivial, (by first | assumption | decide | omega | exact ⟨Or.inl (by assumption), by assumption⟩ | exact ⟨by assumption, by assumption⟩ | (simp only [v1, v2, e1, pr_i_1]; first | assumption | omega | exact ⟨by assumption, by assumption⟩ | exact ⟨Or.inl (by assumption), by assumption⟩))⟩, (by first | assumption | decide | omega | exact ⟨Or.inl (by assumption), by assumption⟩ | exact ⟨by assumption, by assumption⟩ | (simp only [v1, v2, e1, pr_i_1]; first | assumption | omega | exact ⟨by assumption, by assumption⟩ | exact ⟨Or.inl (by assumption), by assumption⟩))⟩, trivial⟩, (by first | assumption | decide | omega | exact ⟨Or.inl (by assumption), by assumption⟩ | exact ⟨by assumption, by assumption⟩ | (simp only [v1, v2, e1, pr_i_1]; first | assumption | omega | exact ⟨by assumption, by assumption⟩ | exact ⟨Or.inl (by assumption), by assumption⟩))⟩, trivial⟩ ?_
  try simp only [v1, v2, e1, pr_i_1]
  refine pr_cvT [_] rfl rfl rfl rfl rfl (Nat.le_of_ble_eq_true rfl) (by first | assumption | decide | omega | exact ⟨Or.inl (by assumption), by assumption⟩ | exact ⟨by assumption, by assumption⟩ | (simp only [v1, v2, e1, pr_i_1]; first | assumption | omega | exact ⟨by assumption, by assumption⟩ | exact ⟨Or.inl (by assumption), by assumption⟩)) (Nat.le_of_ble_eq_true rfl) (c_addChild s h M hc v1 h28) ?_
  refine pr_seqT (pc' := 17) 5 rfl ⟨⟨⟨⟨⟨trivial, (by first | assumption | decide | omega | exact ⟨Or.inl (by assumption), by assumption⟩ | exact ⟨by assumption, by assumption⟩ | (simp only [v1, v2, e1, pr_i_1]; first | assumption | omega | exact ⟨by assumption, by assumption⟩ | exact ⟨Or.inl (by assumption), by assumption⟩))⟩, (by first | assumption | decide | omega | exact ⟨Or.inl (by assumption), by assumption⟩ | exact ⟨by assumption, by assumption⟩ | (simp only [v1, v2, e1, pr_i_1]; first | assumption | omega | exact ⟨by assumption, by assumption⟩ | exact ⟨Or.inl (by assumption), by assumption⟩))⟩, (by first | assumption | decide | omega | exact ⟨Or.inl (by assumption), by assumption⟩ | exact ⟨by assumption, by assumption⟩ | (simp only [v1, v2, e1, pr_i_1]; first | assumption | omega | exact ⟨by assumption, by assumption⟩ | exact ⟨Or.inl (by assumption), by assumption⟩))⟩, trivial⟩, trivial⟩ ?_
  try simp only [v1, v2, e1, pr_i_1]
  refine pr_cvT [_] rfl rfl rfl rfl rfl (Nat.le_of_ble_eq_true rfl) (by first | assumption | decide | omega | exact ⟨Or.inl (by assumption), by assumption⟩ | exact ⟨by assumption, by assumption⟩ | (simp only [v1, v2, e1, pr_i_1]; first | assumption | omega | exact ⟨by assumption, by assumption⟩ | exact ⟨Or.inl (by assumption), by assumption⟩)) (Nat.le_of_ble_eq_true rfl) (hw) ?_
  refine pr_seqT (pc' := 27) 5 rfl ⟨⟨⟨⟨⟨trivial, trivial⟩, (by first | assumption | decide | omega | exact ⟨Or.inl (by assumption), by assumption⟩ | exact ⟨by assumption, by assumption⟩ | (simp only [v1, v2, e1, pr_i_1]; first | assumption | omega | exact ⟨by assumption, by assumption⟩ | exact ⟨Or.inl (by assumption), by assumption⟩))⟩, trivial⟩, (by first | assumption | decide | omega | exact ⟨Or.inl (by assumption), by assumption⟩ | exact ⟨by assumption, by assumption⟩ | (simp only [v1, v2, e1, pr_i_1]; first | assumption | omega | exact ⟨by assumption, by assumption⟩ | exact ⟨Or.inl (by assumption), by assumption⟩))⟩, trivial⟩ ?_
  try simp only [v1, v2, e1, pr_i_1]
  exact pr_irT rfl trivial (by refine ⟨rfl, rfl, fin, fun a ha => ?_⟩; show ab_u (cs_ap M.1 c n s 0 0 0) c 5 (nI n) a = M.1 a; rw [ab_u_ne (by omega), cs_ap_far ha])
theorem c_voters {c n : Nat} {S : Nat → Int32} {K Dt Wl : Nat → Nat} (h : ab_H) (M : ab_M) (hc : pr_Cs h M.2.2 c) (hv : cs_v M.1 c n S K Dt Wl) : pr_C pX0_voters [.ref c] h M (some (.int (nI (cnt (fun p => nb (al S K p) p && decide (¬ (mk (al S K p) n &&& mk (fun q => decide (K q ≠ 1)) n) = 0)) n)))) h M := by
  obtain ⟨c0, c1, -⟩ := id hc
  obtain ⟨v1, v2, v3⟩ := id hv
  have loop : ∀ dd k, k + dd = n → pr_E pX0_voters 9 [some (.ref c), some (.int (mk (fun q => decide (K q ≠ 1)) n)), some (.int (nI (cnt (fun p => nb (al S K p) p && decide (¬ (mk (al S K p) n &&& mk (fun q => decide (K q ≠ 1)) n) = 0)) k))), some (.int (nI k))] [] h M (some (.int (nI (cnt (fun p => nb (al S K p) p && decide (¬ (mk (al S K p) n &&& mk (fun q => decide (K q ≠ 1)) n) = 0)) n)))) h M := by
    intro dd
    induction dd with
    | zero =>
      intro k hk
      obtain rfl : k = n := by omega
      have e1 : nI k ≤ nI k := nI_le (Nat.le_refl _) (by omega)
      refine pr_seq (pc' := 14) 3 rfl ⟨⟨⟨trivial, trivial⟩, (by first | assumption | decide | omega | exact ⟨Or.inl (by assumption), by assumption⟩ | exact ⟨by assumption, by assumption⟩ | (simp only [v1, pr_i_0, pr_i_1]; first | assumption | omega | exact ⟨by assumption, by assumption⟩ | exact ⟨Or.inl (by assumption), by assumption⟩))⟩, (by first | assumption | decide | omega | exact ⟨Or.inl (by assumption), by assumption⟩ | exact ⟨by assumption, by assumption⟩ | (simp only [v1, pr_i_0, pr_i_1]; first | assumption | omega | exact ⟨by assumption, by assumption⟩ | exact ⟨Or.inl (by assumption), by assumption⟩))⟩ ?_
      try simp only [v1, pr_i_0, pr_i_1]
      refine pr_ic rfl (fun h14 => ?_) (fun h14 => ?_)
      · simp only [ab_cmp, pr_i_0, pr_i_1] at h14
        refine pr_seq (pc' := 45) 1 rfl ⟨trivial, trivial⟩ ?_
        try simp only [v1, pr_i_0, pr_i_1]
        exact pr_irM rfl (by rfl) trivial (by rfl)
      · simp only [ab_cmp, pr_i_0, pr_i_1] at h14
        exact absurd e1 h14
    | succ dd ih =>
      intro k hk
      have e1 : ¬ nI n ≤ nI k := nI_ge (by omega) (by omega)
      have ha := c_leads h M hc hv (show k < n by omega)
      have hb := c_onesOf h M hc hv (show k < n by omega)
      have hh := ih (k + 1) (by omega)
      rw [← nI_1] at hh
      cases hf : nb (al S K k) k with
      | false =>
        rw [hf] at ha
        rw [cnt_s0 (f := fun p => nb (al S K p) p && decide (¬ (mk (al S K p) n &&& mk (fun q => decide (K q ≠ 1)) n) = 0)) (n := k) (by simp [hf])] at hh
        refine pr_seq (pc' := 14) 3 rfl ⟨⟨⟨trivial, trivial⟩, (by first | assumption | decide | omega | exact ⟨Or.inl (by assumption), by assumption⟩ | exact ⟨by assumption, by assumption⟩ | (simp only [v1, pr_i_0, pr_i_1]; first | assumption | omega | exact ⟨by assumption, by assumption⟩ | exact ⟨Or.inl (by assumption), by assumption⟩))⟩, (by first | assumption | decide | omega | exact ⟨Or.inl (by assumption), by assumption⟩ | exact ⟨by assumption, by assumption⟩ | (simp only [v1, pr_i_0, pr_i_1]; first | assumption | omega | exact ⟨by assumption, by assumption⟩ | exact ⟨Or.inl (by assumption), by assumption⟩))⟩ ?_
        try simp only [v1, pr_i_0, pr_i_1]
        refine pr_ic rfl (fun h14 => ?_) (fun h14 => ?_)
        · simp only [ab_cmp, pr_i_0, pr_i_1] at h14
          exact absurd h14 e1
        · simp only [ab_cmp, pr_i_0, pr_i_1] at h14
          refine pr_seq (pc' := 19) 2 rfl ⟨⟨trivial, (by first | assumption | decide | omega | exact ⟨Or.inl (by assumption), by assumption⟩ | exact ⟨by assumption, by assumption⟩ | (simp only [v1, pr_i_0, pr_i_1]; first | assumption | omega | exact ⟨by assumption, by assumption⟩ | exact ⟨Or.inl (by assumption), by assumption⟩))⟩, trivial⟩ ?_
          try simp only [v1, pr_i_0, pr_i_1]
          refine pr_cv [_] rfl rfl rfl rfl rfl (Nat.le_of_ble_eq_true rfl) (by first | assumption | decide | omega | exact ⟨Or.inl (by assumption), by assumption⟩ | exact ⟨by assumption, by assumption⟩ | (simp only [v1, pr_i_0, pr_i_1]; first | assumption | omega | exact ⟨by assumption, by assumption⟩ | exact ⟨Or.inl (by assumption), by assumption⟩)) (Nat.le_of_ble_eq_true rfl) (ha) ?_
          refine pr_if rfl (fun h22 => ?_) (fun h22 => ?_)
          · simp only [ab_cmp, pr_i_0, pr_i_1] at h22
            refine pr_seq (pc' := 9) 2 rfl ⟨⟨trivial, trivial⟩, trivial⟩ ?_
            try simp only [v1, pr_i_0, pr_i_1]
            exact hh
          · simp only [ab_cmp, pr_i_0, pr_i_1] at h22
            exact absurd rfl h22
      | true =>
        rw [hf] at ha
        by_cases hz : (mk (al S K k) n &&& mk (fun q => decide (K q ≠ 1)) n) = 0
        · rw [cnt_s0 (f := fun p => nb (al S K p) p && decide (¬ (mk (al S K p) n &&& mk (fun q => decide (K q ≠ 1)) n) = 0)) (n := k) (by simp only [hf, hz]; decide)] at hh
          refine pr_seq (pc' := 14) 3 rfl ⟨⟨⟨trivial, trivial⟩, (by first | assumption | decide | omega | exact ⟨Or.inl (by assumption), by assumption⟩ | exact ⟨by assumption, by assumption⟩ | (simp only [v1, pr_i_0, pr_i_1]; first | assumption | omega | exact ⟨by assumption, by assumption⟩ | exact ⟨Or.inl (by assumption), by assumption⟩))⟩, (by first | assumption | decide | omega | exact ⟨Or.inl (by assumption), by assumption⟩ | exact ⟨by assumption, by assumption⟩ | (simp only [v1, pr_i_0, pr_i_1]; first | assumption | omega | exact ⟨by assumption, by assumption⟩ | exact ⟨Or.inl (by assumption), by assumption⟩))⟩ ?_
          try simp only [v1, pr_i_0, pr_i_1]
          refine pr_ic rfl (fun h14 => ?_) (fun h14 => ?_)
          · simp only [ab_cmp, pr_i_0, pr_i_1] at h14
            exact absurd h14 e1
          · simp only [ab_cmp, pr_i_0, pr_i_1] at h14
            refine pr_seq (pc' := 19) 2 rfl ⟨⟨trivial, (by first | assumption | decide | omega | exact ⟨Or.inl (by assumption), by assumption⟩ | exact ⟨by assumption, by assumption⟩ | (simp only [v1, pr_i_0, pr_i_1]; first | assumption | omega | exact ⟨by assumption, by assumption⟩ | exact ⟨Or.inl (by assumption), by assumption⟩))⟩, trivial⟩ ?_
            try simp only [v1, pr_i_0, pr_i_1]
            refine pr_cv [_] rfl rfl rfl rfl rfl (Nat.le_of_ble_eq_true rfl) (by first | assumption | decide | omega | exact ⟨Or.inl (by assumption), by assumption⟩ | exact ⟨by assumption, by assumption⟩ | (simp only [v1, pr_i_0, pr_i_1]; first | assumption | omega | exact ⟨by assumption, by assumption⟩ | exact ⟨Or.inl (by assumption), by assumption⟩)) (Nat.le_of_ble_eq_true rfl) (ha) ?_
            refine pr_if rfl (fun h22 => ?_) (fun h22 => ?_)
            · simp only [ab_cmp, pr_i_0, pr_i_1] at h22
              exact absurd h22 (by decide)
            · simp only [ab_cmp, pr_i_0, pr_i_1] at h22
              refine pr_seq (pc' := 27) 2 rfl ⟨⟨trivial, (by first | assumption | decide | omega | exact ⟨Or.inl (by assumption), by assumption⟩ | exact ⟨by assumption, by assumption⟩ | (simp only [v1, pr_i_0, pr_i_1]; first | assumption | omega | exact ⟨by assumption, by assumption⟩ | exact ⟨Or.inl (by assumption), by assumption⟩))⟩, trivial⟩ ?_
              try simp only [v1, pr_i_0, pr_i_1]
              refine pr_cv [_] rfl rfl rfl rfl rfl (Nat.le_of_ble_eq_true rfl) (by first | assumption | decide | omega | exact ⟨Or.inl (by assumption), by assumption⟩ | exact ⟨by assumption, by assumption⟩ | (simp only [v1, pr_i_0, pr_i_1]; first | assumption | omega | exact ⟨by assumption, by assumption⟩ | exact ⟨Or.inl (by assumption), by assumption⟩)) (Nat.le_of_ble_eq_true rfl) (hb) ?_
              refine pr_seq (pc' := 32) 2 rfl ⟨⟨trivial, trivial⟩, trivial⟩ ?_
              try simp only [v1, pr_i_0, pr_i_1]
              refine pr_if rfl (fun h32 => ?_) (fun h32 => ?_)
              · simp only [ab_cmp, pr_i_0, pr_i_1] at h32
                refine pr_seq (pc' := 9) 2 rfl ⟨⟨trivial, trivial⟩, trivial⟩ ?_
                try simp only [v1, pr_i_0, pr_i_1]
                exact hh
              · simp only [ab_cmp, pr_i_0, pr_i_1] at h32
                exact absurd hz h32
        · rw [cnt_s1 (f := fun p => nb (al S K p) p && decide (¬ (mk (al S K p) n &&& mk (fun q => decide (K q ≠ 1)) n) = 0)) (n := k) (by simp only [hf, hz]; decide), ← nI_1] at hh
          refine pr_seq (pc' := 14) 3 rfl ⟨⟨⟨trivial, trivial⟩, (by first | assumption | decide | omega | exact ⟨Or.inl (by assumption), by assumption⟩ | exact ⟨by assumption, by assumption⟩ | (simp only [v1, pr_i_0, pr_i_1]; first | assumption | omega | exact ⟨by assumption, by assumption⟩ | exact ⟨Or.inl (by assumption), by assumption⟩))⟩, (by first | assumption | decide | omega | exact ⟨Or.inl (by assumption), by assumption⟩ | exact ⟨by assumption, by assumption⟩ | (simp only [v1, pr_i_0, pr_i_1]; first | assumption | omega | exact ⟨by assumption, by assumption⟩ | exact ⟨Or.inl (by assumption), by assumption⟩))⟩ ?_
          try simp only [v1, pr_i_0, pr_i_1]
          refine pr_ic rfl (fun h14 => ?_) (fun h14 => ?_)
          · simp only [ab_cmp, pr_i_0, pr_i_1] at h14
            exact absurd h14 e1
          · simp only [ab_cmp, pr_i_0, pr_i_1] at h14
            refine pr_seq (pc' := 19) 2 rfl ⟨⟨trivial, (by first | assumption | decide | omega | exact ⟨Or.inl (by assumption), by assumption⟩ | exact ⟨by assumption, by assumption⟩ | (simp only [v1, pr_i_0, pr_i_1]; first | assumption | omega | exact ⟨by assumption, by assumption⟩ | exact ⟨Or.inl (by assumption), by assumption⟩))⟩, trivial⟩ ?_
            try simp only [v1, pr_i_0, pr_i_1]
            refine pr_cv [_] rfl rfl rfl rfl rfl (Nat.le_of_ble_eq_true rfl) (by first | assumption | decide | omega | exact ⟨Or.inl (by assumption), by assumption⟩ | exact ⟨by assumption, by assumption⟩ | (simp only [v1, pr_i_0, pr_i_1]; first | assumption | omega | exact ⟨by assumption, by assumption⟩ | exact ⟨Or.inl (by assumption), by assumption⟩)) (Nat.le_of_ble_eq_true rfl) (ha) ?_
            refine pr_if rfl (fun h22 => ?_) (fun h22 => ?_)
            · simp only [ab_cmp, pr_i_0, pr_i_1] at h22
              exact absurd h22 (by decide)
            · simp only [ab_cmp, pr_i_0, pr_i_1] at h22
              refine pr_seq (pc' := 27) 2 rfl ⟨⟨trivial, (by first | assumption | decide | omega | exact ⟨Or.inl (by assumption), by assumption⟩ | exact ⟨by assumption, by assumption⟩ | (simp only [v1, pr_i_0, pr_i_1]; first | assumption | omega | exact ⟨by assumption, by assumption⟩ | exact ⟨Or.inl (by assumption), by assumption⟩))⟩, trivial⟩ ?_
              try simp only [v1, pr_i_0, pr_i_1]
              refine pr_cv [_] rfl rfl rfl rfl rfl (Nat.le_of_ble_eq_true rfl) (by first | assumption | decide | omega | exact ⟨Or.inl (by assumption), by assumption⟩ | exact ⟨by assumption, by assumption⟩ | (simp only [v1, pr_i_0, pr_i_1]; first | assumption | omega | exact ⟨by assumption, by assumption⟩ | exact ⟨Or.inl (by assumption), by assumption⟩)) (Nat.le_of_ble_eq_true rfl) (hb) ?_
              refine pr_seq (pc' := 32) 2 rfl ⟨⟨trivial, trivial⟩, trivial⟩ ?_
              try simp only [v1, pr_i_0, pr_i_1]
              refine pr_if rfl (fun h32 => ?_) (fun h32 => ?_)
              · simp only [ab_cmp, pr_i_0, pr_i_1] at h32
                exact absurd h32 hz
              · simp only [ab_cmp, pr_i_0, pr_i_1] at h32
                refine pr_seq (pc' := 9) 3 rfl ⟨⟨⟨trivial, trivial⟩, trivial⟩, trivial⟩ ?_
                try simp only [v1, pr_i_0, pr_i_1]
                exact hh
  refine pr_seq (pc' := 1) 1 rfl ⟨trivial, (by first | assumption | decide | omega | exact ⟨Or.inl (by assumption), by assumption⟩ | exact ⟨by assumption, by assumption⟩)⟩ ?_
  refine pr_cv [] rfl rfl rfl rfl rfl (Nat.le_of_ble_eq_true rfl) (by first | assumption | decide | omega | exact ⟨Or.inl (by assumption), by assumption⟩ | exact ⟨by assumption, by assumption⟩) (Nat.le_of_ble_eq_true rfl) (c_livingOnes h M hc hv) ?_
  refine pr_seq (pc' := 9) 5 rfl ⟨⟨⟨⟨⟨trivial, trivial⟩, trivial⟩, trivial⟩, trivial⟩, trivial⟩ ?_
  exact loop n 0 (by omega)
/-- how a letter weighs in each one's sum -/
def d_wg (d : Ld) (l p : Nat) : Nat := a_win d.2.2.1 (d_pn d p).1 l (d_pn d p).2.2.2
def cs_wg (I : Nat → Nat → Int32) (c : Nat) (f : Nat → Nat) (k : Nat) : Nat → Nat → Int32 := fun a j => if a = c + 5 ∧ j < k then nI (f j) else I a j
theorem cs_wg_s {I : Nat → Nat → Int32} {c k : Nat} {f : Nat → Nat} : ab_u (cs_wg I c f k) (c + 5) k (nI (f k)) = cs_wg I c f (k + 1) := by
  funext a j
  unfold ab_u cs_wg
  by_cases h1 : a = c + 5 ∧ j = k
  · rw [if_pos h1, if_pos (by omega), h1.2]
  · rw [if_neg h1]
    by_cases h2 : a = c + 5 ∧ j < k
    · rw [if_pos h2, if_pos (by omega)]
    · rw [if_neg h2, if_neg (by omega)]
theorem cs_wg_far {I : Nat → Nat → Int32} {c k a : Nat} {f : Nat → Nat} (h : a ≠ c + 5) : cs_wg I c f k a = I a := by
  funext j
  unfold cs_wg
  rw [if_neg (by omega)]
theorem cs_wg_at {I : Nat → Nat → Int32} {c k j : Nat} {f : Nat → Nat} (h : j < k) : cs_wg I c f k (c + 5) j = nI (f j) := by
  unfold cs_wg
  rw [if_pos ⟨rfl, h⟩]
theorem c_weigh {c g l : Nat} {d : Ld} (h : ab_H) (M : ab_M) (hc : pr_Cs h M.2.2 c) (hg : pr_Ld h M.2.2 g) (hcg : c + 5 < g ∨ g + 27 ≤ c) (hd : ld_v M.1 g d) (hl : l < 26) (hw : ∀ p, p < d.2.1.length → d_wg d l p < 2 ^ 31) : pr_C pX0_weigh [.ref c, .ref g, .int (nI l)] h M (some (.int (pr_b (!nb (fun p => decide (¬ d_wg d l p = 0)) d.2.1.length)))) h (cs_wg M.1 c (d_wg d l) d.2.1.length, M.2.1, M.2.2) := by
  obtain ⟨c0, c1, r0, r1', r2', r3, r4, -, -, -, -, a1, a2⟩ := id hc
  obtain ⟨g0, g1, r1, r2, k1, k2, ⟨k3, k4⟩, hon⟩ := id hg
  obtain ⟨d1, d2, d3, d4, d5, d6, d7, d8⟩ := id hd
  have loop : ∀ dd k, k + dd = d.2.1.length → ∀ o5 : Option Value, pr_E pX0_weigh 5 [some (.ref c), some (.ref g), some (.int (nI l)), some (.int (pr_b (!nb (fun p => decide (¬ d_wg d l p = 0)) k))), some (.int (nI k)), o5] [] h (cs_wg M.1 c (d_wg d l) k, M.2.1, M.2.2) (some (.int (pr_b (!nb (fun p => decide (¬ d_wg d l p = 0)) d.2.1.length)))) h (cs_wg M.1 c (d_wg d l) d.2.1.length, M.2.1, M.2.2) := by
    intro dd
    induction dd with
    | zero =>
      intro k hk o5
      obtain rfl : k = d.2.1.length := by omega
      have x1 : cs_wg M.1 c (d_wg d l) d.2.1.length g 2 = nI d.2.1.length := by rw [cs_wg_far (by omega)]; exact d1
      have e1 : nI d.2.1.length ≤ nI d.2.1.length := nI_le (Nat.le_refl _) (by omega)
      refine pr_seq (pc' := 11) 3 rfl ⟨⟨⟨trivial, trivial⟩, (by first | assumption | decide | omega | exact ⟨Or.inl (by assumption), by assumption⟩ | exact ⟨by assumption, by assumption⟩ | (simp only [x1, pr_i_0, pr_i_1]; first | assumption | omega | exact ⟨by assumption, by assumption⟩ | exact ⟨Or.inl (by assumption), by assumption⟩))⟩, (by first | assumption | decide | omega | exact ⟨Or.inl (by assumption), by assumption⟩ | exact ⟨by assumption, by assumption⟩ | (simp only [x1, pr_i_0, pr_i_1]; first | assumption | omega | exact ⟨by assumption, by assumption⟩ | exact ⟨Or.inl (by assumption), by assumption⟩))⟩ ?_
      try simp only [x1, pr_i_0, pr_i_1]
      refine pr_ic rfl (fun h11 => ?_) (fun h11 => ?_)
      · simp only [ab_cmp, pr_i_0, pr_i_1] at h11
        refine pr_seq (pc' := 72) 1 rfl ⟨trivial, trivial⟩ ?_
        try simp only [x1, pr_i_0, pr_i_1]
        exact pr_irM rfl (by rfl) (by first | exact Or.inl rfl | exact Or.inr rfl | exact pr_b01 _ | assumption) (by rfl)
      · simp only [ab_cmp, pr_i_0, pr_i_1] at h11
        exact absurd e1 h11
    | succ dd ih =>
      intro k hk o5
      have hlk : k < d.2.1.length := by omega
      have h8 : k < 8 := by omega
      have x1 : cs_wg M.1 c (d_wg d l) k g 2 = nI d.2.1.length := by rw [cs_wg_far (by omega)]; exact d1
      have e1 : ¬ nI d.2.1.length ≤ nI k := nI_ge (by omega) (by omega)
      have e3 : (nI k).toNatClampNeg = k := nI_clamp (by omega)
      obtain ⟨y1, y2, y3, y4, y5⟩ := hon k h8
      have hq := d_pn_at hlk
      have hdI : ld_v (cs_wg M.1 c (d_wg d l) k) g d := ld_v_congr (fun a _ _ => cs_wg_far (by omega)) hd
      obtain ⟨q1, q2, q3, q4, q5, q6, q7⟩ := hdI.2.2.2.2.2.2.2 k _ hq
      have vi : (24 ≤ ab_k h (g + 2) ∧ ab_k h (g + 2) ≤ 27) ∧ vp_in (nI k) (ab_n h (g + 2)) := ⟨by rw [k3]; decide, by rw [k4]; exact vp_in_nI h8 (by decide)⟩
      have vj : vp_in (nI k) (ab_n h (c + 5)) := by rw [a2]; exact vp_in_nI h8 (by decide)
      have hwi := c_weightIn (l := l) h (cs_wg M.1 c (d_wg d l) k, M.2.1, M.2.2) hg hdI y5 q7 (show (d_pn d k).1 < 1000 by omega) hl
      have x2 : ab_u (cs_wg M.1 c (d_wg d l) k) (c + 5) k (nI (a_win d.2.2.1 (d_pn d k).1 l (d_pn d k).2.2.2)) (c + 5) k = nI (d_wg d l k) := ab_u_at
      have hh := ih (k + 1) (by omega)
      rw [← nI_1, ← cs_wg_s] at hh
      have en : nb (fun p => decide (¬ d_wg d l p = 0)) (k + 1) = (nb (fun p => decide (¬ d_wg d l p = 0)) k && !decide (¬ d_wg d l k = 0)) := rfl
      cases hb : nb (fun p => decide (¬ d_wg d l p = 0)) k with
      | false =>
        rw [en, hb] at hh
        refine pr_seq (pc' := 11) 3 rfl ⟨⟨⟨trivial, trivial⟩, (by first | assumption | decide | omega | exact ⟨Or.inl (by assumption), by assumption⟩ | exact ⟨by assumption, by assumption⟩ | (simp only [x1, r2, r4, e3, y1, y4, q1, pr_i_0, pr_i_1]; first | assumption | omega | exact ⟨by assumption, by assumption⟩ | exact ⟨Or.inl (by assumption), by assumption⟩))⟩, (by first | assumption | decide | omega | exact ⟨Or.inl (by assumption), by assumption⟩ | exact ⟨by assumption, by assumption⟩ | (simp only [x1, r2, r4, e3, y1, y4, q1, pr_i_0, pr_i_1]; first | assumption | omega | exact ⟨by assumption, by assumption⟩ | exact ⟨Or.inl (by assumption), by assumption⟩))⟩ ?_
        try simp only [x1, r2, r4, e3, y1, y4, q1, pr_i_0, pr_i_1]
        refine pr_ic rfl (fun h11 => ?_) (fun h11 => ?_)
        · simp only [ab_cmp, pr_i_0, pr_i_1] at h11
          exact absurd h11 e1
        · simp only [ab_cmp, pr_i_0, pr_i_1] at h11
          refine pr_seq (pc' := 41) 14 rfl ⟨⟨⟨⟨⟨⟨⟨⟨⟨⟨⟨⟨⟨⟨trivial, (by first | assumption | decide | omega | exact ⟨Or.inl (by assumption), by assumption⟩ | exact ⟨by assumption, by assumption⟩ | (simp only [x1, r2, r4, e3, y1, y4, q1, pr_i_0, pr_i_1]; first | assumption | omega | exact ⟨by assumption, by assumption⟩ | exact ⟨Or.inl (by assumption), by assumption⟩))⟩, (by first | assumption | decide | omega | exact ⟨Or.inl (by assumption), by assumption⟩ | exact ⟨by assumption, by assumption⟩ | (simp only [x1, r2, r4, e3, y1, y4, q1, pr_i_0, pr_i_1]; first | assumption | omega | exact ⟨by assumption, by assumption⟩ | exact ⟨Or.inl (by assumption), by assumption⟩))⟩, trivial⟩, (by first | assumption | decide | omega | exact ⟨Or.inl (by assumption), by assumption⟩ | exact ⟨by assumption, by assumption⟩ | (simp only [x1, r2, r4, e3, y1, y4, q1, pr_i_0, pr_i_1]; first | assumption | omega | exact ⟨by assumption, by assumption⟩ | exact ⟨Or.inl (by assumption), by assumption⟩))⟩, (by first | assumption | decide | omega | exact ⟨Or.inl (by assumption), by assumption⟩ | exact ⟨by assumption, by assumption⟩ | (simp only [x1, r2, r4, e3, y1, y4, q1, pr_i_0, pr_i_1]; first | assumption | omega | exact ⟨by assumption, by assumption⟩ | exact ⟨Or.inl (by assumption), by assumption⟩))⟩, (by first | assumption | decide | omega | exact ⟨Or.inl (by assumption), by assumption⟩ | exact ⟨by assumption, by assumption⟩ | (simp only [x1, r2, r4, e3, y1, y4, q1, pr_i_0, pr_i_1]; first | assumption | omega | exact ⟨by assumption, by assumption⟩ | exact ⟨Or.inl (by assumption), by assumption⟩))⟩, (by first | assumption | decide | omega | exact ⟨Or.inl (by assumption), by assumption⟩ | exact ⟨by assumption, by assumption⟩ | (simp only [x1, r2, r4, e3, y1, y4, q1, pr_i_0, pr_i_1]; first | assumption | omega | exact ⟨by assumption, by assumption⟩ | exact ⟨Or.inl (by assumption), by assumption⟩))⟩, trivial⟩, (by first | assumption | decide | omega | exact ⟨Or.inl (by assumption), by assumption⟩ | exact ⟨by assumption, by assumption⟩ | (simp only [x1, r2, r4, e3, y1, y4, q1, pr_i_0, pr_i_1]; first | assumption | omega | exact ⟨by assumption, by assumption⟩ | exact ⟨Or.inl (by assumption), by assumption⟩))⟩, (by first | assumption | decide | omega | exact ⟨Or.inl (by assumption), by assumption⟩ | exact ⟨by assumption, by assumption⟩ | (simp only [x1, r2, r4, e3, y1, y4, q1, pr_i_0, pr_i_1]; first | assumption | omega | exact ⟨by assumption, by assumption⟩ | exact ⟨Or.inl (by assumption), by assumption⟩))⟩, (by first | assumption | decide | omega | exact ⟨Or.inl (by assumption), by assumption⟩ | exact ⟨by assumption, by assumption⟩ | (simp only [x1, r2, r4, e3, y1, y4, q1, pr_i_0, pr_i_1]; first | assumption | omega | exact ⟨by assumption, by assumption⟩ | exact ⟨Or.inl (by assumption), by assumption⟩))⟩, (by first | assumption | decide | omega | exact ⟨Or.inl (by assumption), by assumption⟩ | exact ⟨by assumption, by assumption⟩ | (simp only [x1, r2, r4, e3, y1, y4, q1, pr_i_0, pr_i_1]; first | assumption | omega | exact ⟨by assumption, by assumption⟩ | exact ⟨Or.inl (by assumption), by assumption⟩))⟩, (by first | assumption | decide | omega | exact ⟨Or.inl (by assumption), by assumption⟩ | exact ⟨by assumption, by assumption⟩ | (simp only [x1, r2, r4, e3, y1, y4, q1, pr_i_0, pr_i_1]; first | assumption | omega | exact ⟨by assumption, by assumption⟩ | exact ⟨Or.inl (by assumption), by assumption⟩))⟩, trivial⟩ ?_
          try simp only [x1, r2, r4, e3, y1, y4, q1, pr_i_0, pr_i_1]
          refine pr_cv [_, _, _] rfl rfl rfl rfl rfl (Nat.le_of_ble_eq_true rfl) (by first | assumption | decide | omega | exact ⟨Or.inl (by assumption), by assumption⟩ | exact ⟨by assumption, by assumption⟩ | (simp only [x1, r2, r4, e3, y1, y4, q1, pr_i_0, pr_i_1]; first | assumption | omega | exact ⟨by assumption, by assumption⟩ | exact ⟨Or.inl (by assumption), by assumption⟩)) (Nat.le_of_ble_eq_true rfl) (hwi) ?_
          refine pr_seq (pc' := 46) 2 rfl ⟨⟨trivial, (by first | assumption | decide | omega | exact ⟨Or.inl (by assumption), by assumption⟩ | exact ⟨by assumption, by assumption⟩ | (simp only [x1, r2, r4, e3, y1, y4, q1, pr_i_0, pr_i_1]; first | assumption | omega | exact ⟨by assumption, by assumption⟩ | exact ⟨Or.inl (by assumption), by assumption⟩))⟩, trivial⟩ ?_
          try simp only [x1, r2, r4, e3, y1, y4, q1, pr_i_0, pr_i_1]
          refine pr_if rfl (fun h46 => ?_) (fun h46 => ?_)
          · simp only [ab_cmp, pr_i_0, pr_i_1] at h46
            refine pr_seq (pc' := 5) 5 rfl ⟨⟨⟨⟨⟨trivial, trivial⟩, trivial⟩, trivial⟩, trivial⟩, trivial⟩ ?_
            try simp only [x1, r2, r4, e3, y1, y4, q1, pr_i_0, pr_i_1]
            exact hh _
          · simp only [ab_cmp, pr_i_0, pr_i_1] at h46
            exact absurd (Classical.not_not.mp h46) (by decide)
      | true =>
        by_cases hz : d_wg d l k = 0
        · have y7 : nI (d_wg d l k) = 0 := by rw [hz]; rfl
          rw [en, hb, decide_eq_false (fun q => q hz)] at hh
          refine pr_seq (pc' := 11) 3 rfl ⟨⟨⟨trivial, trivial⟩, (by first | assumption | decide | omega | exact ⟨Or.inl (by assumption), by assumption⟩ | exact ⟨by assumption, by assumption⟩ | (simp only [x1, r2, r4, e3, y1, y4, q1, x2, pr_i_0, pr_i_1]; first | assumption | omega | exact ⟨by assumption, by assumption⟩ | exact ⟨Or.inl (by assumption), by assumption⟩))⟩, (by first | assumption | decide | omega | exact ⟨Or.inl (by assumption), by assumption⟩ | exact ⟨by assumption, by assumption⟩ | (simp only [x1, r2, r4, e3, y1, y4, q1, x2, pr_i_0, pr_i_1]; first | assumption | omega | exact ⟨by assumption, by assumption⟩ | exact ⟨Or.inl (by assumption), by assumption⟩))⟩ ?_
          try simp only [x1, r2, r4, e3, y1, y4, q1, x2, pr_i_0, pr_i_1]
          refine pr_ic rfl (fun h11 => ?_) (fun h11 => ?_)
          · simp only [ab_cmp, pr_i_0, pr_i_1] at h11
            exact absurd h11 e1
          · simp only [ab_cmp, pr_i_0, pr_i_1] at h11
            refine pr_seq (pc' := 41) 14 rfl ⟨⟨⟨⟨⟨⟨⟨⟨⟨⟨⟨⟨⟨⟨trivial, (by first | assumption | decide | omega | exact ⟨Or.inl (by assumption), by assumption⟩ | exact ⟨by assumption, by assumption⟩ | (simp only [x1, r2, r4, e3, y1, y4, q1, x2, pr_i_0, pr_i_1]; first | assumption | omega | exact ⟨by assumption, by assumption⟩ | exact ⟨Or.inl (by assumption), by assumption⟩))⟩, (by first | assumption | decide | omega | exact ⟨Or.inl (by assumption), by assumption⟩ | exact ⟨by assumption, by assumption⟩ | (simp only [x1, r2, r4, e3, y1, y4, q1, x2, pr_i_0, pr_i_1]; first | assumption | omega | exact ⟨by assumption, by assumption⟩ | exact ⟨Or.inl (by assumption), by assumption⟩))⟩, trivial⟩, (by first | assumption | decide | omega | exact ⟨Or.inl (by assumption), by assumption⟩ | exact ⟨by assumption, by assumption⟩ | (simp only [x1, r2, r4, e3, y1, y4, q1, x2, pr_i_0, pr_i_1]; first | assumption | omega | exact ⟨by assumption, by assumption⟩ | exact ⟨Or.inl (by assumption), by assumption⟩))⟩, (by first | assumption | decide | omega | exact ⟨Or.inl (by assumption), by assumption⟩ | exact ⟨by assumption, by assumption⟩ | (simp only [x1, r2, r4, e3, y1, y4, q1, x2, pr_i_0, pr_i_1]; first | assumption | omega | exact ⟨by assumption, by assumption⟩ | exact ⟨Or.inl (by assumption), by assumption⟩))⟩, (by first | assumption | decide | omega | exact ⟨Or.inl (by assumption), by assumption⟩ | exact ⟨by assumption, by assumption⟩ | (simp only [x1, r2, r4, e3, y1, y4, q1, x2, pr_i_0, pr_i_1]; first | assumption | omega | exact ⟨by assumption, by assumption⟩ | exact ⟨Or.inl (by assumption), by assumption⟩))⟩, (by first | assumption | decide | omega | exact ⟨Or.inl (by assumption), by assumption⟩ | exact ⟨by assumption, by assumption⟩ | (simp only [x1, r2, r4, e3, y1, y4, q1, x2, pr_i_0, pr_i_1]; first | assumption | omega | exact ⟨by assumption, by assumption⟩ | exact ⟨Or.inl (by assumption), by assumption⟩))⟩, trivial⟩, (by first | assumption | decide | omega | exact ⟨Or.inl (by assumption), by assumption⟩ | exact ⟨by assumption, by assumption⟩ | (simp only [x1, r2, r4, e3, y1, y4, q1, x2, pr_i_0, pr_i_1]; first | assumption | omega | exact ⟨by assumption, by assumption⟩ | exact ⟨Or.inl (by assumption), by assumption⟩))⟩, (by first | assumption | decide | omega | exact ⟨Or.inl (by assumption), by assumption⟩ | exact ⟨by assumption, by assumption⟩ | (simp only [x1, r2, r4, e3, y1, y4, q1, x2, pr_i_0, pr_i_1]; first | assumption | omega | exact ⟨by assumption, by assumption⟩ | exact ⟨Or.inl (by assumption), by assumption⟩))⟩, (by first | assumption | decide | omega | exact ⟨Or.inl (by assumption), by assumption⟩ | exact ⟨by assumption, by assumption⟩ | (simp only [x1, r2, r4, e3, y1, y4, q1, x2, pr_i_0, pr_i_1]; first | assumption | omega | exact ⟨by assumption, by assumption⟩ | exact ⟨Or.inl (by assumption), by assumption⟩))⟩, (by first | assumption | decide | omega | exact ⟨Or.inl (by assumption), by assumption⟩ | exact ⟨by assumption, by assumption⟩ | (simp only [x1, r2, r4, e3, y1, y4, q1, x2, pr_i_0, pr_i_1]; first | assumption | omega | exact ⟨by assumption, by assumption⟩ | exact ⟨Or.inl (by assumption), by assumption⟩))⟩, (by first | assumption | decide | omega | exact ⟨Or.inl (by assumption), by assumption⟩ | exact ⟨by assumption, by assumption⟩ | (simp only [x1, r2, r4, e3, y1, y4, q1, x2, pr_i_0, pr_i_1]; first | assumption | omega | exact ⟨by assumption, by assumption⟩ | exact ⟨Or.inl (by assumption), by assumption⟩))⟩, trivial⟩ ?_
            try simp only [x1, r2, r4, e3, y1, y4, q1, x2, pr_i_0, pr_i_1]
            refine pr_cv [_, _, _] rfl rfl rfl rfl rfl (Nat.le_of_ble_eq_true rfl) (by first | assumption | decide | omega | exact ⟨Or.inl (by assumption), by assumption⟩ | exact ⟨by assumption, by assumption⟩ | (simp only [x1, r2, r4, e3, y1, y4, q1, x2, pr_i_0, pr_i_1]; first | assumption | omega | exact ⟨by assumption, by assumption⟩ | exact ⟨Or.inl (by assumption), by assumption⟩)) (Nat.le_of_ble_eq_true rfl) (hwi) ?_
            refine pr_seq (pc' := 46) 2 rfl ⟨⟨trivial, (by first | assumption | decide | omega | exact ⟨Or.inl (by assumption), by assumption⟩ | exact ⟨by assumption, by assumption⟩ | (simp only [x1, r2, r4, e3, y1, y4, q1, x2, pr_i_0, pr_i_1]; first | assumption | omega | exact ⟨by assumption, by assumption⟩ | exact ⟨Or.inl (by assumption), by assumption⟩))⟩, trivial⟩ ?_
            try simp only [x1, r2, r4, e3, y1, y4, q1, x2, pr_i_0, pr_i_1]
            refine pr_if rfl (fun h46 => ?_) (fun h46 => ?_)
            · simp only [ab_cmp, pr_i_0, pr_i_1] at h46
              exact absurd rfl h46
            · simp only [ab_cmp, pr_i_0, pr_i_1] at h46
              refine pr_seq (pc' := 56) 4 rfl ⟨⟨⟨⟨trivial, (by first | assumption | decide | omega | exact ⟨Or.inl (by assumption), by assumption⟩ | exact ⟨by assumption, by assumption⟩ | (simp only [x1, r2, r4, e3, y1, y4, q1, x2, pr_i_0, pr_i_1]; first | assumption | omega | exact ⟨by assumption, by assumption⟩ | exact ⟨Or.inl (by assumption), by assumption⟩))⟩, (by first | assumption | decide | omega | exact ⟨Or.inl (by assumption), by assumption⟩ | exact ⟨by assumption, by assumption⟩ | (simp only [x1, r2, r4, e3, y1, y4, q1, x2, pr_i_0, pr_i_1]; first | assumption | omega | exact ⟨by assumption, by assumption⟩ | exact ⟨Or.inl (by assumption), by assumption⟩))⟩, trivial⟩, (by first | assumption | decide | omega | exact ⟨Or.inl (by assumption), by assumption⟩ | exact ⟨by assumption, by assumption⟩ | (simp only [x1, r2, r4, e3, y1, y4, q1, x2, pr_i_0, pr_i_1]; first | assumption | omega | exact ⟨by assumption, by assumption⟩ | exact ⟨Or.inl (by assumption), by assumption⟩))⟩ ?_
              try simp only [x1, r2, r4, e3, y1, y4, q1, x2, pr_i_0, pr_i_1]
              refine pr_if rfl (fun h56 => ?_) (fun h56 => ?_)
              · simp only [ab_cmp, pr_i_0, pr_i_1] at h56
                refine pr_seq (pc' := 5) 4 rfl ⟨⟨⟨⟨trivial, trivial⟩, trivial⟩, trivial⟩, trivial⟩ ?_
                try simp only [x1, r2, r4, e3, y1, y4, q1, x2, pr_i_0, pr_i_1]
                exact hh _
              · simp only [ab_cmp, pr_i_0, pr_i_1] at h56
                exact absurd y7 h56
        · have y7 : ¬ nI (d_wg d l k) = 0 := nI_ne hz (hw k hlk) (by decide)
          rw [en, hb, decide_eq_true hz] at hh
          refine pr_seq (pc' := 11) 3 rfl ⟨⟨⟨trivial, trivial⟩, (by first | assumption | decide | omega | exact ⟨Or.inl (by assumption), by assumption⟩ | exact ⟨by assumption, by assumption⟩ | (simp only [x1, r2, r4, e3, y1, y4, q1, x2, pr_i_0, pr_i_1]; first | assumption | omega | exact ⟨by assumption, by assumption⟩ | exact ⟨Or.inl (by assumption), by assumption⟩))⟩, (by first | assumption | decide | omega | exact ⟨Or.inl (by assumption), by assumption⟩ | exact ⟨by assumption, by assumption⟩ | (simp only [x1, r2, r4, e3, y1, y4, q1, x2, pr_i_0, pr_i_1]; first | assumption | omega | exact ⟨by assumption, by assumption⟩ | exact ⟨Or.inl (by assumption), by assumption⟩))⟩ ?_
          try simp only [x1, r2, r4, e3, y1, y4, q1, x2, pr_i_0, pr_i_1]
          refine pr_ic rfl (fun h11 => ?_) (fun h11 => ?_)
          · simp only [ab_cmp, pr_i_0, pr_i_1] at h11
            exact absurd h11 e1
          · simp only [ab_cmp, pr_i_0, pr_i_1] at h11
            refine pr_seq (pc' := 41) 14 rfl ⟨⟨⟨⟨⟨⟨⟨⟨⟨⟨⟨⟨⟨⟨trivial, (by first | assumption | decide | omega | exact ⟨Or.inl (by assumption), by assumption⟩ | exact ⟨by assumption, by assumption⟩ | (simp only [x1, r2, r4, e3, y1, y4, q1, x2, pr_i_0, pr_i_1]; first | assumption | omega | exact ⟨by assumption, by assumption⟩ | exact ⟨Or.inl (by assumption), by assumption⟩))⟩, (by first | assumption | decide | omega | exact ⟨Or.inl (by assumption), by assumption⟩ | exact ⟨by assumption, by assumption⟩ | (simp only [x1, r2, r4, e3, y1, y4, q1, x2, pr_i_0, pr_i_1]; first | assumption | omega | exact ⟨by assumption, by assumption⟩ | exact ⟨Or.inl (by assumption), by assumption⟩))⟩, trivial⟩, (by first | assumption | decide | omega | exact ⟨Or.inl (by assumption), by assumption⟩ | exact ⟨by assumption, by assumption⟩ | (simp only [x1, r2, r4, e3, y1, y4, q1, x2, pr_i_0, pr_i_1]; first | assumption | omega | exact ⟨by assumption, by assumption⟩ | exact ⟨Or.inl (by assumption), by assumption⟩))⟩, (by first | assumption | decide | omega | exact ⟨Or.inl (by assumption), by assumption⟩ | exact ⟨by assumption, by assumption⟩ | (simp only [x1, r2, r4, e3, y1, y4, q1, x2, pr_i_0, pr_i_1]; first | assumption | omega | exact ⟨by assumption, by assumption⟩ | exact ⟨Or.inl (by assumption), by assumption⟩))⟩, (by first | assumption | decide | omega | exact ⟨Or.inl (by assumption), by assumption⟩ | exact ⟨by assumption, by assumption⟩ | (simp only [x1, r2, r4, e3, y1, y4, q1, x2, pr_i_0, pr_i_1]; first | assumption | omega | exact ⟨by assumption, by assumption⟩ | exact ⟨Or.inl (by assumption), by assumption⟩))⟩, (by first | assumption | decide | omega | exact ⟨Or.inl (by assumption), by assumption⟩ | exact ⟨by assumption, by assumption⟩ | (simp only [x1, r2, r4, e3, y1, y4, q1, x2, pr_i_0, pr_i_1]; first | assumption | omega | exact ⟨by assumption, by assumption⟩ | exact ⟨Or.inl (by assumption), by assumption⟩))⟩, trivial⟩, (by first | assumption | decide | omega | exact ⟨Or.inl (by assumption), by assumption⟩ | exact ⟨by assumption, by assumption⟩ | (simp only [x1, r2, r4, e3, y1, y4, q1, x2, pr_i_0, pr_i_1]; first | assumption | omega | exact ⟨by assumption, by assumption⟩ | exact ⟨Or.inl (by assumption), by assumption⟩))⟩, (by first | assumption | decide | omega | exact ⟨Or.inl (by assumption), by assumption⟩ | exact ⟨by assumption, by assumption⟩ | (simp only [x1, r2, r4, e3, y1, y4, q1, x2, pr_i_0, pr_i_1]; first | assumption | omega | exact ⟨by assumption, by assumption⟩ | exact ⟨Or.inl (by assumption), by assumption⟩))⟩, (by first | assumption | decide | omega | exact ⟨Or.inl (by assumption), by assumption⟩ | exact ⟨by assumption, by assumption⟩ | (simp only [x1, r2, r4, e3, y1, y4, q1, x2, pr_i_0, pr_i_1]; first | assumption | omega | exact ⟨by assumption, by assumption⟩ | exact ⟨Or.inl (by assumption), by assumption⟩))⟩, (by first | assumption | decide | omega | exact ⟨Or.inl (by assumption), by assumption⟩ | exact ⟨by assumption, by assumption⟩ | (simp only [x1, r2, r4, e3, y1, y4, q1, x2, pr_i_0, pr_i_1]; first | assumption | omega | exact ⟨by assumption, by assumption⟩ | exact ⟨Or.inl (by assumption), by assumption⟩))⟩, (by first | assumption | decide | omega | exact ⟨Or.inl (by assumption), by assumption⟩ | exact ⟨by assumption, by assumption⟩ | (simp only [x1, r2, r4, e3, y1, y4, q1, x2, pr_i_0, pr_i_1]; first | assumption | omega | exact ⟨by assumption, by assumption⟩ | exact ⟨Or.inl (by assumption), by assumption⟩))⟩, trivial⟩ ?_
            try simp only [x1, r2, r4, e3, y1, y4, q1, x2, pr_i_0, pr_i_1]
            refine pr_cv [_, _, _] rfl rfl rfl rfl rfl (Nat.le_of_ble_eq_true rfl) (by first | assumption | decide | omega | exact ⟨Or.inl (by assumption), by assumption⟩ | exact ⟨by assumption, by assumption⟩ | (simp only [x1, r2, r4, e3, y1, y4, q1, x2, pr_i_0, pr_i_1]; first | assumption | omega | exact ⟨by assumption, by assumption⟩ | exact ⟨Or.inl (by assumption), by assumption⟩)) (Nat.le_of_ble_eq_true rfl) (hwi) ?_
            refine pr_seq (pc' := 46) 2 rfl ⟨⟨trivial, (by first | assumption | decide | omega | exact ⟨Or.inl (by assumption), by assumption⟩ | exact ⟨by assumption, by assumption⟩ | (simp only [x1, r2, r4, e3, y1, y4, q1, x2, pr_i_0, pr_i_1]; first | assumption | omega | exact ⟨by assumption, by assumption⟩ | exact ⟨Or.inl (by assumption), by assumption⟩))⟩, trivial⟩ ?_
            try simp only [x1, r2, r4, e3, y1, y4, q1, x2, pr_i_0, pr_i_1]
            refine pr_if rfl (fun h46 => ?_) (fun h46 => ?_)
            · simp only [ab_cmp, pr_i_0, pr_i_1] at h46
              exact absurd rfl h46
            · simp only [ab_cmp, pr_i_0, pr_i_1] at h46
              refine pr_seq (pc' := 56) 4 rfl ⟨⟨⟨⟨trivial, (by first | assumption | decide | omega | exact ⟨Or.inl (by assumption), by assumption⟩ | exact ⟨by assumption, by assumption⟩ | (simp only [x1, r2, r4, e3, y1, y4, q1, x2, pr_i_0, pr_i_1]; first | assumption | omega | exact ⟨by assumption, by assumption⟩ | exact ⟨Or.inl (by assumption), by assumption⟩))⟩, (by first | assumption | decide | omega | exact ⟨Or.inl (by assumption), by assumption⟩ | exact ⟨by assumption, by assumption⟩ | (simp only [x1, r2, r4, e3, y1, y4, q1, x2, pr_i_0, pr_i_1]; first | assumption | omega | exact ⟨by assumption, by assumption⟩ | exact ⟨Or.inl (by assumption), by assumption⟩))⟩, trivial⟩, (by first | assumption | decide | omega | exact ⟨Or.inl (by assumption), by assumption⟩ | exact ⟨by assumption, by assumption⟩ | (simp only [x1, r2, r4, e3, y1, y4, q1, x2, pr_i_0, pr_i_1]; first | assumption | omega | exact ⟨by assumption, by assumption⟩ | exact ⟨Or.inl (by assumption), by assumption⟩))⟩ ?_
              try simp only [x1, r2, r4, e3, y1, y4, q1, x2, pr_i_0, pr_i_1]
              refine pr_if rfl (fun h56 => ?_) (fun h56 => ?_)
              · simp only [ab_cmp, pr_i_0, pr_i_1] at h56
                exact absurd h56 y7
              · simp only [ab_cmp, pr_i_0, pr_i_1] at h56
                refine pr_seq (pc' := 5) 5 rfl ⟨⟨⟨⟨⟨trivial, trivial⟩, trivial⟩, trivial⟩, trivial⟩, trivial⟩ ?_
                try simp only [x1, r2, r4, e3, y1, y4, q1, x2, pr_i_0, pr_i_1]
                exact hh _
  have h0 := loop d.2.1.length 0 (by omega) none
  rw [show cs_wg M.1 c (d_wg d l) 0 = M.1 by funext a j; unfold cs_wg; rw [if_neg (by omega)]] at h0
  refine pr_seq (pc' := 5) 4 rfl ⟨⟨⟨⟨trivial, trivial⟩, trivial⟩, trivial⟩, trivial⟩ ?_
  exact h0
/-- the sums moved by the weights -/
def cs_sh (I : Nat → Nat → Int32) (c : Nat) (m : Int32) (k : Nat) : Nat → Nat → Int32 := fun a j => if a = c + 1 ∧ j < k then I (c + 1) j + I (c + 5) j * m else I a j
theorem cs_sh_s {I : Nat → Nat → Int32} {c k : Nat} {m : Int32} : ab_u (cs_sh I c m k) (c + 1) k (I (c + 1) k + I (c + 5) k * m) = cs_sh I c m (k + 1) := by
  funext a j
  unfold ab_u cs_sh
  by_cases h1 : a = c + 1 ∧ j = k
  · rw [if_pos h1, if_pos (by omega), h1.2]
  · rw [if_neg h1]
    by_cases h2 : a = c + 1 ∧ j < k
    · rw [if_pos h2, if_pos (by omega)]
    · rw [if_neg h2, if_neg (by omega)]
theorem cs_sh_far {I : Nat → Nat → Int32} {c k a : Nat} {m : Int32} (h : a ≠ c + 1) : cs_sh I c m k a = I a := by
  funext j
  unfold cs_sh
  rw [if_neg (by omega)]
theorem c_shift {c n : Nat} (m : Int32) (h : ab_H) (M : ab_M) (hc : pr_Cs h M.2.2 c) (hn : M.1 c 5 = nI n) (h8 : n ≤ 8) : pr_C pX0_shift [.ref c, .int m] h M none h (cs_sh M.1 c m n, M.2.1, M.2.2) := by
  obtain ⟨c0, c1, r0, r1', r2', r3, r4, ⟨a1, a2⟩, -, -, -, a3, a4⟩ := id hc
  have loop : ∀ dd k, k + dd = n → pr_E pX0_shift 2 [some (.ref c), some (.int m), some (.int (nI k))] [] h (cs_sh M.1 c m k, M.2.1, M.2.2) none h (cs_sh M.1 c m n, M.2.1, M.2.2) := by
    intro dd
    induction dd with
    | zero =>
      intro k hk
      obtain rfl : k = n := by omega
      have x1 : cs_sh M.1 c m k c 5 = nI k := by rw [cs_sh_far (by omega)]; exact hn
      have e1 : nI k ≤ nI k := nI_le (Nat.le_refl _) (by omega)
      refine pr_seq (pc' := 7) 3 rfl ⟨⟨⟨trivial, trivial⟩, (by first | assumption | decide | omega | exact ⟨Or.inl (by assumption), by assumption⟩ | exact ⟨by assumption, by assumption⟩ | (simp only [x1, pr_8_8, pr_i_0, pr_i_1]; first | assumption | omega | exact ⟨by assumption, by assumption⟩ | exact ⟨Or.inl (by assumption), by assumption⟩))⟩, (by first | assumption | decide | omega | exact ⟨Or.inl (by assumption), by assumption⟩ | exact ⟨by assumption, by assumption⟩ | (simp only [x1, pr_8_8, pr_i_0, pr_i_1]; first | assumption | omega | exact ⟨by assumption, by assumption⟩ | exact ⟨Or.inl (by assumption), by assumption⟩))⟩ ?_
      try simp only [x1, pr_8_8, pr_i_0, pr_i_1]
      refine pr_ic rfl (fun h7 => ?_) (fun h7 => ?_)
      · simp only [ab_cmp, pr_8_8, pr_i_0, pr_i_1] at h7
        exact pr_vrM rfl rfl rfl (by rfl)
      · simp only [ab_cmp, pr_8_8, pr_i_0, pr_i_1] at h7
        exact absurd e1 h7
    | succ dd ih =>
      intro k hk
      have x1 : cs_sh M.1 c m k c 5 = nI n := by rw [cs_sh_far (by omega)]; exact hn
      have x2 : cs_sh M.1 c m k (c + 5) k = M.1 (c + 5) k := by rw [cs_sh_far (by omega)]
      have x3 : cs_sh M.1 c m k (c + 1) k = M.1 (c + 1) k := by unfold cs_sh; rw [if_neg (by omega)]
      have e1 : ¬ nI n ≤ nI k := nI_ge (by omega) (by omega)
      have e2 : ¬ (8 : Int32) ≤ nI k := nI_ge (show k < 8 by omega) (by decide)
      have e3 : (nI k).toNatClampNeg = k := nI_clamp (by omega)
      have w1 : vp_in (nI k) (ab_n h (c + 1)) := by rw [a2]; exact vp_in_nI (by omega) (by decide)
      have w2 : vp_in (nI k) (ab_n h (c + 5)) := by rw [a4]; exact vp_in_nI (by omega) (by decide)
      have hh := ih (k + 1) (by omega)
      rw [← nI_1, ← cs_sh_s] at hh
      refine pr_seq (pc' := 7) 3 rfl ⟨⟨⟨trivial, trivial⟩, (by first | assumption | decide | omega | exact ⟨Or.inl (by assumption), by assumption⟩ | exact ⟨by assumption, by assumption⟩ | (simp only [x1, r0, r4, e3, x2, x3, pr_8_8, pr_i_0, pr_i_1]; first | assumption | omega | exact ⟨by assumption, by assumption⟩ | exact ⟨Or.inl (by assumption), by assumption⟩))⟩, (by first | assumption | decide | omega | exact ⟨Or.inl (by assumption), by assumption⟩ | exact ⟨by assumption, by assumption⟩ | (simp only [x1, r0, r4, e3, x2, x3, pr_8_8, pr_i_0, pr_i_1]; first | assumption | omega | exact ⟨by assumption, by assumption⟩ | exact ⟨Or.inl (by assumption), by assumption⟩))⟩ ?_
      try simp only [x1, r0, r4, e3, x2, x3, pr_8_8, pr_i_0, pr_i_1]
      refine pr_ic rfl (fun h7 => ?_) (fun h7 => ?_)
      · simp only [ab_cmp, pr_8_8, pr_i_0, pr_i_1] at h7
        exact absurd h7 e1
      · simp only [ab_cmp, pr_8_8, pr_i_0, pr_i_1] at h7
        refine pr_seq (pc' := 13) 2 rfl ⟨⟨trivial, trivial⟩, trivial⟩ ?_
        try simp only [x1, r0, r4, e3, x2, x3, pr_8_8, pr_i_0, pr_i_1]
        refine pr_ic rfl (fun h13 => ?_) (fun h13 => ?_)
        · simp only [ab_cmp, pr_8_8, pr_i_0, pr_i_1] at h13
          exact absurd h13 e2
        · simp only [ab_cmp, pr_8_8, pr_i_0, pr_i_1] at h13
          refine pr_seq (pc' := 2) 15 rfl ⟨⟨⟨⟨⟨⟨⟨⟨⟨⟨⟨⟨⟨⟨⟨trivial, (by first | assumption | decide | omega | exact ⟨Or.inl (by assumption), by assumption⟩ | exact ⟨by assumption, by assumption⟩ | (simp only [x1, r0, r4, e3, x2, x3, pr_8_8, pr_i_0, pr_i_1]; first | assumption | omega | exact ⟨by assumption, by assumption⟩ | exact ⟨Or.inl (by assumption), by assumption⟩))⟩, (by first | assumption | decide | omega | exact ⟨Or.inl (by assumption), by assumption⟩ | exact ⟨by assumption, by assumption⟩ | (simp only [x1, r0, r4, e3, x2, x3, pr_8_8, pr_i_0, pr_i_1]; first | assumption | omega | exact ⟨by assumption, by assumption⟩ | exact ⟨Or.inl (by assumption), by assumption⟩))⟩, trivial⟩, trivial⟩, (by first | assumption | decide | omega | exact ⟨Or.inl (by assumption), by assumption⟩ | exact ⟨by assumption, by assumption⟩ | (simp only [x1, r0, r4, e3, x2, x3, pr_8_8, pr_i_0, pr_i_1]; first | assumption | omega | exact ⟨by assumption, by assumption⟩ | exact ⟨Or.inl (by assumption), by assumption⟩))⟩, (by first | assumption | decide | omega | exact ⟨Or.inl (by assumption), by assumption⟩ | exact ⟨by assumption, by assumption⟩ | (simp only [x1, r0, r4, e3, x2, x3, pr_8_8, pr_i_0, pr_i_1]; first | assumption | omega | exact ⟨by assumption, by assumption⟩ | exact ⟨Or.inl (by assumption), by assumption⟩))⟩, (by first | assumption | decide | omega | exact ⟨Or.inl (by assumption), by assumption⟩ | exact ⟨by assumption, by assumption⟩ | (simp only [x1, r0, r4, e3, x2, x3, pr_8_8, pr_i_0, pr_i_1]; first | assumption | omega | exact ⟨by assumption, by assumption⟩ | exact ⟨Or.inl (by assumption), by assumption⟩))⟩, trivial⟩, (by first | assumption | decide | omega | exact ⟨Or.inl (by assumption), by assumption⟩ | exact ⟨by assumption, by assumption⟩ | (simp only [x1, r0, r4, e3, x2, x3, pr_8_8, pr_i_0, pr_i_1]; first | assumption | omega | exact ⟨by assumption, by assumption⟩ | exact ⟨Or.inl (by assumption), by assumption⟩))⟩, trivial⟩, trivial⟩, trivial⟩, (by first | assumption | decide | omega | exact ⟨Or.inl (by assumption), by assumption⟩ | exact ⟨by assumption, by assumption⟩ | (simp only [x1, r0, r4, e3, x2, x3, pr_8_8, pr_i_0, pr_i_1]; first | assumption | omega | exact ⟨by assumption, by assumption⟩ | exact ⟨Or.inl (by assumption), by assumption⟩))⟩, trivial⟩, trivial⟩ ?_
          try simp only [x1, r0, r4, e3, x2, x3, pr_8_8, pr_i_0, pr_i_1]
          exact hh
  have h0 := loop n 0 (by omega)
  rw [show cs_sh M.1 c m 0 = M.1 by funext a j; unfold cs_sh; rw [if_neg (by omega)]] at h0
  refine pr_seq (pc' := 2) 2 rfl ⟨⟨trivial, trivial⟩, trivial⟩ ?_
  exact h0
