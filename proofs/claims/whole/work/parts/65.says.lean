
/-! ===== says, copyWord ===== -/
theorem kw_sl : ∀ k, k < 11 → ab_sl k = (kwd k).length ∧ (kwd k).length ≤ 7 := by
  have : ∀ k : Fin 11, ab_sl k.val = (kwd k.val).length ∧ (kwd k.val).length ≤ 7 := by decide
  exact fun k hk => this ⟨k, hk⟩
theorem kw_sc : ∀ k i, k < 11 → i < 7 → ab_sc k i = nI ((kwd k).getD i 0) ∧ (kwd k).getD i 0 < 128 := by
  have : ∀ (k : Fin 11) (i : Fin 7), ab_sc k.val i.val = nI ((kwd k.val).getD i.val 0) ∧ (kwd k.val).getD i.val 0 < 128 := by decide
  exact fun k i hk hi => this ⟨k, hk⟩ ⟨i, hi⟩
theorem sb_eq {w : List Nat} {p c : Nat} (h : w.getD p 0 < 256) (hc : c < 128) : sb w p = nI c ↔ w.getD p 0 = c := by
  have hr := sb_range (lo := c) (hi := c) h hc hc
  unfold sb
  constructor
  · intro q
    rw [q] at hr
    have := hr.mp ⟨Int32.lt_irrefl, Int32.lt_irrefl⟩
    omega
  · intro q
    rw [q, sb_lo c hc]
def isStr (a k : Nat) : Prop := a = 1000000 + k ∧ k < 11
theorem str_ne {a k : Nat} (h : isStr a k) : a ≠ 0 := by obtain ⟨rfl, -⟩ := h; omega
theorem str_r {a k : Nat} (h : isStr a k) : 1000000 ≤ a ∧ a < 1000011 := by obtain ⟨rfl, h⟩ := h; omega
theorem str_k {a k : Nat} (h : isStr a k) : a - 1000000 = k := by obtain ⟨rfl, h⟩ := h; omega
theorem str_l {a k : Nat} (h : isStr a k) : Int32.ofNat (ab_sl (a - 1000000)) = nI (kwd k).length := by rw [str_k h, (kw_sl k h.2).1]; rfl
theorem str_c {a k i : Nat} (h : isStr a k) (hi : i < 7) : ab_sc (a - 1000000) (nI i).toNatClampNeg = nI ((kwd k).getD i 0) := by rw [str_k h, nI_clamp (by omega), (kw_sc k i h.2 hi).1]
theorem str_v {a k i : Nat} (h : isStr a k) (hi : i < (kwd k).length) : vp_in (nI i) (ab_sl (a - 1000000)) := by
  have := kw_sl k h.2
  rw [str_k h, this.1]; exact vp_in_nI hi (by omega)
theorem c_says {t a k kd s e v : Nat} {w : List Nat} (ha : isStr a k) (h : ab_H) (M : ab_M) (hr : pr_Rd h M.2.2 t) (hw : tp_v M.1 w) (g6 : M.1 4 6 = nI kd) (g7 : M.1 4 7 = nI s) (g5 : M.1 4 5 = nI e) (hkd : kd ≤ 4) (hse : s ≤ e) (he : e ≤ w.length) : pr_C pX6_says [.ref 4, .ref a] h M (some (.int (pr_b (sy w (kd, s, e, v) k)))) h M := by
  have k4 := hr.1
  obtain ⟨w1, w2, w3⟩ := id hw
  have n4 : (4 : Nat) ≠ 0 := by decide
  have nk := str_ne ha
  have hk := ha.2
  obtain ⟨sl, sl7⟩ := kw_sl k hk
  have es : nI e - nI s = nI (e - s) := i_sub hse
  unfold sy
  dsimp only
  by_cases c1 : kd = 1
  · rw [decide_eq_true c1]
    rw [c1] at g6
    have g6 : M.1 4 6 = 1 := g6
    by_cases c2 : e - s = (kwd k).length
    · rw [decide_eq_true c2]
      have c2' : nI (e - s) = nI (kwd k).length := by rw [c2]
      have loop : ∀ dd i, i + dd = (kwd k).length → nb (fun i => !decide (w.getD (s + i) 0 = (kwd k).getD i 0)) i = true → pr_E pX6_says 28 [some (.ref 4), some (.ref a), some (.int (nI i))] [] h M (some (.int (pr_b (true && (true && nb (fun i => !decide (w.getD (s + i) 0 = (kwd k).getD i 0)) (kwd k).length))))) h M := by
        intro dd
        induction dd with
        | zero =>
          intro i hi hn
          obtain rfl : i = (kwd k).length := by omega
          have e1 : nI (kwd k).length ≤ nI (kwd k).length := nI_le (Nat.le_refl _) (by omega)
          rw [hn]
          refine pr_seq (pc' := 33) 3 rfl ⟨⟨⟨trivial, trivial⟩, (by first | assumption | (simp only [str_l ha, pr_i_0, pr_i_1]; first | assumption | decide | exact ⟨by assumption, by assumption⟩ | exact ⟨Or.inl (by assumption), by assumption⟩ | omega) | decide | exact ⟨Or.inl (by assumption), by assumption⟩ | exact ⟨by assumption, by assumption⟩ | omega)⟩, (by exact ⟨str_r ha, Nat.le_of_ble_eq_true rfl⟩)⟩ ?_
          try simp only [str_l ha, pr_i_0, pr_i_1]
          refine pr_ic rfl (fun h33 => ?_) (fun h33 => ?_)
          · simp only [ab_cmp, pr_i_0, pr_i_1] at h33
            first
            | contradiction
            | exact absurd trivial h33
            | exact absurd h33 (by decide)
            | exact absurd (Classical.not_not.mp h33) (by decide)
            | skip
              refine pr_seq (pc' := 63) 1 rfl ⟨trivial, trivial⟩ ?_
              try simp only [str_l ha, pr_i_0, pr_i_1]
              exact pr_irM rfl (by first | rfl | (simp only [str_l ha, pr_i_0, pr_i_1]; done) | (simp [pr_b, pr_i_0, pr_i_1, *]; done) | (simp_all [pr_b, pr_i_0, pr_i_1]; done)) (by first | exact Or.inl rfl | exact Or.inr rfl | exact pr_b01 _ | assumption) (by rfl)
          · simp only [ab_cmp, pr_i_0, pr_i_1] at h33
            first
            | contradiction
            | exact absurd trivial h33
            | exact absurd h33 (by decide)
            | exact absurd (Classical.not_not.mp h33) (by decide)
            | skip
              fail
        | succ dd ih =>
          intro i hi hn
          have e1 : ¬ nI (kwd k).length ≤ nI i := nI_ge (by omega) (by omega)
          have e2 : nI s + nI i = nI (s + i) := nI_add _ _
          have hba := c_byteAt (p := s + i) h M hr hw (by omega)
          rw [if_pos (by omega)] at hba
          obtain ⟨sc, sc1⟩ := kw_sc k i hk (by omega)
          have hi7 : i < 7 := by omega
          have hb2 := (w3 (s + i) (by omega)).2
          by_cases c3 : w.getD (s + i) 0 = (kwd k).getD i 0
          · have y3 : sb w (s + i) = nI ((kwd k).getD i 0) := (sb_eq hb2 sc1).mpr c3
            have hh := ih (i + 1) (by omega) (by show (nb _ i && !(!decide (w.getD (s + i) 0 = (kwd k).getD i 0))) = true; rw [hn, decide_eq_true c3]; rfl)
            rw [← nI_1] at hh
            refine pr_seq (pc' := 33) 3 rfl ⟨⟨⟨trivial, trivial⟩, (by first | assumption | (simp only [str_l ha, g7, e2, str_c ha hi7, pr_i_0, pr_i_1]; first | assumption | decide | exact ⟨by assumption, by assumption⟩ | exact ⟨Or.inl (by assumption), by assumption⟩ | omega) | decide | exact ⟨Or.inl (by assumption), by assumption⟩ | exact ⟨by assumption, by assumption⟩ | omega)⟩, (by exact ⟨str_r ha, Nat.le_of_ble_eq_true rfl⟩)⟩ ?_
            try simp only [str_l ha, g7, e2, str_c ha hi7, pr_i_0, pr_i_1]
            refine pr_ic rfl (fun h33 => ?_) (fun h33 => ?_)
            · simp only [ab_cmp, pr_i_0, pr_i_1] at h33
              first
              | contradiction
              | exact absurd trivial h33
              | exact absurd h33 (by decide)
              | exact absurd (Classical.not_not.mp h33) (by decide)
              | skip
                fail
            · simp only [ab_cmp, pr_i_0, pr_i_1] at h33
              first
              | contradiction
              | exact absurd trivial h33
              | exact absurd h33 (by decide)
              | exact absurd (Classical.not_not.mp h33) (by decide)
              | skip
                refine pr_seq (pc' := 43) 5 rfl ⟨⟨⟨⟨⟨trivial, (by first | assumption | (simp only [str_l ha, g7, e2, str_c ha hi7, pr_i_0, pr_i_1]; first | assumption | decide | exact ⟨by assumption, by assumption⟩ | exact ⟨Or.inl (by assumption), by assumption⟩ | omega) | decide | exact ⟨Or.inl (by assumption), by assumption⟩ | exact ⟨by assumption, by assumption⟩ | omega)⟩, (by first | assumption | (simp only [str_l ha, g7, e2, str_c ha hi7, pr_i_0, pr_i_1]; first | assumption | decide | exact ⟨by assumption, by assumption⟩ | exact ⟨Or.inl (by assumption), by assumption⟩ | omega) | decide | exact ⟨Or.inl (by assumption), by assumption⟩ | exact ⟨by assumption, by assumption⟩ | omega)⟩, (by first | assumption | (simp only [str_l ha, g7, e2, str_c ha hi7, pr_i_0, pr_i_1]; first | assumption | decide | exact ⟨by assumption, by assumption⟩ | exact ⟨Or.inl (by assumption), by assumption⟩ | omega) | decide | exact ⟨Or.inl (by assumption), by assumption⟩ | exact ⟨by assumption, by assumption⟩ | omega)⟩, trivial⟩, trivial⟩ ?_
                try simp only [str_l ha, g7, e2, str_c ha hi7, pr_i_0, pr_i_1]
                refine pr_cv [_] rfl rfl rfl rfl rfl (Nat.le_of_ble_eq_true rfl) (by first | assumption | (simp only [str_l ha, g7, e2, str_c ha hi7, pr_i_0, pr_i_1]; first | assumption | decide | exact ⟨by assumption, by assumption⟩ | exact ⟨Or.inl (by assumption), by assumption⟩ | omega) | decide | exact ⟨Or.inl (by assumption), by assumption⟩ | exact ⟨by assumption, by assumption⟩ | omega) (Nat.le_of_ble_eq_true rfl) (hba) ?_
                refine pr_seq (pc' := 51) 3 rfl ⟨⟨⟨trivial, (by first | assumption | (simp only [str_l ha, g7, e2, str_c ha hi7, pr_i_0, pr_i_1]; first | assumption | decide | exact ⟨by assumption, by assumption⟩ | exact ⟨Or.inl (by assumption), by assumption⟩ | omega) | decide | exact ⟨Or.inl (by assumption), by assumption⟩ | exact ⟨by assumption, by assumption⟩ | omega)⟩, trivial⟩, (by exact ⟨str_r ha, str_v ha (by omega), Nat.le_of_ble_eq_true rfl⟩)⟩ ?_
                try simp only [str_l ha, g7, e2, str_c ha hi7, pr_i_0, pr_i_1]
                refine pr_ic rfl (fun h51 => ?_) (fun h51 => ?_)
                · simp only [ab_cmp, pr_i_0, pr_i_1] at h51
                  first
                  | contradiction
                  | exact absurd trivial h51
                  | exact absurd h51 (by decide)
                  | exact absurd (Classical.not_not.mp h51) (by decide)
                  | skip
                    refine pr_seq (pc' := 28) 2 rfl ⟨⟨trivial, trivial⟩, trivial⟩ ?_
                    try simp only [str_l ha, g7, e2, str_c ha hi7, pr_i_0, pr_i_1]
                    exact hh
                · simp only [ab_cmp, pr_i_0, pr_i_1] at h51
                  first
                  | contradiction
                  | exact absurd trivial h51
                  | exact absurd h51 (by decide)
                  | exact absurd (Classical.not_not.mp h51) (by decide)
                  | skip
                    fail
          · have y3 : ¬ sb w (s + i) = nI ((kwd k).getD i 0) := fun q => c3 ((sb_eq hb2 sc1).mp q)
            rw [nb_false (q := i) (show (!decide (w.getD (s + i) 0 = (kwd k).getD i 0)) = true by rw [decide_eq_false c3]; rfl) (kwd k).length (by omega)]
            refine pr_seq (pc' := 33) 3 rfl ⟨⟨⟨trivial, trivial⟩, (by first | assumption | (simp only [str_l ha, g7, e2, str_c ha hi7, pr_i_0, pr_i_1]; first | assumption | decide | exact ⟨by assumption, by assumption⟩ | exact ⟨Or.inl (by assumption), by assumption⟩ | omega) | decide | exact ⟨Or.inl (by assumption), by assumption⟩ | exact ⟨by assumption, by assumption⟩ | omega)⟩, (by exact ⟨str_r ha, Nat.le_of_ble_eq_true rfl⟩)⟩ ?_
            try simp only [str_l ha, g7, e2, str_c ha hi7, pr_i_0, pr_i_1]
            refine pr_ic rfl (fun h33 => ?_) (fun h33 => ?_)
            · simp only [ab_cmp, pr_i_0, pr_i_1] at h33
              first
              | contradiction
              | exact absurd trivial h33
              | exact absurd h33 (by decide)
              | exact absurd (Classical.not_not.mp h33) (by decide)
              | skip
                fail
            · simp only [ab_cmp, pr_i_0, pr_i_1] at h33
              first
              | contradiction
              | exact absurd trivial h33
              | exact absurd h33 (by decide)
              | exact absurd (Classical.not_not.mp h33) (by decide)
              | skip
                refine pr_seq (pc' := 43) 5 rfl ⟨⟨⟨⟨⟨trivial, (by first | assumption | (simp only [str_l ha, g7, e2, str_c ha hi7, pr_i_0, pr_i_1]; first | assumption | decide | exact ⟨by assumption, by assumption⟩ | exact ⟨Or.inl (by assumption), by assumption⟩ | omega) | decide | exact ⟨Or.inl (by assumption), by assumption⟩ | exact ⟨by assumption, by assumption⟩ | omega)⟩, (by first | assumption | (simp only [str_l ha, g7, e2, str_c ha hi7, pr_i_0, pr_i_1]; first | assumption | decide | exact ⟨by assumption, by assumption⟩ | exact ⟨Or.inl (by assumption), by assumption⟩ | omega) | decide | exact ⟨Or.inl (by assumption), by assumption⟩ | exact ⟨by assumption, by assumption⟩ | omega)⟩, (by first | assumption | (simp only [str_l ha, g7, e2, str_c ha hi7, pr_i_0, pr_i_1]; first | assumption | decide | exact ⟨by assumption, by assumption⟩ | exact ⟨Or.inl (by assumption), by assumption⟩ | omega) | decide | exact ⟨Or.inl (by assumption), by assumption⟩ | exact ⟨by assumption, by assumption⟩ | omega)⟩, trivial⟩, trivial⟩ ?_
                try simp only [str_l ha, g7, e2, str_c ha hi7, pr_i_0, pr_i_1]
                refine pr_cv [_] rfl rfl rfl rfl rfl (Nat.le_of_ble_eq_true rfl) (by first | assumption | (simp only [str_l ha, g7, e2, str_c ha hi7, pr_i_0, pr_i_1]; first | assumption | decide | exact ⟨by assumption, by assumption⟩ | exact ⟨Or.inl (by assumption), by assumption⟩ | omega) | decide | exact ⟨Or.inl (by assumption), by assumption⟩ | exact ⟨by assumption, by assumption⟩ | omega) (Nat.le_of_ble_eq_true rfl) (hba) ?_
                refine pr_seq (pc' := 51) 3 rfl ⟨⟨⟨trivial, (by first | assumption | (simp only [str_l ha, g7, e2, str_c ha hi7, pr_i_0, pr_i_1]; first | assumption | decide | exact ⟨by assumption, by assumption⟩ | exact ⟨Or.inl (by assumption), by assumption⟩ | omega) | decide | exact ⟨Or.inl (by assumption), by assumption⟩ | exact ⟨by assumption, by assumption⟩ | omega)⟩, trivial⟩, (by exact ⟨str_r ha, str_v ha (by omega), Nat.le_of_ble_eq_true rfl⟩)⟩ ?_
                try simp only [str_l ha, g7, e2, str_c ha hi7, pr_i_0, pr_i_1]
                refine pr_ic rfl (fun h51 => ?_) (fun h51 => ?_)
                · simp only [ab_cmp, pr_i_0, pr_i_1] at h51
                  first
                  | contradiction
                  | exact absurd trivial h51
                  | exact absurd h51 (by decide)
                  | exact absurd (Classical.not_not.mp h51) (by decide)
                  | skip
                    fail
                · simp only [ab_cmp, pr_i_0, pr_i_1] at h51
                  first
                  | contradiction
                  | exact absurd trivial h51
                  | exact absurd h51 (by decide)
                  | exact absurd (Classical.not_not.mp h51) (by decide)
                  | skip
                    refine pr_seq (pc' := 55) 1 rfl ⟨trivial, trivial⟩ ?_
                    try simp only [str_l ha, g7, e2, str_c ha hi7, pr_i_0, pr_i_1]
                    exact pr_irM rfl (by first | rfl | (simp only [str_l ha, g7, e2, str_c ha hi7, pr_i_0, pr_i_1]; done) | (simp [pr_b, pr_i_0, pr_i_1, *]; done) | (simp_all [pr_b, pr_i_0, pr_i_1]; done)) (by first | exact Or.inl rfl | exact Or.inr rfl | exact pr_b01 _ | assumption) (by rfl)
      have h0 := loop (kwd k).length 0 (by omega) rfl
      refine pr_seq (pc' := 5) 3 rfl ⟨⟨⟨trivial, (by first | assumption | (simp only [str_l ha, g5, g6, g7, es, pr_i_0, pr_i_1]; first | assumption | decide | exact ⟨by assumption, by assumption⟩ | exact ⟨Or.inl (by assumption), by assumption⟩ | omega) | decide | exact ⟨Or.inl (by assumption), by assumption⟩ | exact ⟨by assumption, by assumption⟩ | omega)⟩, (by first | assumption | (simp only [str_l ha, g5, g6, g7, es, pr_i_0, pr_i_1]; first | assumption | decide | exact ⟨by assumption, by assumption⟩ | exact ⟨Or.inl (by assumption), by assumption⟩ | omega) | decide | exact ⟨Or.inl (by assumption), by assumption⟩ | exact ⟨by assumption, by assumption⟩ | omega)⟩, trivial⟩ ?_
      try simp only [str_l ha, g5, g6, g7, es, pr_i_0, pr_i_1]
      refine pr_ic rfl (fun h5 => ?_) (fun h5 => ?_)
      · simp only [ab_cmp, pr_i_0, pr_i_1] at h5
        first
        | contradiction
        | exact absurd trivial h5
        | exact absurd h5 (by decide)
        | exact absurd (Classical.not_not.mp h5) (by decide)
        | exact absurd rfl h5
        | skip
          fail
      · simp only [ab_cmp, pr_i_0, pr_i_1] at h5
        first
        | contradiction
        | exact absurd trivial h5
        | exact absurd h5 (by decide)
        | exact absurd (Classical.not_not.mp h5) (by decide)
        | exact absurd rfl h5
        | skip
          refine pr_seq (pc' := 21) 7 rfl ⟨⟨⟨⟨⟨⟨⟨trivial, (by first | assumption | (simp only [str_l ha, g5, g6, g7, es, pr_i_0, pr_i_1]; first | assumption | decide | exact ⟨by assumption, by assumption⟩ | exact ⟨Or.inl (by assumption), by assumption⟩ | omega) | decide | exact ⟨Or.inl (by assumption), by assumption⟩ | exact ⟨by assumption, by assumption⟩ | omega)⟩, (by first | assumption | (simp only [str_l ha, g5, g6, g7, es, pr_i_0, pr_i_1]; first | assumption | decide | exact ⟨by assumption, by assumption⟩ | exact ⟨Or.inl (by assumption), by assumption⟩ | omega) | decide | exact ⟨Or.inl (by assumption), by assumption⟩ | exact ⟨by assumption, by assumption⟩ | omega)⟩, (by first | assumption | (simp only [str_l ha, g5, g6, g7, es, pr_i_0, pr_i_1]; first | assumption | decide | exact ⟨by assumption, by assumption⟩ | exact ⟨Or.inl (by assumption), by assumption⟩ | omega) | decide | exact ⟨Or.inl (by assumption), by assumption⟩ | exact ⟨by assumption, by assumption⟩ | omega)⟩, (by first | assumption | (simp only [str_l ha, g5, g6, g7, es, pr_i_0, pr_i_1]; first | assumption | decide | exact ⟨by assumption, by assumption⟩ | exact ⟨Or.inl (by assumption), by assumption⟩ | omega) | decide | exact ⟨Or.inl (by assumption), by assumption⟩ | exact ⟨by assumption, by assumption⟩ | omega)⟩, trivial⟩, (by first | assumption | (simp only [str_l ha, g5, g6, g7, es, pr_i_0, pr_i_1]; first | assumption | decide | exact ⟨by assumption, by assumption⟩ | exact ⟨Or.inl (by assumption), by assumption⟩ | omega) | decide | exact ⟨Or.inl (by assumption), by assumption⟩ | exact ⟨by assumption, by assumption⟩ | omega)⟩, (by exact ⟨str_r ha, Nat.le_of_ble_eq_true rfl⟩)⟩ ?_
          try simp only [str_l ha, g5, g6, g7, es, pr_i_0, pr_i_1]
          refine pr_ic rfl (fun h21 => ?_) (fun h21 => ?_)
          · simp only [ab_cmp, pr_i_0, pr_i_1] at h21
            first
            | contradiction
            | exact absurd trivial h21
            | exact absurd h21 (by decide)
            | exact absurd (Classical.not_not.mp h21) (by decide)
            | exact absurd rfl h21
            | skip
              refine pr_seq (pc' := 28) 2 rfl ⟨⟨trivial, trivial⟩, trivial⟩ ?_
              try simp only [str_l ha, g5, g6, g7, es, pr_i_0, pr_i_1]
              exact h0
          · simp only [ab_cmp, pr_i_0, pr_i_1] at h21
            first
            | contradiction
            | exact absurd trivial h21
            | exact absurd h21 (by decide)
            | exact absurd (Classical.not_not.mp h21) (by decide)
            | exact absurd rfl h21
            | skip
              fail
    · rw [decide_eq_false c2]
      have c2' : ¬ nI (e - s) = nI (kwd k).length := nI_ne c2 (by omega) (by omega)
      refine pr_seq (pc' := 5) 3 rfl ⟨⟨⟨trivial, (by first | assumption | (simp only [str_l ha, g5, g6, g7, es, pr_i_0, pr_i_1]; first | assumption | decide | exact ⟨by assumption, by assumption⟩ | exact ⟨Or.inl (by assumption), by assumption⟩ | omega) | decide | exact ⟨Or.inl (by assumption), by assumption⟩ | exact ⟨by assumption, by assumption⟩ | omega)⟩, (by first | assumption | (simp only [str_l ha, g5, g6, g7, es, pr_i_0, pr_i_1]; first | assumption | decide | exact ⟨by assumption, by assumption⟩ | exact ⟨Or.inl (by assumption), by assumption⟩ | omega) | decide | exact ⟨Or.inl (by assumption), by assumption⟩ | exact ⟨by assumption, by assumption⟩ | omega)⟩, trivial⟩ ?_
      try simp only [str_l ha, g5, g6, g7, es, pr_i_0, pr_i_1]
      refine pr_ic rfl (fun h5 => ?_) (fun h5 => ?_)
      · simp only [ab_cmp, pr_i_0, pr_i_1] at h5
        first
        | contradiction
        | exact absurd trivial h5
        | exact absurd h5 (by decide)
        | exact absurd (Classical.not_not.mp h5) (by decide)
        | exact absurd rfl h5
        | skip
          refine pr_seq (pc' := 25) 1 rfl ⟨trivial, trivial⟩ ?_
          try simp only [str_l ha, g5, g6, g7, es, pr_i_0, pr_i_1]
          exact pr_irM rfl (by first | rfl | (simp only [str_l ha, g5, g6, g7, es, pr_i_0, pr_i_1]; done) | (simp [pr_b, pr_i_0, pr_i_1, *]; done) | (simp_all [pr_b, pr_i_0, pr_i_1]; done)) (by first | exact Or.inl rfl | exact Or.inr rfl | exact pr_b01 _ | assumption) (by rfl)
      · simp only [ab_cmp, pr_i_0, pr_i_1] at h5
        first
        | contradiction
        | exact absurd trivial h5
        | exact absurd h5 (by decide)
        | exact absurd (Classical.not_not.mp h5) (by decide)
        | exact absurd rfl h5
        | skip
          refine pr_seq (pc' := 21) 7 rfl ⟨⟨⟨⟨⟨⟨⟨trivial, (by first | assumption | (simp only [str_l ha, g5, g6, g7, es, pr_i_0, pr_i_1]; first | assumption | decide | exact ⟨by assumption, by assumption⟩ | exact ⟨Or.inl (by assumption), by assumption⟩ | omega) | decide | exact ⟨Or.inl (by assumption), by assumption⟩ | exact ⟨by assumption, by assumption⟩ | omega)⟩, (by first | assumption | (simp only [str_l ha, g5, g6, g7, es, pr_i_0, pr_i_1]; first | assumption | decide | exact ⟨by assumption, by assumption⟩ | exact ⟨Or.inl (by assumption), by assumption⟩ | omega) | decide | exact ⟨Or.inl (by assumption), by assumption⟩ | exact ⟨by assumption, by assumption⟩ | omega)⟩, (by first | assumption | (simp only [str_l ha, g5, g6, g7, es, pr_i_0, pr_i_1]; first | assumption | decide | exact ⟨by assumption, by assumption⟩ | exact ⟨Or.inl (by assumption), by assumption⟩ | omega) | decide | exact ⟨Or.inl (by assumption), by assumption⟩ | exact ⟨by assumption, by assumption⟩ | omega)⟩, (by first | assumption | (simp only [str_l ha, g5, g6, g7, es, pr_i_0, pr_i_1]; first | assumption | decide | exact ⟨by assumption, by assumption⟩ | exact ⟨Or.inl (by assumption), by assumption⟩ | omega) | decide | exact ⟨Or.inl (by assumption), by assumption⟩ | exact ⟨by assumption, by assumption⟩ | omega)⟩, trivial⟩, (by first | assumption | (simp only [str_l ha, g5, g6, g7, es, pr_i_0, pr_i_1]; first | assumption | decide | exact ⟨by assumption, by assumption⟩ | exact ⟨Or.inl (by assumption), by assumption⟩ | omega) | decide | exact ⟨Or.inl (by assumption), by assumption⟩ | exact ⟨by assumption, by assumption⟩ | omega)⟩, (by exact ⟨str_r ha, Nat.le_of_ble_eq_true rfl⟩)⟩ ?_
          try simp only [str_l ha, g5, g6, g7, es, pr_i_0, pr_i_1]
          refine pr_ic rfl (fun h21 => ?_) (fun h21 => ?_)
          · simp only [ab_cmp, pr_i_0, pr_i_1] at h21
            first
            | contradiction
            | exact absurd trivial h21
            | exact absurd h21 (by decide)
            | exact absurd (Classical.not_not.mp h21) (by decide)
            | exact absurd rfl h21
            | skip
              fail
          · simp only [ab_cmp, pr_i_0, pr_i_1] at h21
            first
            | contradiction
            | exact absurd trivial h21
            | exact absurd h21 (by decide)
            | exact absurd (Classical.not_not.mp h21) (by decide)
            | exact absurd rfl h21
            | skip
              refine pr_seq (pc' := 25) 1 rfl ⟨trivial, trivial⟩ ?_
              try simp only [str_l ha, g5, g6, g7, es, pr_i_0, pr_i_1]
              exact pr_irM rfl (by first | rfl | (simp only [str_l ha, g5, g6, g7, es, pr_i_0, pr_i_1]; done) | (simp [pr_b, pr_i_0, pr_i_1, *]; done) | (simp_all [pr_b, pr_i_0, pr_i_1]; done)) (by first | exact Or.inl rfl | exact Or.inr rfl | exact pr_b01 _ | assumption) (by rfl)
  · rw [decide_eq_false c1]
    have c1' : ¬ nI kd = 1 := nI_ne (b := 1) c1 (by omega) (by decide)
    refine pr_seq (pc' := 5) 3 rfl ⟨⟨⟨trivial, (by first | assumption | (simp only [g6, pr_i_0, pr_i_1]; first | assumption | decide | exact ⟨by assumption, by assumption⟩ | exact ⟨Or.inl (by assumption), by assumption⟩ | omega) | decide | exact ⟨Or.inl (by assumption), by assumption⟩ | exact ⟨by assumption, by assumption⟩ | omega)⟩, (by first | assumption | (simp only [g6, pr_i_0, pr_i_1]; first | assumption | decide | exact ⟨by assumption, by assumption⟩ | exact ⟨Or.inl (by assumption), by assumption⟩ | omega) | decide | exact ⟨Or.inl (by assumption), by assumption⟩ | exact ⟨by assumption, by assumption⟩ | omega)⟩, trivial⟩ ?_
    try simp only [g6, pr_i_0, pr_i_1]
    refine pr_ic rfl (fun h5 => ?_) (fun h5 => ?_)
    · simp only [ab_cmp, pr_i_0, pr_i_1] at h5
      first
      | contradiction
      | exact absurd trivial h5
      | exact absurd h5 (by decide)
      | exact absurd (Classical.not_not.mp h5) (by decide)
      | skip
        refine pr_seq (pc' := 25) 1 rfl ⟨trivial, trivial⟩ ?_
        try simp only [g6, pr_i_0, pr_i_1]
        exact pr_irM rfl (by first | rfl | (simp only [g6, pr_i_0, pr_i_1]; done) | (simp [pr_b, pr_i_0, pr_i_1, *]; done) | (simp_all [pr_b, pr_i_0, pr_i_1]; done)) (by first | exact Or.inl rfl | exact Or.inr rfl | exact pr_b01 _ | assumption) (by rfl)
    · simp only [ab_cmp, pr_i_0, pr_i_1] at h5
      first
      | contradiction
      | exact absurd trivial h5
      | exact absurd h5 (by decide)
      | exact absurd (Classical.not_not.mp h5) (by decide)
      | skip
        fail
theorem nm_push {I : Nat → Nat → Int32} {n l : Nat} {u : List Nat} (hv : nm_v I n u) (h20 : u.length < 20) (hl : l < 26) : nm_v (ab_u (ab_u I (n + 1) u.length (nI l)) n 1 (nI (u.length + 1))) n (u ++ [l]) := by
  obtain ⟨v1, v2, v3⟩ := hv
  refine ⟨by rw [ab_u_at, List.length_append]; rfl, by rw [List.length_append]; exact h20, fun j hj => ?_⟩
  rw [List.length_append] at hj
  have hj : j < u.length + 1 := hj
  rw [ab_u_ne (by omega)]
  by_cases e : j = u.length
  · subst e
    rw [ab_u_at, gd_r (Nat.le_refl _), Nat.sub_self]
    exact ⟨rfl, hl⟩
  · rw [ab_u_j e, gd_l (by omega)]
    exact v3 j (by omega)
theorem c_copyWord {t n s e : Nat} {w : List Nat} (h : ab_H) (M : ab_M) (hr : pr_Rd h M.2.2 t) (hw : tp_v M.1 w) (h7 : M.1 4 7 = nI s) (h5 : M.1 4 5 = nI e) (hse : s ≤ e) (he : e ≤ w.length) (h20 : e - s ≤ 20) (hn : pr_Nm h M.2.2 n) (hn5 : 5 < n) (hlt : ∀ i, s ≤ i → i < e → 97 ≤ w.getD i 0 ∧ w.getD i 0 ≤ 122) : pr_X pX6_copyWord [.ref 4, .ref n] h M (fun r M' => r = none ∧ M'.2 = M.2 ∧ nm_v M'.1 n (ltrs w s (e - s)) ∧ ∀ a, a ≠ n → a ≠ n + 1 → M'.1 a = M.1 a) := by
  have k4 := hr.1
  obtain ⟨m0, m1, m2, m3, m4⟩ := id hn
  obtain ⟨w1, w2, w3⟩ := id hw
  have n4 : (4 : Nat) ≠ 0 := by decide
  have loop : ∀ dd k, k + dd = e - s → ∀ I : Nat → Nat → Int32, (∀ a, a ≠ n → a ≠ n + 1 → I a = M.1 a) → nm_v I n (ltrs w s k) → pr_T pX6_copyWord 9 [some (.ref 4), some (.ref n), some (.int (nI (s + k)))] [] h (I, M.2.1, M.2.2) (fun r M' => r = none ∧ M'.2 = M.2 ∧ nm_v M'.1 n (ltrs w s (e - s)) ∧ ∀ a, a ≠ n → a ≠ n + 1 → M'.1 a = M.1 a) := by
    intro dd
    induction dd with
    | zero =>
      intro k hk I hf hv
      obtain rfl : k = e - s := by omega
      have x5 : I 4 5 = nI e := by rw [hf 4 (by omega) (by omega)]; exact h5
      have e1 : nI e ≤ nI (s + (e - s)) := nI_le (by omega) (by omega)
      refine pr_seqT (pc' := 14) 3 rfl ⟨⟨⟨trivial, trivial⟩, (by first | assumption | (simp only [x5, pr_8_97, pr_i_1]; first | assumption | decide | exact ⟨by assumption, by assumption⟩ | exact ⟨Or.inl (by assumption), by assumption⟩ | omega) | decide | exact ⟨Or.inl (by assumption), by assumption⟩ | exact ⟨by assumption, by assumption⟩ | omega)⟩, (by first | assumption | (simp only [x5, pr_8_97, pr_i_1]; first | assumption | decide | exact ⟨by assumption, by assumption⟩ | exact ⟨Or.inl (by assumption), by assumption⟩ | omega) | decide | exact ⟨Or.inl (by assumption), by assumption⟩ | exact ⟨by assumption, by assumption⟩ | omega)⟩ ?_
      try simp only [x5, pr_8_97, pr_i_1]
      refine pr_icT rfl (fun h14 => ?_) (fun h14 => ?_)
      · simp only [ab_cmp, pr_8_97, pr_i_1] at h14
        first
        | contradiction
        | exact absurd trivial h14
        | exact absurd h14 (by decide)
        | exact absurd (Classical.not_not.mp h14) (by decide)
        | skip
          exact pr_vrT rfl rfl (by exact ⟨rfl, rfl, hv, hf⟩)
      · simp only [ab_cmp, pr_8_97, pr_i_1] at h14
        first
        | contradiction
        | exact absurd trivial h14
        | exact absurd h14 (by decide)
        | exact absurd (Classical.not_not.mp h14) (by decide)
        | skip
          fail
    | succ dd ih =>
      intro k hk I hf hv
      have x5 : I 4 5 = nI e := by rw [hf 4 (by omega) (by omega)]; exact h5
      have e1 : ¬ nI e ≤ nI (s + k) := nI_ge (by omega) (by omega)
      have hwI : tp_v I w := tp_v_congr (hf 2 (by omega) (by omega)) (hf 3 (by omega) (by omega)) hw
      have hba := c_byteAt (p := s + k) h (I, M.2.1, M.2.2) hr hwI (by omega)
      obtain ⟨y1, y2⟩ := hlt (s + k) (by omega) (by omega)
      rw [if_pos (by omega)] at hba
      have eb : sb w (s + k) = nI (w.getD (s + k) 0) := (sb_eq (w3 _ (by omega)).2 (by omega)).mpr rfl
      have el : nI (w.getD (s + k) 0) - 97 = nI (w.getD (s + k) 0 - 97) := i_sub (b := 97) y1
      rw [eb] at hba
      have hvl := hv.1
      rw [ltrs_len] at hvl
      have had := c_add (k := k) (nI (w.getD (s + k) 0 - 97)) h (I, M.2.1, M.2.2) hn hvl (by omega)
      have hv2 := nm_push hv (l := w.getD (s + k) 0 - 97) (by rw [ltrs_len]; omega) (by omega)
      rw [ltrs_len, ← ltrs_s] at hv2
      have hh := ih (k + 1) (by omega) _ (fun a a1 a2 => by rw [ab_u_ne a1, ab_u_ne a2]; exact hf a a1 a2) hv2
      rw [← Nat.add_assoc, ← nI_1 (s + k)] at hh
      refine pr_seqT (pc' := 14) 3 rfl ⟨⟨⟨trivial, trivial⟩, (by first | assumption | (simp only [x5, el, pr_8_97, pr_i_1]; first | assumption | decide | exact ⟨by assumption, by assumption⟩ | exact ⟨Or.inl (by assumption), by assumption⟩ | omega) | decide | exact ⟨Or.inl (by assumption), by assumption⟩ | exact ⟨by assumption, by assumption⟩ | omega)⟩, (by first | assumption | (simp only [x5, el, pr_8_97, pr_i_1]; first | assumption | decide | exact ⟨by assumption, by assumption⟩ | exact ⟨Or.inl (by assumption), by assumption⟩ | omega) | decide | exact ⟨Or.inl (by assumption), by assumption⟩ | exact ⟨by assumption, by assumption⟩ | omega)⟩ ?_
      try simp only [x5, el, pr_8_97, pr_i_1]
      refine pr_icT rfl (fun h14 => ?_) (fun h14 => ?_)
      · simp only [ab_cmp, pr_8_97, pr_i_1] at h14
        first
        | contradiction
        | exact absurd trivial h14
        | exact absurd h14 (by decide)
        | exact absurd (Classical.not_not.mp h14) (by decide)
        | skip
          fail
      · simp only [ab_cmp, pr_8_97, pr_i_1] at h14
        first
        | contradiction
        | exact absurd trivial h14
        | exact absurd h14 (by decide)
        | exact absurd (Classical.not_not.mp h14) (by decide)
        | skip
          refine pr_seqT (pc' := 20) 3 rfl ⟨⟨⟨trivial, (by first | assumption | (simp only [x5, el, pr_8_97, pr_i_1]; first | assumption | decide | exact ⟨by assumption, by assumption⟩ | exact ⟨Or.inl (by assumption), by assumption⟩ | omega) | decide | exact ⟨Or.inl (by assumption), by assumption⟩ | exact ⟨by assumption, by assumption⟩ | omega)⟩, (by first | assumption | (simp only [x5, el, pr_8_97, pr_i_1]; first | assumption | decide | exact ⟨by assumption, by assumption⟩ | exact ⟨Or.inl (by assumption), by assumption⟩ | omega) | decide | exact ⟨Or.inl (by assumption), by assumption⟩ | exact ⟨by assumption, by assumption⟩ | omega)⟩, trivial⟩ ?_
          try simp only [x5, el, pr_8_97, pr_i_1]
          refine pr_cvT [_] rfl rfl rfl rfl rfl (Nat.le_of_ble_eq_true rfl) (by first | assumption | (simp only [x5, el, pr_8_97, pr_i_1]; first | assumption | decide | exact ⟨by assumption, by assumption⟩ | exact ⟨Or.inl (by assumption), by assumption⟩ | omega) | decide | exact ⟨Or.inl (by assumption), by assumption⟩ | exact ⟨by assumption, by assumption⟩ | omega) (Nat.le_of_ble_eq_true rfl) (hba) ?_
          refine pr_seqT (pc' := 26) 2 rfl ⟨⟨trivial, trivial⟩, trivial⟩ ?_
          try simp only [x5, el, pr_8_97, pr_i_1]
          refine pr_cvT [_] rfl rfl rfl rfl rfl (Nat.le_of_ble_eq_true rfl) (by first | assumption | (simp only [x5, el, pr_8_97, pr_i_1]; first | assumption | decide | exact ⟨by assumption, by assumption⟩ | exact ⟨Or.inl (by assumption), by assumption⟩ | omega) | decide | exact ⟨Or.inl (by assumption), by assumption⟩ | exact ⟨by assumption, by assumption⟩ | omega) (Nat.le_of_ble_eq_true rfl) (had) ?_
          refine pr_seqT (pc' := 9) 2 rfl ⟨⟨trivial, trivial⟩, trivial⟩ ?_
          try simp only [x5, el, pr_8_97, pr_i_1]
          exact hh
  have x7 : ab_u M.1 n 1 0 4 7 = nI s := by rw [ab_u_ne (by omega)]; exact h7
  have h0 := loop (e - s) 0 (by omega) (ab_u M.1 n 1 0) (fun a a1 a2 => ab_u_ne a1) ⟨ab_u_at, by show 0 ≤ 20; decide, fun j hj => absurd hj (by show ¬ j < 0; omega)⟩
  refine pr_seqT (pc' := 1) 1 rfl ⟨trivial, (by first | assumption | (simp only [x7, pr_8_97, pr_i_1]; first | assumption | decide | exact ⟨by assumption, by assumption⟩ | exact ⟨Or.inl (by assumption), by assumption⟩ | omega) | decide | exact ⟨Or.inl (by assumption), by assumption⟩ | exact ⟨by assumption, by assumption⟩ | omega)⟩ ?_
  try simp only [x7, pr_8_97, pr_i_1]
  refine pr_cvT [] rfl rfl rfl rfl rfl (Nat.le_of_ble_eq_true rfl) (by first | assumption | (simp only [x7, pr_8_97, pr_i_1]; first | assumption | decide | exact ⟨by assumption, by assumption⟩ | exact ⟨Or.inl (by assumption), by assumption⟩ | omega) | decide | exact ⟨Or.inl (by assumption), by assumption⟩ | exact ⟨by assumption, by assumption⟩ | omega) (Nat.le_of_ble_eq_true rfl) (c_clear h M hn) ?_
  refine pr_seqT (pc' := 9) 3 rfl ⟨⟨⟨trivial, (by first | assumption | (simp only [x7, pr_8_97, pr_i_1]; first | assumption | decide | exact ⟨by assumption, by assumption⟩ | exact ⟨Or.inl (by assumption), by assumption⟩ | omega) | decide | exact ⟨Or.inl (by assumption), by assumption⟩ | exact ⟨by assumption, by assumption⟩ | omega)⟩, (by first | assumption | (simp only [x7, pr_8_97, pr_i_1]; first | assumption | decide | exact ⟨by assumption, by assumption⟩ | exact ⟨Or.inl (by assumption), by assumption⟩ | omega) | decide | exact ⟨Or.inl (by assumption), by assumption⟩ | exact ⟨by assumption, by assumption⟩ | omega)⟩, trivial⟩ ?_
  try simp only [x7, pr_8_97, pr_i_1]
  exact h0
