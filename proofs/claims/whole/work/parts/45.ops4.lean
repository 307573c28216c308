
/-! ===== the class's operations, on: sheets, the tape, counts ===== -/
theorem cl_sh {I I' : Nat → Nat → Int32} {b : Bool} {X : St} {k : Nat} {o : Sh1} (hv : cl_v I b X) (hk : k < 4) (hf : ∀ a, a ≠ 164 + 2 * k → a ≠ 164 + 2 * k + 1 → I' a = I a) (ho : sh_v I' (164 + 2 * k) o) : cl_v I' b (X.1, X.2.1, va_up X.2.2.1 k o, X.2.2.2) := by
  have hb := tB_r b
  obtain ⟨v1, v2, v3, v4, v5, v6⟩ := hv
  refine ⟨?_, fun k' hk' => im_v_congr hk' (by rw [hf 65 (by omega) (by omega)]) (fun a x1 x2 => hf a (by omega) (by omega)) (v2 k' hk'), fun k' hk' => ?_, tp_v_congr (hf 2 (by omega) (by omega)) (hf 3 (by omega) (by omega)) v4, by rw [hf 1 (by omega) (by omega)]; exact v5, by rw [hf 1 (by omega) (by omega)]; exact v6⟩
  · obtain ⟨w1, w2, w3, w4, w5, w6, w7⟩ := v1
    refine ⟨ld_v_congr (fun a _ _ => hf a (by omega) (by omega)) w1, by rw [hf _ (by omega) (by omega)]; exact w2, w3, by rw [hf _ (by omega) (by omega)]; exact w4, w5, fun q w hq => ?_, fun i kk hkk => ?_⟩
    · have hl : q < X.1.2.1.length := (List.getElem?_eq_some_iff.mp hq).1
      exact ⟨nm_v_congr (hf _ (by omega) (by omega)) (hf _ (by omega) (by omega)) (w6 q w hq).1, (w6 q w hq).2⟩
    · rw [hf _ (by omega) (by omega), hf _ (by omega) (by omega)]
      exact w7 i kk hkk
  · show sh_v I' (164 + 2 * k') (va_up X.2.2.1 k o k')
    by_cases e : k' = k
    · subst e; rw [va_up_at]; exact ho
    · rw [va_up_n e]; exact sh_v_congr (hf _ (by omega) (by omega)) (hf _ (by omega) (by omega)) (v3 k' hk')
theorem cl_tape {I I' : Nat → Nat → Int32} {b : Bool} {X : St} {w : List Nat} (hv : cl_v I b X) (hf : ∀ a, a ≠ 2 → a ≠ 3 → I' a = I a) (ho : tp_v I' w) : cl_v I' b (X.1, X.2.1, X.2.2.1, w, X.2.2.2.2) := by
  have hb := tB_r b
  obtain ⟨v1, v2, v3, v4, v5, v6⟩ := hv
  refine ⟨?_, fun k' hk' => im_v_congr hk' (by rw [hf 65 (by omega) (by omega)]) (fun a x1 x2 => hf a (by omega) (by omega)) (v2 k' hk'), fun k' hk' => sh_v_congr (hf _ (by omega) (by omega)) (hf _ (by omega) (by omega)) (v3 k' hk'), ho, by rw [hf 1 (by omega) (by omega)]; exact v5, by rw [hf 1 (by omega) (by omega)]; exact v6⟩
  obtain ⟨w1, w2, w3, w4, w5, w6, w7⟩ := v1
  refine ⟨ld_v_congr (fun a _ _ => hf a (by omega) (by omega)) w1, by rw [hf _ (by omega) (by omega)]; exact w2, w3, by rw [hf _ (by omega) (by omega)]; exact w4, w5, fun q w hq => ?_, fun i kk hkk => ?_⟩
  · have hl : q < X.1.2.1.length := (List.getElem?_eq_some_iff.mp hq).1
    exact ⟨nm_v_congr (hf _ (by omega) (by omega)) (hf _ (by omega) (by omega)) (w6 q w hq).1, (w6 q w hq).2⟩
  · rw [hf _ (by omega) (by omega), hf _ (by omega) (by omega)]
    exact w7 i kk hkk
theorem p_sheet {b : Bool} {X : St} (x y n : Int32) (h : ab_H) (M : ab_M) (hl : Lay h M.2.2 b) (hv : cl_v M.1 b X) : pr_X pX10_sheet [.ref 1, .int x, .int y, .int n] h M (cp h M (f_sheet X x y n)) := by
  obtain ⟨k1, q0, q1, rc, q3, q4, q5, q6, q7, q8, r9⟩ := id hl.1
  unfold f_sheet
  have hp := c_within x 0 3 h M
  have hw := c_within y 0 2 h M
  rcases pr_rg x 3 3 rfl (by decide) with z | ⟨k, hk, rfl, z⟩
  · rw [z] at hp ⊢
    refine pr_seqT (pc' := 3) 3 rfl ⟨⟨⟨trivial, trivial⟩, trivial⟩, trivial⟩ ?_
    try simp only [q8, pr_8_40, pr_8_m14, pr_i_0, pr_i_1, pr_i_2, pr_i_3, pr_i_m1]
    refine pr_csT [_, _, _] rfl rfl rfl rfl rfl (Nat.le_of_ble_eq_true rfl) (Nat.le_of_ble_eq_true rfl) (hp) ?_
    refine pr_ifT rfl (fun h6 => ?_) (fun h6 => ?_)
    · simp only [ab_cmp, pr_8_40, pr_8_m14, pr_i_0, pr_i_1, pr_i_2, pr_i_3, pr_i_m1] at h6
      first
      | contradiction
      | exact absurd trivial h6
      | exact absurd h6 (by decide)
      | exact absurd (Classical.not_not.mp h6) (by decide)
      | skip
        refine pr_seqT (pc' := 25) 1 rfl ⟨trivial, trivial⟩ ?_
        try simp only [q8, pr_8_40, pr_8_m14, pr_i_0, pr_i_1, pr_i_2, pr_i_3, pr_i_m1]
        exact pr_irT rfl trivial (by exact cp_s hl hv)
    · simp only [ab_cmp, pr_8_40, pr_8_m14, pr_i_0, pr_i_1, pr_i_2, pr_i_3, pr_i_m1] at h6
      first
      | contradiction
      | exact absurd trivial h6
      | exact absurd h6 (by decide)
      | exact absurd (Classical.not_not.mp h6) (by decide)
      | skip
        refine pr_seqT (pc' := 12) 3 rfl ⟨⟨⟨trivial, trivial⟩, trivial⟩, trivial⟩ ?_
        try simp only [q8, pr_8_40, pr_8_m14, pr_i_0, pr_i_1, pr_i_2, pr_i_3, pr_i_m1]
        fail "no call@12 yX10_within"
  · rw [z] at hp ⊢
    rcases pr_rg y 2 2 rfl (by decide) with z' | ⟨l, hl2, rfl, z'⟩
    · rw [z'] at hw ⊢
      refine pr_seqT (pc' := 3) 3 rfl ⟨⟨⟨trivial, trivial⟩, trivial⟩, trivial⟩ ?_
      try simp only [q8, pr_8_40, pr_8_m14, pr_i_0, pr_i_1, pr_i_2, pr_i_3, pr_i_m1]
      refine pr_csT [_, _, _] rfl rfl rfl rfl rfl (Nat.le_of_ble_eq_true rfl) (Nat.le_of_ble_eq_true rfl) (hp) ?_
      refine pr_ifT rfl (fun h6 => ?_) (fun h6 => ?_)
      · simp only [ab_cmp, pr_8_40, pr_8_m14, pr_i_0, pr_i_1, pr_i_2, pr_i_3, pr_i_m1] at h6
        first
        | contradiction
        | exact absurd trivial h6
        | exact absurd h6 (by decide)
        | exact absurd (Classical.not_not.mp h6) (by decide)
        | skip
          refine pr_seqT (pc' := 25) 1 rfl ⟨trivial, trivial⟩ ?_
          try simp only [q8, pr_8_40, pr_8_m14, pr_i_0, pr_i_1, pr_i_2, pr_i_3, pr_i_m1]
          exact pr_irT rfl trivial (by exact cp_s hl hv)
      · simp only [ab_cmp, pr_8_40, pr_8_m14, pr_i_0, pr_i_1, pr_i_2, pr_i_3, pr_i_m1] at h6
        first
        | contradiction
        | exact absurd trivial h6
        | exact absurd h6 (by decide)
        | exact absurd (Classical.not_not.mp h6) (by decide)
        | skip
          refine pr_seqT (pc' := 12) 3 rfl ⟨⟨⟨trivial, trivial⟩, trivial⟩, trivial⟩ ?_
          try simp only [q8, pr_8_40, pr_8_m14, pr_i_0, pr_i_1, pr_i_2, pr_i_3, pr_i_m1]
          refine pr_csT [_, _, _] rfl rfl rfl rfl rfl (Nat.le_of_ble_eq_true rfl) (Nat.le_of_ble_eq_true rfl) (hw) ?_
          refine pr_ifT rfl (fun h15 => ?_) (fun h15 => ?_)
          · simp only [ab_cmp, pr_8_40, pr_8_m14, pr_i_0, pr_i_1, pr_i_2, pr_i_3, pr_i_m1] at h15
            first
            | contradiction
            | exact absurd trivial h15
            | exact absurd h15 (by decide)
            | exact absurd (Classical.not_not.mp h15) (by decide)
            | skip
              refine pr_seqT (pc' := 25) 1 rfl ⟨trivial, trivial⟩ ?_
              try simp only [q8, pr_8_40, pr_8_m14, pr_i_0, pr_i_1, pr_i_2, pr_i_3, pr_i_m1]
              exact pr_irT rfl trivial (by exact cp_s hl hv)
          · simp only [ab_cmp, pr_8_40, pr_8_m14, pr_i_0, pr_i_1, pr_i_2, pr_i_3, pr_i_m1] at h15
            first
            | contradiction
            | exact absurd trivial h15
            | exact absurd h15 (by decide)
            | exact absurd (Classical.not_not.mp h15) (by decide)
            | skip
              refine pr_seqT (pc' := 21) 2 rfl ⟨⟨trivial, trivial⟩, trivial⟩ ?_
              try simp only [q8, pr_8_40, pr_8_m14, pr_i_0, pr_i_1, pr_i_2, pr_i_3, pr_i_m1]
              refine pr_icT rfl (fun h21 => ?_) (fun h21 => ?_)
              · simp only [ab_cmp, pr_8_40, pr_8_m14, pr_i_0, pr_i_1, pr_i_2, pr_i_3, pr_i_m1] at h21
                first
                | contradiction
                | exact absurd trivial h21
                | exact absurd h21 (by decide)
                | exact absurd (Classical.not_not.mp h21) (by decide)
                | skip
                  refine pr_seqT (pc' := 27) 1 rfl ⟨trivial, trivial⟩ ?_
                  try simp only [q8, pr_8_40, pr_8_m14, pr_i_0, pr_i_1, pr_i_2, pr_i_3, pr_i_m1]
                  refine pr_ifT rfl (fun h27 => ?_) (fun h27 => ?_)
                  · simp only [ab_cmp, pr_8_40, pr_8_m14, pr_i_0, pr_i_1, pr_i_2, pr_i_3, pr_i_m1] at h27
                    first
                    | contradiction
                    | exact absurd trivial h27
                    | exact absurd h27 (by decide)
                    | exact absurd (Classical.not_not.mp h27) (by decide)
                    | skip
                      refine pr_seqT (pc' := 41) 6 rfl ⟨⟨⟨⟨⟨⟨trivial, (by first | assumption | (simp only [q8, pr_8_40, pr_8_m14, pr_i_0, pr_i_1, pr_i_2, pr_i_3, pr_i_m1]; first | assumption | decide | exact ⟨by assumption, by assumption⟩ | exact ⟨Or.inl (by assumption), by assumption⟩ | omega) | decide | exact ⟨Or.inl (by assumption), by assumption⟩ | exact ⟨by assumption, by assumption⟩ | omega)⟩, (by first | assumption | (simp only [q8, pr_8_40, pr_8_m14, pr_i_0, pr_i_1, pr_i_2, pr_i_3, pr_i_m1]; first | assumption | decide | exact ⟨by assumption, by assumption⟩ | exact ⟨Or.inl (by assumption), by assumption⟩ | omega) | decide | exact ⟨Or.inl (by assumption), by assumption⟩ | exact ⟨by assumption, by assumption⟩ | omega)⟩, trivial⟩, (by first | assumption | (simp only [q8, pr_8_40, pr_8_m14, pr_i_0, pr_i_1, pr_i_2, pr_i_3, pr_i_m1]; first | assumption | decide | exact ⟨by assumption, by assumption⟩ | exact ⟨Or.inl (by assumption), by assumption⟩ | omega) | decide | exact ⟨Or.inl (by assumption), by assumption⟩ | exact ⟨by assumption, by assumption⟩ | omega)⟩, trivial⟩, trivial⟩ ?_
                      try simp only [q8, pr_8_40, pr_8_m14, pr_i_0, pr_i_1, pr_i_2, pr_i_3, pr_i_m1]
                      fail "no call@41 yX7_begin"
                  · simp only [ab_cmp, pr_8_40, pr_8_m14, pr_i_0, pr_i_1, pr_i_2, pr_i_3, pr_i_m1] at h27
                    first
                    | contradiction
                    | exact absurd trivial h27
                    | exact absurd h27 (by decide)
                    | exact absurd (Classical.not_not.mp h27) (by decide)
                    | skip
                      refine pr_seqT (pc' := 32) 1 rfl ⟨trivial, trivial⟩ ?_
                      try simp only [q8, pr_8_40, pr_8_m14, pr_i_0, pr_i_1, pr_i_2, pr_i_3, pr_i_m1]
                      exact pr_irT rfl trivial (by first | rfl | (simp only [q8, pr_8_40, pr_8_m14, pr_i_0, pr_i_1, pr_i_2, pr_i_3, pr_i_m1]; done) | (simp [pr_b, pr_8_40, pr_8_m14, pr_i_0, pr_i_1, pr_i_2, pr_i_3, pr_i_m1, *]; done) | (simp_all [pr_b, pr_8_40, pr_8_m14, pr_i_0, pr_i_1, pr_i_2, pr_i_3, pr_i_m1]; done))
              · simp only [ab_cmp, pr_8_40, pr_8_m14, pr_i_0, pr_i_1, pr_i_2, pr_i_3, pr_i_m1] at h21
                first
                | contradiction
                | exact absurd trivial h21
                | exact absurd h21 (by decide)
                | exact absurd (Classical.not_not.mp h21) (by decide)
                | skip
                  refine pr_seqT (pc' := 25) 1 rfl ⟨trivial, trivial⟩ ?_
                  try simp only [q8, pr_8_40, pr_8_m14, pr_i_0, pr_i_1, pr_i_2, pr_i_3, pr_i_m1]
                  exact pr_irT rfl trivial (by exact cp_s hl hv)
    · rw [z'] at hw ⊢
      by_cases c4 : (40 : Int32) < n
      · have c4' : ¬ n ≤ 40 := Int32.not_le.mpr c4
        rw [decide_eq_true c4]
        refine pr_seqT (pc' := 3) 3 rfl ⟨⟨⟨trivial, trivial⟩, trivial⟩, trivial⟩ ?_
        try simp only [q8, pr_8_40, pr_8_m14, pr_i_0, pr_i_1, pr_i_2, pr_i_3, pr_i_m1]
        refine pr_csT [_, _, _] rfl rfl rfl rfl rfl (Nat.le_of_ble_eq_true rfl) (Nat.le_of_ble_eq_true rfl) (hp) ?_
        refine pr_ifT rfl (fun h6 => ?_) (fun h6 => ?_)
        · simp only [ab_cmp, pr_8_40, pr_8_m14, pr_i_0, pr_i_1, pr_i_2, pr_i_3, pr_i_m1] at h6
          first
          | contradiction
          | exact absurd trivial h6
          | exact absurd h6 (by decide)
          | exact absurd (Classical.not_not.mp h6) (by decide)
          | skip
            refine pr_seqT (pc' := 25) 1 rfl ⟨trivial, trivial⟩ ?_
            try simp only [q8, pr_8_40, pr_8_m14, pr_i_0, pr_i_1, pr_i_2, pr_i_3, pr_i_m1]
            exact pr_irT rfl trivial (by exact cp_s hl hv)
        · simp only [ab_cmp, pr_8_40, pr_8_m14, pr_i_0, pr_i_1, pr_i_2, pr_i_3, pr_i_m1] at h6
          first
          | contradiction
          | exact absurd trivial h6
          | exact absurd h6 (by decide)
          | exact absurd (Classical.not_not.mp h6) (by decide)
          | skip
            refine pr_seqT (pc' := 12) 3 rfl ⟨⟨⟨trivial, trivial⟩, trivial⟩, trivial⟩ ?_
            try simp only [q8, pr_8_40, pr_8_m14, pr_i_0, pr_i_1, pr_i_2, pr_i_3, pr_i_m1]
            refine pr_csT [_, _, _] rfl rfl rfl rfl rfl (Nat.le_of_ble_eq_true rfl) (Nat.le_of_ble_eq_true rfl) (hw) ?_
            refine pr_ifT rfl (fun h15 => ?_) (fun h15 => ?_)
            · simp only [ab_cmp, pr_8_40, pr_8_m14, pr_i_0, pr_i_1, pr_i_2, pr_i_3, pr_i_m1] at h15
              first
              | contradiction
              | exact absurd trivial h15
              | exact absurd h15 (by decide)
              | exact absurd (Classical.not_not.mp h15) (by decide)
              | skip
                refine pr_seqT (pc' := 25) 1 rfl ⟨trivial, trivial⟩ ?_
                try simp only [q8, pr_8_40, pr_8_m14, pr_i_0, pr_i_1, pr_i_2, pr_i_3, pr_i_m1]
                exact pr_irT rfl trivial (by exact cp_s hl hv)
            · simp only [ab_cmp, pr_8_40, pr_8_m14, pr_i_0, pr_i_1, pr_i_2, pr_i_3, pr_i_m1] at h15
              first
              | contradiction
              | exact absurd trivial h15
              | exact absurd h15 (by decide)
              | exact absurd (Classical.not_not.mp h15) (by decide)
              | skip
                refine pr_seqT (pc' := 21) 2 rfl ⟨⟨trivial, trivial⟩, trivial⟩ ?_
                try simp only [q8, pr_8_40, pr_8_m14, pr_i_0, pr_i_1, pr_i_2, pr_i_3, pr_i_m1]
                refine pr_icT rfl (fun h21 => ?_) (fun h21 => ?_)
                · simp only [ab_cmp, pr_8_40, pr_8_m14, pr_i_0, pr_i_1, pr_i_2, pr_i_3, pr_i_m1] at h21
                  first
                  | contradiction
                  | exact absurd trivial h21
                  | exact absurd h21 (by decide)
                  | exact absurd (Classical.not_not.mp h21) (by decide)
                  | skip
                    refine pr_seqT (pc' := 27) 1 rfl ⟨trivial, trivial⟩ ?_
                    try simp only [q8, pr_8_40, pr_8_m14, pr_i_0, pr_i_1, pr_i_2, pr_i_3, pr_i_m1]
                    refine pr_ifT rfl (fun h27 => ?_) (fun h27 => ?_)
                    · simp only [ab_cmp, pr_8_40, pr_8_m14, pr_i_0, pr_i_1, pr_i_2, pr_i_3, pr_i_m1] at h27
                      first
                      | contradiction
                      | exact absurd trivial h27
                      | exact absurd h27 (by decide)
                      | exact absurd (Classical.not_not.mp h27) (by decide)
                      | skip
                        refine pr_seqT (pc' := 41) 6 rfl ⟨⟨⟨⟨⟨⟨trivial, (by first | assumption | (simp only [q8, pr_8_40, pr_8_m14, pr_i_0, pr_i_1, pr_i_2, pr_i_3, pr_i_m1]; first | assumption | decide | exact ⟨by assumption, by assumption⟩ | exact ⟨Or.inl (by assumption), by assumption⟩ | omega) | decide | exact ⟨Or.inl (by assumption), by assumption⟩ | exact ⟨by assumption, by assumption⟩ | omega)⟩, (by first | assumption | (simp only [q8, pr_8_40, pr_8_m14, pr_i_0, pr_i_1, pr_i_2, pr_i_3, pr_i_m1]; first | assumption | decide | exact ⟨by assumption, by assumption⟩ | exact ⟨Or.inl (by assumption), by assumption⟩ | omega) | decide | exact ⟨Or.inl (by assumption), by assumption⟩ | exact ⟨by assumption, by assumption⟩ | omega)⟩, trivial⟩, (by first | assumption | (simp only [q8, pr_8_40, pr_8_m14, pr_i_0, pr_i_1, pr_i_2, pr_i_3, pr_i_m1]; first | assumption | decide | exact ⟨by assumption, by assumption⟩ | exact ⟨Or.inl (by assumption), by assumption⟩ | omega) | decide | exact ⟨Or.inl (by assumption), by assumption⟩ | exact ⟨by assumption, by assumption⟩ | omega)⟩, trivial⟩, trivial⟩ ?_
                        try simp only [q8, pr_8_40, pr_8_m14, pr_i_0, pr_i_1, pr_i_2, pr_i_3, pr_i_m1]
                        fail "no call@41 yX7_begin"
                    · simp only [ab_cmp, pr_8_40, pr_8_m14, pr_i_0, pr_i_1, pr_i_2, pr_i_3, pr_i_m1] at h27
                      first
                      | contradiction
                      | exact absurd trivial h27
                      | exact absurd h27 (by decide)
                      | exact absurd (Classical.not_not.mp h27) (by decide)
                      | skip
                        refine pr_seqT (pc' := 32) 1 rfl ⟨trivial, trivial⟩ ?_
                        try simp only [q8, pr_8_40, pr_8_m14, pr_i_0, pr_i_1, pr_i_2, pr_i_3, pr_i_m1]
                        exact pr_irT rfl trivial (by first | rfl | (simp only [q8, pr_8_40, pr_8_m14, pr_i_0, pr_i_1, pr_i_2, pr_i_3, pr_i_m1]; done) | (simp [pr_b, pr_8_40, pr_8_m14, pr_i_0, pr_i_1, pr_i_2, pr_i_3, pr_i_m1, *]; done) | (simp_all [pr_b, pr_8_40, pr_8_m14, pr_i_0, pr_i_1, pr_i_2, pr_i_3, pr_i_m1]; done))
                · simp only [ab_cmp, pr_8_40, pr_8_m14, pr_i_0, pr_i_1, pr_i_2, pr_i_3, pr_i_m1] at h21
                  first
                  | contradiction
                  | exact absurd trivial h21
                  | exact absurd h21 (by decide)
                  | exact absurd (Classical.not_not.mp h21) (by decide)
                  | skip
                    refine pr_seqT (pc' := 25) 1 rfl ⟨trivial, trivial⟩ ?_
                    try simp only [q8, pr_8_40, pr_8_m14, pr_i_0, pr_i_1, pr_i_2, pr_i_3, pr_i_m1]
                    exact pr_irT rfl trivial (by exact cp_s hl hv)
      · have c4' : n ≤ 40 := Int32.not_lt.mp c4
        rw [decide_eq_false c4, if_pos (show (true && true && !false) = true from rfl)]
        by_cases c5 : n < 0
        · have c5' : ¬ 0 ≤ n := Int32.not_le.mpr c5
          rw [if_pos c5]
          refine pr_seqT (pc' := 3) 3 rfl ⟨⟨⟨trivial, trivial⟩, trivial⟩, trivial⟩ ?_
          try simp only [q8, pr_8_40, pr_8_m14, pr_i_0, pr_i_1, pr_i_2, pr_i_3, pr_i_m1]
          refine pr_csT [_, _, _] rfl rfl rfl rfl rfl (Nat.le_of_ble_eq_true rfl) (Nat.le_of_ble_eq_true rfl) (hp) ?_
          refine pr_ifT rfl (fun h6 => ?_) (fun h6 => ?_)
          · simp only [ab_cmp, pr_8_40, pr_8_m14, pr_i_0, pr_i_1, pr_i_2, pr_i_3, pr_i_m1] at h6
            first
            | contradiction
            | exact absurd trivial h6
            | exact absurd h6 (by decide)
            | exact absurd (Classical.not_not.mp h6) (by decide)
            | skip
              refine pr_seqT (pc' := 25) 1 rfl ⟨trivial, trivial⟩ ?_
              try simp only [q8, pr_8_40, pr_8_m14, pr_i_0, pr_i_1, pr_i_2, pr_i_3, pr_i_m1]
              exact pr_irT rfl trivial (by first | rfl | (simp only [q8, pr_8_40, pr_8_m14, pr_i_0, pr_i_1, pr_i_2, pr_i_3, pr_i_m1]; done) | (simp [pr_b, pr_8_40, pr_8_m14, pr_i_0, pr_i_1, pr_i_2, pr_i_3, pr_i_m1, *]; done) | (simp_all [pr_b, pr_8_40, pr_8_m14, pr_i_0, pr_i_1, pr_i_2, pr_i_3, pr_i_m1]; done))
          · simp only [ab_cmp, pr_8_40, pr_8_m14, pr_i_0, pr_i_1, pr_i_2, pr_i_3, pr_i_m1] at h6
            first
            | contradiction
            | exact absurd trivial h6
            | exact absurd h6 (by decide)
            | exact absurd (Classical.not_not.mp h6) (by decide)
            | skip
              refine pr_seqT (pc' := 12) 3 rfl ⟨⟨⟨trivial, trivial⟩, trivial⟩, trivial⟩ ?_
              try simp only [q8, pr_8_40, pr_8_m14, pr_i_0, pr_i_1, pr_i_2, pr_i_3, pr_i_m1]
              refine pr_csT [_, _, _] rfl rfl rfl rfl rfl (Nat.le_of_ble_eq_true rfl) (Nat.le_of_ble_eq_true rfl) (hw) ?_
              refine pr_ifT rfl (fun h15 => ?_) (fun h15 => ?_)
              · simp only [ab_cmp, pr_8_40, pr_8_m14, pr_i_0, pr_i_1, pr_i_2, pr_i_3, pr_i_m1] at h15
                first
                | contradiction
                | exact absurd trivial h15
                | exact absurd h15 (by decide)
                | exact absurd (Classical.not_not.mp h15) (by decide)
                | skip
                  refine pr_seqT (pc' := 25) 1 rfl ⟨trivial, trivial⟩ ?_
                  try simp only [q8, pr_8_40, pr_8_m14, pr_i_0, pr_i_1, pr_i_2, pr_i_3, pr_i_m1]
                  exact pr_irT rfl trivial (by first | rfl | (simp only [q8, pr_8_40, pr_8_m14, pr_i_0, pr_i_1, pr_i_2, pr_i_3, pr_i_m1]; done) | (simp [pr_b, pr_8_40, pr_8_m14, pr_i_0, pr_i_1, pr_i_2, pr_i_3, pr_i_m1, *]; done) | (simp_all [pr_b, pr_8_40, pr_8_m14, pr_i_0, pr_i_1, pr_i_2, pr_i_3, pr_i_m1]; done))
              · simp only [ab_cmp, pr_8_40, pr_8_m14, pr_i_0, pr_i_1, pr_i_2, pr_i_3, pr_i_m1] at h15
                first
                | contradiction
                | exact absurd trivial h15
                | exact absurd h15 (by decide)
                | exact absurd (Classical.not_not.mp h15) (by decide)
                | skip
                  refine pr_seqT (pc' := 21) 2 rfl ⟨⟨trivial, trivial⟩, trivial⟩ ?_
                  try simp only [q8, pr_8_40, pr_8_m14, pr_i_0, pr_i_1, pr_i_2, pr_i_3, pr_i_m1]
                  refine pr_icT rfl (fun h21 => ?_) (fun h21 => ?_)
                  · simp only [ab_cmp, pr_8_40, pr_8_m14, pr_i_0, pr_i_1, pr_i_2, pr_i_3, pr_i_m1] at h21
                    first
                    | contradiction
                    | exact absurd trivial h21
                    | exact absurd h21 (by decide)
                    | exact absurd (Classical.not_not.mp h21) (by decide)
                    | skip
                      refine pr_seqT (pc' := 27) 1 rfl ⟨trivial, trivial⟩ ?_
                      try simp only [q8, pr_8_40, pr_8_m14, pr_i_0, pr_i_1, pr_i_2, pr_i_3, pr_i_m1]
                      refine pr_ifT rfl (fun h27 => ?_) (fun h27 => ?_)
                      · simp only [ab_cmp, pr_8_40, pr_8_m14, pr_i_0, pr_i_1, pr_i_2, pr_i_3, pr_i_m1] at h27
                        first
                        | contradiction
                        | exact absurd trivial h27
                        | exact absurd h27 (by decide)
                        | exact absurd (Classical.not_not.mp h27) (by decide)
                        | skip
                          refine pr_seqT (pc' := 41) 6 rfl ⟨⟨⟨⟨⟨⟨trivial, (by first | assumption | (simp only [q8, pr_8_40, pr_8_m14, pr_i_0, pr_i_1, pr_i_2, pr_i_3, pr_i_m1]; first | assumption | decide | exact ⟨by assumption, by assumption⟩ | exact ⟨Or.inl (by assumption), by assumption⟩ | omega) | decide | exact ⟨Or.inl (by assumption), by assumption⟩ | exact ⟨by assumption, by assumption⟩ | omega)⟩, (by first | assumption | (simp only [q8, pr_8_40, pr_8_m14, pr_i_0, pr_i_1, pr_i_2, pr_i_3, pr_i_m1]; first | assumption | decide | exact ⟨by assumption, by assumption⟩ | exact ⟨Or.inl (by assumption), by assumption⟩ | omega) | decide | exact ⟨Or.inl (by assumption), by assumption⟩ | exact ⟨by assumption, by assumption⟩ | omega)⟩, trivial⟩, (by first | assumption | (simp only [q8, pr_8_40, pr_8_m14, pr_i_0, pr_i_1, pr_i_2, pr_i_3, pr_i_m1]; first | assumption | decide | exact ⟨by assumption, by assumption⟩ | exact ⟨Or.inl (by assumption), by assumption⟩ | omega) | decide | exact ⟨Or.inl (by assumption), by assumption⟩ | exact ⟨by assumption, by assumption⟩ | omega)⟩, trivial⟩, trivial⟩ ?_
                          try simp only [q8, pr_8_40, pr_8_m14, pr_i_0, pr_i_1, pr_i_2, pr_i_3, pr_i_m1]
                          fail "no call@41 yX7_begin"
                      · simp only [ab_cmp, pr_8_40, pr_8_m14, pr_i_0, pr_i_1, pr_i_2, pr_i_3, pr_i_m1] at h27
                        first
                        | contradiction
                        | exact absurd trivial h27
                        | exact absurd h27 (by decide)
                        | exact absurd (Classical.not_not.mp h27) (by decide)
                        | skip
                          refine pr_seqT (pc' := 32) 1 rfl ⟨trivial, trivial⟩ ?_
                          try simp only [q8, pr_8_40, pr_8_m14, pr_i_0, pr_i_1, pr_i_2, pr_i_3, pr_i_m1]
                          exact pr_irT rfl trivial (by exact cp_s hl hv)
                  · simp only [ab_cmp, pr_8_40, pr_8_m14, pr_i_0, pr_i_1, pr_i_2, pr_i_3, pr_i_m1] at h21
                    first
                    | contradiction
                    | exact absurd trivial h21
                    | exact absurd h21 (by decide)
                    | exact absurd (Classical.not_not.mp h21) (by decide)
                    | skip
                      refine pr_seqT (pc' := 25) 1 rfl ⟨trivial, trivial⟩ ?_
                      try simp only [q8, pr_8_40, pr_8_m14, pr_i_0, pr_i_1, pr_i_2, pr_i_3, pr_i_m1]
                      exact pr_irT rfl trivial (by first | rfl | (simp only [q8, pr_8_40, pr_8_m14, pr_i_0, pr_i_1, pr_i_2, pr_i_3, pr_i_m1]; done) | (simp [pr_b, pr_8_40, pr_8_m14, pr_i_0, pr_i_1, pr_i_2, pr_i_3, pr_i_m1, *]; done) | (simp_all [pr_b, pr_8_40, pr_8_m14, pr_i_0, pr_i_1, pr_i_2, pr_i_3, pr_i_m1]; done))
        · have c5' : 0 ≤ n := Int32.not_lt.mp c5
          rw [if_neg c5]
          obtain ⟨m, hm, rfl⟩ := nI_of2 (n := 40) (M := 40) (by decide) c5 c4'
          have e4 : (nI k).toNatClampNeg = k := nI_clamp (by omega)
          have e5 : (nI l).toNatClampNeg = l := nI_clamp (by omega)
          have e6 : (nI m).toNatClampNeg = m := nI_clamp (by omega)
          obtain ⟨⟨sa, sb⟩, hs⟩ := hl.2.2.2.1
          obtain ⟨i1, i2⟩ := hs k (by omega)
          have si := i2.2.1
          have vi : (24 ≤ ab_k h 66 ∧ ab_k h 66 ≤ 27) ∧ vp_in (nI k) (ab_n h 66) := ⟨by rw [sa]; decide, by rw [sb]; exact vp_in_nI (by omega) (by decide)⟩
          have far : ∀ a, a ≠ 164 + 2 * k → a ≠ 164 + 2 * k + 1 → sh_new M.1 (164 + 2 * k) (nI l) (nI m) a = M.1 a := fun a a1 a2 => by
            funext j
            unfold sh_new sh_z
            rw [if_neg (by omega), ab_u_ne a1, ab_u_ne a1, ab_u_ne a1]
          have at0 : ∀ j, sh_new M.1 (164 + 2 * k) (nI l) (nI m) (164 + 2 * k) j = ab_u (ab_u (ab_u M.1 (164 + 2 * k) 1 1) (164 + 2 * k) 2 (nI l)) (164 + 2 * k) 3 (nI m) (164 + 2 * k) j := fun j => by
            unfold sh_new sh_z
            rw [if_neg (by omega)]
          rw [e4, e5, e6]
          refine pr_seqT (pc' := 3) 3 rfl ⟨⟨⟨trivial, trivial⟩, trivial⟩, trivial⟩ ?_
          try simp only [q8, e4, i1, pr_8_40, pr_8_m14, pr_i_0, pr_i_1, pr_i_2, pr_i_3, pr_i_m1]
          refine pr_csT [_, _, _] rfl rfl rfl rfl rfl (Nat.le_of_ble_eq_true rfl) (Nat.le_of_ble_eq_true rfl) (hp) ?_
          refine pr_ifT rfl (fun h6 => ?_) (fun h6 => ?_)
          · simp only [ab_cmp, pr_8_40, pr_8_m14, pr_i_0, pr_i_1, pr_i_2, pr_i_3, pr_i_m1] at h6
            first
            | contradiction
            | exact absurd trivial h6
            | exact absurd h6 (by decide)
            | exact absurd (Classical.not_not.mp h6) (by decide)
            | skip
              refine pr_seqT (pc' := 25) 1 rfl ⟨trivial, trivial⟩ ?_
              try simp only [q8, e4, i1, pr_8_40, pr_8_m14, pr_i_0, pr_i_1, pr_i_2, pr_i_3, pr_i_m1]
              exact pr_irT rfl trivial (by first | rfl | (simp only [q8, e4, i1, pr_8_40, pr_8_m14, pr_i_0, pr_i_1, pr_i_2, pr_i_3, pr_i_m1]; done) | (simp [pr_b, pr_8_40, pr_8_m14, pr_i_0, pr_i_1, pr_i_2, pr_i_3, pr_i_m1, *]; done) | (simp_all [pr_b, pr_8_40, pr_8_m14, pr_i_0, pr_i_1, pr_i_2, pr_i_3, pr_i_m1]; done))
          · simp only [ab_cmp, pr_8_40, pr_8_m14, pr_i_0, pr_i_1, pr_i_2, pr_i_3, pr_i_m1] at h6
            first
            | contradiction
            | exact absurd trivial h6
            | exact absurd h6 (by decide)
            | exact absurd (Classical.not_not.mp h6) (by decide)
            | skip
              refine pr_seqT (pc' := 12) 3 rfl ⟨⟨⟨trivial, trivial⟩, trivial⟩, trivial⟩ ?_
              try simp only [q8, e4, i1, pr_8_40, pr_8_m14, pr_i_0, pr_i_1, pr_i_2, pr_i_3, pr_i_m1]
              refine pr_csT [_, _, _] rfl rfl rfl rfl rfl (Nat.le_of_ble_eq_true rfl) (Nat.le_of_ble_eq_true rfl) (hw) ?_
              refine pr_ifT rfl (fun h15 => ?_) (fun h15 => ?_)
              · simp only [ab_cmp, pr_8_40, pr_8_m14, pr_i_0, pr_i_1, pr_i_2, pr_i_3, pr_i_m1] at h15
                first
                | contradiction
                | exact absurd trivial h15
                | exact absurd h15 (by decide)
                | exact absurd (Classical.not_not.mp h15) (by decide)
                | skip
                  refine pr_seqT (pc' := 25) 1 rfl ⟨trivial, trivial⟩ ?_
                  try simp only [q8, e4, i1, pr_8_40, pr_8_m14, pr_i_0, pr_i_1, pr_i_2, pr_i_3, pr_i_m1]
                  exact pr_irT rfl trivial (by first | rfl | (simp only [q8, e4, i1, pr_8_40, pr_8_m14, pr_i_0, pr_i_1, pr_i_2, pr_i_3, pr_i_m1]; done) | (simp [pr_b, pr_8_40, pr_8_m14, pr_i_0, pr_i_1, pr_i_2, pr_i_3, pr_i_m1, *]; done) | (simp_all [pr_b, pr_8_40, pr_8_m14, pr_i_0, pr_i_1, pr_i_2, pr_i_3, pr_i_m1]; done))
              · simp only [ab_cmp, pr_8_40, pr_8_m14, pr_i_0, pr_i_1, pr_i_2, pr_i_3, pr_i_m1] at h15
                first
                | contradiction
                | exact absurd trivial h15
                | exact absurd h15 (by decide)
                | exact absurd (Classical.not_not.mp h15) (by decide)
                | skip
                  refine pr_seqT (pc' := 21) 2 rfl ⟨⟨trivial, trivial⟩, trivial⟩ ?_
                  try simp only [q8, e4, i1, pr_8_40, pr_8_m14, pr_i_0, pr_i_1, pr_i_2, pr_i_3, pr_i_m1]
                  refine pr_icT rfl (fun h21 => ?_) (fun h21 => ?_)
                  · simp only [ab_cmp, pr_8_40, pr_8_m14, pr_i_0, pr_i_1, pr_i_2, pr_i_3, pr_i_m1] at h21
                    first
                    | contradiction
                    | exact absurd trivial h21
                    | exact absurd h21 (by decide)
                    | exact absurd (Classical.not_not.mp h21) (by decide)
                    | skip
                      refine pr_seqT (pc' := 27) 1 rfl ⟨trivial, trivial⟩ ?_
                      try simp only [q8, e4, i1, pr_8_40, pr_8_m14, pr_i_0, pr_i_1, pr_i_2, pr_i_3, pr_i_m1]
                      refine pr_ifT rfl (fun h27 => ?_) (fun h27 => ?_)
                      · simp only [ab_cmp, pr_8_40, pr_8_m14, pr_i_0, pr_i_1, pr_i_2, pr_i_3, pr_i_m1] at h27
                        first
                        | contradiction
                        | exact absurd trivial h27
                        | exact absurd h27 (by decide)
                        | exact absurd (Classical.not_not.mp h27) (by decide)
                        | skip
                          refine pr_seqT (pc' := 41) 6 rfl ⟨⟨⟨⟨⟨⟨trivial, (by first | assumption | (simp only [q8, e4, i1, pr_8_40, pr_8_m14, pr_i_0, pr_i_1, pr_i_2, pr_i_3, pr_i_m1]; first | assumption | decide | exact ⟨by assumption, by assumption⟩ | exact ⟨Or.inl (by assumption), by assumption⟩ | omega) | decide | exact ⟨Or.inl (by assumption), by assumption⟩ | exact ⟨by assumption, by assumption⟩ | omega)⟩, (by first | assumption | (simp only [q8, e4, i1, pr_8_40, pr_8_m14, pr_i_0, pr_i_1, pr_i_2, pr_i_3, pr_i_m1]; first | assumption | decide | exact ⟨by assumption, by assumption⟩ | exact ⟨Or.inl (by assumption), by assumption⟩ | omega) | decide | exact ⟨Or.inl (by assumption), by assumption⟩ | exact ⟨by assumption, by assumption⟩ | omega)⟩, trivial⟩, (by first | assumption | (simp only [q8, e4, i1, pr_8_40, pr_8_m14, pr_i_0, pr_i_1, pr_i_2, pr_i_3, pr_i_m1]; first | assumption | decide | exact ⟨by assumption, by assumption⟩ | exact ⟨Or.inl (by assumption), by assumption⟩ | omega) | decide | exact ⟨Or.inl (by assumption), by assumption⟩ | exact ⟨by assumption, by assumption⟩ | omega)⟩, trivial⟩, trivial⟩ ?_
                          try simp only [q8, e4, i1, pr_8_40, pr_8_m14, pr_i_0, pr_i_1, pr_i_2, pr_i_3, pr_i_m1]
                          refine pr_cvT [_, _] rfl rfl rfl rfl rfl (Nat.le_of_ble_eq_true rfl) (by first | assumption | (simp only [q8, e4, i1, pr_8_40, pr_8_m14, pr_i_0, pr_i_1, pr_i_2, pr_i_3, pr_i_m1]; first | assumption | decide | exact ⟨by assumption, by assumption⟩ | exact ⟨Or.inl (by assumption), by assumption⟩ | omega) | decide | exact ⟨Or.inl (by assumption), by assumption⟩ | exact ⟨by assumption, by assumption⟩ | omega) (Nat.le_of_ble_eq_true rfl) (c_begin (nI l) (nI m) h M i2) ?_
                          refine pr_seqT (pc' := 45) 1 rfl ⟨trivial, trivial⟩ ?_
                          try simp only [q8, e4, i1, pr_8_40, pr_8_m14, pr_i_0, pr_i_1, pr_i_2, pr_i_3, pr_i_m1]
                          refine pr_irT rfl trivial (cp_I hl (cl_sh hv (by omega) far ⟨by rw [at0, ab_u_j (by decide), ab_u_j (by decide), ab_u_at], by rw [at0, ab_u_j (by decide), ab_u_at], hl2, by rw [at0, ab_u_at], hm, fun j hj => by unfold sh_new sh_z; rw [if_pos ⟨rfl, hj⟩]⟩) (fun a ha => far a (by omega) (by omega)))
                      · simp only [ab_cmp, pr_8_40, pr_8_m14, pr_i_0, pr_i_1, pr_i_2, pr_i_3, pr_i_m1] at h27
                        first
                        | contradiction
                        | exact absurd trivial h27
                        | exact absurd h27 (by decide)
                        | exact absurd (Classical.not_not.mp h27) (by decide)
                        | skip
                          refine pr_seqT (pc' := 32) 1 rfl ⟨trivial, trivial⟩ ?_
                          try simp only [q8, e4, i1, pr_8_40, pr_8_m14, pr_i_0, pr_i_1, pr_i_2, pr_i_3, pr_i_m1]
                          exact pr_irT rfl trivial (by first | rfl | (simp only [q8, e4, i1, pr_8_40, pr_8_m14, pr_i_0, pr_i_1, pr_i_2, pr_i_3, pr_i_m1]; done) | (simp [pr_b, pr_8_40, pr_8_m14, pr_i_0, pr_i_1, pr_i_2, pr_i_3, pr_i_m1, *]; done) | (simp_all [pr_b, pr_8_40, pr_8_m14, pr_i_0, pr_i_1, pr_i_2, pr_i_3, pr_i_m1]; done))
                  · simp only [ab_cmp, pr_8_40, pr_8_m14, pr_i_0, pr_i_1, pr_i_2, pr_i_3, pr_i_m1] at h21
                    first
                    | contradiction
                    | exact absurd trivial h21
                    | exact absurd h21 (by decide)
                    | exact absurd (Classical.not_not.mp h21) (by decide)
                    | skip
                      refine pr_seqT (pc' := 25) 1 rfl ⟨trivial, trivial⟩ ?_
                      try simp only [q8, e4, i1, pr_8_40, pr_8_m14, pr_i_0, pr_i_1, pr_i_2, pr_i_3, pr_i_m1]
                      exact pr_irT rfl trivial (by first | rfl | (simp only [q8, e4, i1, pr_8_40, pr_8_m14, pr_i_0, pr_i_1, pr_i_2, pr_i_3, pr_i_m1]; done) | (simp [pr_b, pr_8_40, pr_8_m14, pr_i_0, pr_i_1, pr_i_2, pr_i_3, pr_i_m1, *]; done) | (simp_all [pr_b, pr_8_40, pr_8_m14, pr_i_0, pr_i_1, pr_i_2, pr_i_3, pr_i_m1]; done))
theorem p_lay {b : Bool} {X : St} (x i v : Int32) (h : ab_H) (M : ab_M) (hl : Lay h M.2.2 b) (hv : cl_v M.1 b X) : pr_X pX10_lay [.ref 1, .int x, .int i, .int v] h M (cp h M (f_lay X x i v)) := by
  obtain ⟨k1, q0, q1, rc, q3, q4, q5, q6, q7, q8, r9⟩ := id hl.1
  unfold f_lay
  have hp := c_within x 0 3 h M
  rcases pr_rg x 3 3 rfl (by decide) with z | ⟨k, hk, rfl, z⟩
  · rw [z] at hp ⊢
    refine pr_seqT (pc' := 3) 3 rfl ⟨⟨⟨trivial, trivial⟩, trivial⟩, trivial⟩ ?_
    try simp only [q8, pr_8_m10, pr_i_0, pr_i_1, pr_i_3, pr_i_m1]
    refine pr_csT [_, _, _] rfl rfl rfl rfl rfl (Nat.le_of_ble_eq_true rfl) (Nat.le_of_ble_eq_true rfl) (hp) ?_
    refine pr_ifT rfl (fun h6 => ?_) (fun h6 => ?_)
    · simp only [ab_cmp, pr_8_m10, pr_i_0, pr_i_1, pr_i_3, pr_i_m1] at h6
      first
      | contradiction
      | exact absurd trivial h6
      | exact absurd h6 (by decide)
      | exact absurd (Classical.not_not.mp h6) (by decide)
      | skip
        refine pr_seqT (pc' := 18) 5 rfl ⟨⟨⟨⟨⟨trivial, (by first | assumption | (simp only [q8, pr_8_m10, pr_i_0, pr_i_1, pr_i_3, pr_i_m1]; first | assumption | decide | exact ⟨by assumption, by assumption⟩ | exact ⟨Or.inl (by assumption), by assumption⟩ | omega) | decide | exact ⟨Or.inl (by assumption), by assumption⟩ | exact ⟨by assumption, by assumption⟩ | omega)⟩, (by first | assumption | (simp only [q8, pr_8_m10, pr_i_0, pr_i_1, pr_i_3, pr_i_m1]; first | assumption | decide | exact ⟨by assumption, by assumption⟩ | exact ⟨Or.inl (by assumption), by assumption⟩ | omega) | decide | exact ⟨Or.inl (by assumption), by assumption⟩ | exact ⟨by assumption, by assumption⟩ | omega)⟩, trivial⟩, (by first | assumption | (simp only [q8, pr_8_m10, pr_i_0, pr_i_1, pr_i_3, pr_i_m1]; first | assumption | decide | exact ⟨by assumption, by assumption⟩ | exact ⟨Or.inl (by assumption), by assumption⟩ | omega) | decide | exact ⟨Or.inl (by assumption), by assumption⟩ | exact ⟨by assumption, by assumption⟩ | omega)⟩, trivial⟩ ?_
        try simp only [q8, pr_8_m10, pr_i_0, pr_i_1, pr_i_3, pr_i_m1]
        fail "no call@18 yX7_faultAt"
    · simp only [ab_cmp, pr_8_m10, pr_i_0, pr_i_1, pr_i_3, pr_i_m1] at h6
      first
      | contradiction
      | exact absurd trivial h6
      | exact absurd h6 (by decide)
      | exact absurd (Classical.not_not.mp h6) (by decide)
      | skip
        refine pr_seqT (pc' := 10) 1 rfl ⟨trivial, trivial⟩ ?_
        try simp only [q8, pr_8_m10, pr_i_0, pr_i_1, pr_i_3, pr_i_m1]
        exact pr_irT rfl trivial (by exact cp_s hl hv)
  · rw [z] at hp ⊢
    have e4 : (nI k).toNatClampNeg = k := nI_clamp (by omega)
    rw [if_pos rfl, e4]
    obtain ⟨⟨sa, sb⟩, hs⟩ := hl.2.2.2.1
    obtain ⟨i1, i2⟩ := hs k (by omega)
    have si := i2.2.1
    have vi : (24 ≤ ab_k h 66 ∧ ab_k h 66 ≤ 27) ∧ vp_in (nI k) (ab_n h 66) := ⟨by rw [sa]; decide, by rw [sb]; exact vp_in_nI (by omega) (by decide)⟩
    have hsv := hv.2.2.1 k (by omega)
    cases hk' : X.2.2.1 k with
    | none =>
      rw [hk'] at hsv
      have hf := c_faultAt (th := false) (n := 0) i h M i2.1 si hsv (fun e => by cases e)
      rw [show sh_f false 0 i = 1 from rfl] at hf
      refine pr_seqT (pc' := 3) 3 rfl ⟨⟨⟨trivial, trivial⟩, trivial⟩, trivial⟩ ?_
      try simp only [q8, e4, i1, pr_8_m10, pr_i_0, pr_i_1, pr_i_3, pr_i_m1]
      refine pr_csT [_, _, _] rfl rfl rfl rfl rfl (Nat.le_of_ble_eq_true rfl) (Nat.le_of_ble_eq_true rfl) (hp) ?_
      refine pr_ifT rfl (fun h6 => ?_) (fun h6 => ?_)
      · simp only [ab_cmp, pr_8_m10, pr_i_0, pr_i_1, pr_i_3, pr_i_m1] at h6
        first
        | contradiction
        | exact absurd trivial h6
        | exact absurd h6 (by decide)
        | exact absurd (Classical.not_not.mp h6) (by decide)
        | skip
          refine pr_seqT (pc' := 18) 5 rfl ⟨⟨⟨⟨⟨trivial, (by first | assumption | (simp only [q8, e4, i1, pr_8_m10, pr_i_0, pr_i_1, pr_i_3, pr_i_m1]; first | assumption | decide | exact ⟨by assumption, by assumption⟩ | exact ⟨Or.inl (by assumption), by assumption⟩ | omega) | decide | exact ⟨Or.inl (by assumption), by assumption⟩ | exact ⟨by assumption, by assumption⟩ | omega)⟩, (by first | assumption | (simp only [q8, e4, i1, pr_8_m10, pr_i_0, pr_i_1, pr_i_3, pr_i_m1]; first | assumption | decide | exact ⟨by assumption, by assumption⟩ | exact ⟨Or.inl (by assumption), by assumption⟩ | omega) | decide | exact ⟨Or.inl (by assumption), by assumption⟩ | exact ⟨by assumption, by assumption⟩ | omega)⟩, trivial⟩, (by first | assumption | (simp only [q8, e4, i1, pr_8_m10, pr_i_0, pr_i_1, pr_i_3, pr_i_m1]; first | assumption | decide | exact ⟨by assumption, by assumption⟩ | exact ⟨Or.inl (by assumption), by assumption⟩ | omega) | decide | exact ⟨Or.inl (by assumption), by assumption⟩ | exact ⟨by assumption, by assumption⟩ | omega)⟩, trivial⟩ ?_
          try simp only [q8, e4, i1, pr_8_m10, pr_i_0, pr_i_1, pr_i_3, pr_i_m1]
          refine pr_cvT [_] rfl rfl rfl rfl rfl (Nat.le_of_ble_eq_true rfl) (by first | assumption | (simp only [q8, e4, i1, pr_8_m10, pr_i_0, pr_i_1, pr_i_3, pr_i_m1]; first | assumption | decide | exact ⟨by assumption, by assumption⟩ | exact ⟨Or.inl (by assumption), by assumption⟩ | omega) | decide | exact ⟨Or.inl (by assumption), by assumption⟩ | exact ⟨by assumption, by assumption⟩ | omega) (Nat.le_of_ble_eq_true rfl) (hf) ?_
          refine pr_seqT (pc' := 25) 2 rfl ⟨⟨trivial, trivial⟩, trivial⟩ ?_
          try simp only [q8, e4, i1, pr_8_m10, pr_i_0, pr_i_1, pr_i_3, pr_i_m1]
          refine pr_ifT rfl (fun h25 => ?_) (fun h25 => ?_)
          · simp only [ab_cmp, pr_8_m10, pr_i_0, pr_i_1, pr_i_3, pr_i_m1] at h25
            first
            | contradiction
            | exact absurd trivial h25
            | exact absurd h25 (by decide)
            | exact absurd (Classical.not_not.mp h25) (by decide)
            | skip
              refine pr_seqT (pc' := 42) 6 rfl ⟨⟨⟨⟨⟨⟨trivial, (by first | assumption | (simp only [q8, e4, i1, pr_8_m10, pr_i_0, pr_i_1, pr_i_3, pr_i_m1]; first | assumption | decide | exact ⟨by assumption, by assumption⟩ | exact ⟨Or.inl (by assumption), by assumption⟩ | omega) | decide | exact ⟨Or.inl (by assumption), by assumption⟩ | exact ⟨by assumption, by assumption⟩ | omega)⟩, (by first | assumption | (simp only [q8, e4, i1, pr_8_m10, pr_i_0, pr_i_1, pr_i_3, pr_i_m1]; first | assumption | decide | exact ⟨by assumption, by assumption⟩ | exact ⟨Or.inl (by assumption), by assumption⟩ | omega) | decide | exact ⟨Or.inl (by assumption), by assumption⟩ | exact ⟨by assumption, by assumption⟩ | omega)⟩, trivial⟩, (by first | assumption | (simp only [q8, e4, i1, pr_8_m10, pr_i_0, pr_i_1, pr_i_3, pr_i_m1]; first | assumption | decide | exact ⟨by assumption, by assumption⟩ | exact ⟨Or.inl (by assumption), by assumption⟩ | omega) | decide | exact ⟨Or.inl (by assumption), by assumption⟩ | exact ⟨by assumption, by assumption⟩ | omega)⟩, trivial⟩, trivial⟩ ?_
              try simp only [q8, e4, i1, pr_8_m10, pr_i_0, pr_i_1, pr_i_3, pr_i_m1]
              fail "no call@42 yX7_put"
          · simp only [ab_cmp, pr_8_m10, pr_i_0, pr_i_1, pr_i_3, pr_i_m1] at h25
            first
            | contradiction
            | exact absurd trivial h25
            | exact absurd h25 (by decide)
            | exact absurd (Classical.not_not.mp h25) (by decide)
            | skip
              refine pr_seqT (pc' := 33) 3 rfl ⟨⟨⟨trivial, trivial⟩, trivial⟩, trivial⟩ ?_
              try simp only [q8, e4, i1, pr_8_m10, pr_i_0, pr_i_1, pr_i_3, pr_i_m1]
              exact pr_irT rfl trivial (by exact cp_s hl hv)
      · simp only [ab_cmp, pr_8_m10, pr_i_0, pr_i_1, pr_i_3, pr_i_m1] at h6
        first
        | contradiction
        | exact absurd trivial h6
        | exact absurd h6 (by decide)
        | exact absurd (Classical.not_not.mp h6) (by decide)
        | skip
          refine pr_seqT (pc' := 10) 1 rfl ⟨trivial, trivial⟩ ?_
          try simp only [q8, e4, i1, pr_8_m10, pr_i_0, pr_i_1, pr_i_3, pr_i_m1]
          exact pr_irT rfl trivial (by first | rfl | (simp only [q8, e4, i1, pr_8_m10, pr_i_0, pr_i_1, pr_i_3, pr_i_m1]; done) | (simp [pr_b, pr_8_m10, pr_i_0, pr_i_1, pr_i_3, pr_i_m1, *]; done) | (simp_all [pr_b, pr_8_m10, pr_i_0, pr_i_1, pr_i_3, pr_i_m1]; done))
    | some w =>
      obtain ⟨ln, n, f⟩ := w
      rw [hk'] at hsv
      obtain ⟨w1, w2, w3, w4, w5, w6⟩ := hsv
      have hf := c_faultAt (th := true) (n := n) i h M i2.1 si w1 (fun _ => w4)
      dsimp only
      rcases pr_ix i (show n ≤ 1000000 by omega) with q | ⟨j, hj, rfl, q⟩
      · rw [show ixb i n = false from q]
        have hz : sh_f true n i = 2 := by
          unfold sh_f
          rw [if_pos rfl]
          split
          · rfl
          · split
            · rfl
            · rename_i a1 a2
              rw [decide_eq_false a1, decide_eq_false a2] at q
              cases q
        rw [hz] at hf
        refine pr_seqT (pc' := 3) 3 rfl ⟨⟨⟨trivial, trivial⟩, trivial⟩, trivial⟩ ?_
        try simp only [q8, e4, i1, pr_8_m10, pr_i_0, pr_i_1, pr_i_3, pr_i_m1]
        refine pr_csT [_, _, _] rfl rfl rfl rfl rfl (Nat.le_of_ble_eq_true rfl) (Nat.le_of_ble_eq_true rfl) (hp) ?_
        refine pr_ifT rfl (fun h6 => ?_) (fun h6 => ?_)
        · simp only [ab_cmp, pr_8_m10, pr_i_0, pr_i_1, pr_i_3, pr_i_m1] at h6
          first
          | contradiction
          | exact absurd trivial h6
          | exact absurd h6 (by decide)
          | exact absurd (Classical.not_not.mp h6) (by decide)
          | skip
            refine pr_seqT (pc' := 18) 5 rfl ⟨⟨⟨⟨⟨trivial, (by first | assumption | (simp only [q8, e4, i1, pr_8_m10, pr_i_0, pr_i_1, pr_i_3, pr_i_m1]; first | assumption | decide | exact ⟨by assumption, by assumption⟩ | exact ⟨Or.inl (by assumption), by assumption⟩ | omega) | decide | exact ⟨Or.inl (by assumption), by assumption⟩ | exact ⟨by assumption, by assumption⟩ | omega)⟩, (by first | assumption | (simp only [q8, e4, i1, pr_8_m10, pr_i_0, pr_i_1, pr_i_3, pr_i_m1]; first | assumption | decide | exact ⟨by assumption, by assumption⟩ | exact ⟨Or.inl (by assumption), by assumption⟩ | omega) | decide | exact ⟨Or.inl (by assumption), by assumption⟩ | exact ⟨by assumption, by assumption⟩ | omega)⟩, trivial⟩, (by first | assumption | (simp only [q8, e4, i1, pr_8_m10, pr_i_0, pr_i_1, pr_i_3, pr_i_m1]; first | assumption | decide | exact ⟨by assumption, by assumption⟩ | exact ⟨Or.inl (by assumption), by assumption⟩ | omega) | decide | exact ⟨Or.inl (by assumption), by assumption⟩ | exact ⟨by assumption, by assumption⟩ | omega)⟩, trivial⟩ ?_
            try simp only [q8, e4, i1, pr_8_m10, pr_i_0, pr_i_1, pr_i_3, pr_i_m1]
            refine pr_cvT [_] rfl rfl rfl rfl rfl (Nat.le_of_ble_eq_true rfl) (by first | assumption | (simp only [q8, e4, i1, pr_8_m10, pr_i_0, pr_i_1, pr_i_3, pr_i_m1]; first | assumption | decide | exact ⟨by assumption, by assumption⟩ | exact ⟨Or.inl (by assumption), by assumption⟩ | omega) | decide | exact ⟨Or.inl (by assumption), by assumption⟩ | exact ⟨by assumption, by assumption⟩ | omega) (Nat.le_of_ble_eq_true rfl) (hf) ?_
            refine pr_seqT (pc' := 25) 2 rfl ⟨⟨trivial, trivial⟩, trivial⟩ ?_
            try simp only [q8, e4, i1, pr_8_m10, pr_i_0, pr_i_1, pr_i_3, pr_i_m1]
            refine pr_ifT rfl (fun h25 => ?_) (fun h25 => ?_)
            · simp only [ab_cmp, pr_8_m10, pr_i_0, pr_i_1, pr_i_3, pr_i_m1] at h25
              first
              | contradiction
              | exact absurd trivial h25
              | exact absurd h25 (by decide)
              | exact absurd (Classical.not_not.mp h25) (by decide)
              | skip
                refine pr_seqT (pc' := 42) 6 rfl ⟨⟨⟨⟨⟨⟨trivial, (by first | assumption | (simp only [q8, e4, i1, pr_8_m10, pr_i_0, pr_i_1, pr_i_3, pr_i_m1]; first | assumption | decide | exact ⟨by assumption, by assumption⟩ | exact ⟨Or.inl (by assumption), by assumption⟩ | omega) | decide | exact ⟨Or.inl (by assumption), by assumption⟩ | exact ⟨by assumption, by assumption⟩ | omega)⟩, (by first | assumption | (simp only [q8, e4, i1, pr_8_m10, pr_i_0, pr_i_1, pr_i_3, pr_i_m1]; first | assumption | decide | exact ⟨by assumption, by assumption⟩ | exact ⟨Or.inl (by assumption), by assumption⟩ | omega) | decide | exact ⟨Or.inl (by assumption), by assumption⟩ | exact ⟨by assumption, by assumption⟩ | omega)⟩, trivial⟩, (by first | assumption | (simp only [q8, e4, i1, pr_8_m10, pr_i_0, pr_i_1, pr_i_3, pr_i_m1]; first | assumption | decide | exact ⟨by assumption, by assumption⟩ | exact ⟨Or.inl (by assumption), by assumption⟩ | omega) | decide | exact ⟨Or.inl (by assumption), by assumption⟩ | exact ⟨by assumption, by assumption⟩ | omega)⟩, trivial⟩, trivial⟩ ?_
                try simp only [q8, e4, i1, pr_8_m10, pr_i_0, pr_i_1, pr_i_3, pr_i_m1]
                fail "no call@42 yX7_put"
            · simp only [ab_cmp, pr_8_m10, pr_i_0, pr_i_1, pr_i_3, pr_i_m1] at h25
              first
              | contradiction
              | exact absurd trivial h25
              | exact absurd h25 (by decide)
              | exact absurd (Classical.not_not.mp h25) (by decide)
              | skip
                refine pr_seqT (pc' := 33) 3 rfl ⟨⟨⟨trivial, trivial⟩, trivial⟩, trivial⟩ ?_
                try simp only [q8, e4, i1, pr_8_m10, pr_i_0, pr_i_1, pr_i_3, pr_i_m1]
                exact pr_irT rfl trivial (by exact cp_s hl hv)
        · simp only [ab_cmp, pr_8_m10, pr_i_0, pr_i_1, pr_i_3, pr_i_m1] at h6
          first
          | contradiction
          | exact absurd trivial h6
          | exact absurd h6 (by decide)
          | exact absurd (Classical.not_not.mp h6) (by decide)
          | skip
            refine pr_seqT (pc' := 10) 1 rfl ⟨trivial, trivial⟩ ?_
            try simp only [q8, e4, i1, pr_8_m10, pr_i_0, pr_i_1, pr_i_3, pr_i_m1]
            exact pr_irT rfl trivial (by first | rfl | (simp only [q8, e4, i1, pr_8_m10, pr_i_0, pr_i_1, pr_i_3, pr_i_m1]; done) | (simp [pr_b, pr_8_m10, pr_i_0, pr_i_1, pr_i_3, pr_i_m1, *]; done) | (simp_all [pr_b, pr_8_m10, pr_i_0, pr_i_1, pr_i_3, pr_i_m1]; done))
      · rw [show ixb (nI j) n = true from q, if_pos rfl]
        have hz : sh_f true n (nI j) = 0 := by
          unfold sh_f
          rw [if_pos rfl, if_neg (nI_pos (by omega)), if_neg (nI_ge hj (by omega))]
        rw [hz] at hf
        rw [nI_clamp (show j < 2 ^ 31 by omega)]
        refine pr_seqT (pc' := 3) 3 rfl ⟨⟨⟨trivial, trivial⟩, trivial⟩, trivial⟩ ?_
        try simp only [q8, e4, i1, pr_8_m10, pr_i_0, pr_i_1, pr_i_3, pr_i_m1]
        refine pr_csT [_, _, _] rfl rfl rfl rfl rfl (Nat.le_of_ble_eq_true rfl) (Nat.le_of_ble_eq_true rfl) (hp) ?_
        refine pr_ifT rfl (fun h6 => ?_) (fun h6 => ?_)
        · simp only [ab_cmp, pr_8_m10, pr_i_0, pr_i_1, pr_i_3, pr_i_m1] at h6
          first
          | contradiction
          | exact absurd trivial h6
          | exact absurd h6 (by decide)
          | exact absurd (Classical.not_not.mp h6) (by decide)
          | skip
            refine pr_seqT (pc' := 18) 5 rfl ⟨⟨⟨⟨⟨trivial, (by first | assumption | (simp only [q8, e4, i1, pr_8_m10, pr_i_0, pr_i_1, pr_i_3, pr_i_m1]; first | assumption | decide | exact ⟨by assumption, by assumption⟩ | exact ⟨Or.inl (by assumption), by assumption⟩ | omega) | decide | exact ⟨Or.inl (by assumption), by assumption⟩ | exact ⟨by assumption, by assumption⟩ | omega)⟩, (by first | assumption | (simp only [q8, e4, i1, pr_8_m10, pr_i_0, pr_i_1, pr_i_3, pr_i_m1]; first | assumption | decide | exact ⟨by assumption, by assumption⟩ | exact ⟨Or.inl (by assumption), by assumption⟩ | omega) | decide | exact ⟨Or.inl (by assumption), by assumption⟩ | exact ⟨by assumption, by assumption⟩ | omega)⟩, trivial⟩, (by first | assumption | (simp only [q8, e4, i1, pr_8_m10, pr_i_0, pr_i_1, pr_i_3, pr_i_m1]; first | assumption | decide | exact ⟨by assumption, by assumption⟩ | exact ⟨Or.inl (by assumption), by assumption⟩ | omega) | decide | exact ⟨Or.inl (by assumption), by assumption⟩ | exact ⟨by assumption, by assumption⟩ | omega)⟩, trivial⟩ ?_
            try simp only [q8, e4, i1, pr_8_m10, pr_i_0, pr_i_1, pr_i_3, pr_i_m1]
            refine pr_cvT [_] rfl rfl rfl rfl rfl (Nat.le_of_ble_eq_true rfl) (by first | assumption | (simp only [q8, e4, i1, pr_8_m10, pr_i_0, pr_i_1, pr_i_3, pr_i_m1]; first | assumption | decide | exact ⟨by assumption, by assumption⟩ | exact ⟨Or.inl (by assumption), by assumption⟩ | omega) | decide | exact ⟨Or.inl (by assumption), by assumption⟩ | exact ⟨by assumption, by assumption⟩ | omega) (Nat.le_of_ble_eq_true rfl) (hf) ?_
            refine pr_seqT (pc' := 25) 2 rfl ⟨⟨trivial, trivial⟩, trivial⟩ ?_
            try simp only [q8, e4, i1, pr_8_m10, pr_i_0, pr_i_1, pr_i_3, pr_i_m1]
            refine pr_ifT rfl (fun h25 => ?_) (fun h25 => ?_)
            · simp only [ab_cmp, pr_8_m10, pr_i_0, pr_i_1, pr_i_3, pr_i_m1] at h25
              first
              | contradiction
              | exact absurd trivial h25
              | exact absurd h25 (by decide)
              | exact absurd (Classical.not_not.mp h25) (by decide)
              | skip
                refine pr_seqT (pc' := 42) 6 rfl ⟨⟨⟨⟨⟨⟨trivial, (by first | assumption | (simp only [q8, e4, i1, pr_8_m10, pr_i_0, pr_i_1, pr_i_3, pr_i_m1]; first | assumption | decide | exact ⟨by assumption, by assumption⟩ | exact ⟨Or.inl (by assumption), by assumption⟩ | omega) | decide | exact ⟨Or.inl (by assumption), by assumption⟩ | exact ⟨by assumption, by assumption⟩ | omega)⟩, (by first | assumption | (simp only [q8, e4, i1, pr_8_m10, pr_i_0, pr_i_1, pr_i_3, pr_i_m1]; first | assumption | decide | exact ⟨by assumption, by assumption⟩ | exact ⟨Or.inl (by assumption), by assumption⟩ | omega) | decide | exact ⟨Or.inl (by assumption), by assumption⟩ | exact ⟨by assumption, by assumption⟩ | omega)⟩, trivial⟩, (by first | assumption | (simp only [q8, e4, i1, pr_8_m10, pr_i_0, pr_i_1, pr_i_3, pr_i_m1]; first | assumption | decide | exact ⟨by assumption, by assumption⟩ | exact ⟨Or.inl (by assumption), by assumption⟩ | omega) | decide | exact ⟨Or.inl (by assumption), by assumption⟩ | exact ⟨by assumption, by assumption⟩ | omega)⟩, trivial⟩, trivial⟩ ?_
                try simp only [q8, e4, i1, pr_8_m10, pr_i_0, pr_i_1, pr_i_3, pr_i_m1]
                refine pr_cvT [_, _] rfl rfl rfl rfl rfl (Nat.le_of_ble_eq_true rfl) (by first | assumption | (simp only [q8, e4, i1, pr_8_m10, pr_i_0, pr_i_1, pr_i_3, pr_i_m1]; first | assumption | decide | exact ⟨by assumption, by assumption⟩ | exact ⟨Or.inl (by assumption), by assumption⟩ | omega) | decide | exact ⟨Or.inl (by assumption), by assumption⟩ | exact ⟨by assumption, by assumption⟩ | omega) (Nat.le_of_ble_eq_true rfl) (c_put v h M i2 w1 w4 w5 w2 w3 hj) ?_
                refine pr_seqT (pc' := 46) 1 rfl ⟨trivial, trivial⟩ ?_
                try simp only [q8, e4, i1, pr_8_m10, pr_i_0, pr_i_1, pr_i_3, pr_i_m1]
                refine pr_irT rfl trivial (cp_I hl (cl_sh hv (by omega) (fun a a1 a2 => ab_u_ne a2) ⟨by rw [ab_u_ne (by omega)]; exact w1, by rw [ab_u_ne (by omega)]; exact w2, w3, by rw [ab_u_ne (by omega)]; exact w4, w5, fun j' hj' => ?_⟩) (fun a ha => ab_u_ne (by omega)))
                by_cases e : j' = j
                · subst e; rw [ab_u_at, va_up_at]
                · rw [ab_u_j e, va_up_n e]; exact w6 j' hj'
            · simp only [ab_cmp, pr_8_m10, pr_i_0, pr_i_1, pr_i_3, pr_i_m1] at h25
              first
              | contradiction
              | exact absurd trivial h25
              | exact absurd h25 (by decide)
              | exact absurd (Classical.not_not.mp h25) (by decide)
              | skip
                refine pr_seqT (pc' := 33) 3 rfl ⟨⟨⟨trivial, trivial⟩, trivial⟩, trivial⟩ ?_
                try simp only [q8, e4, i1, pr_8_m10, pr_i_0, pr_i_1, pr_i_3, pr_i_m1]
                exact pr_irT rfl trivial (by first | rfl | (simp only [q8, e4, i1, pr_8_m10, pr_i_0, pr_i_1, pr_i_3, pr_i_m1]; done) | (simp [pr_b, pr_8_m10, pr_i_0, pr_i_1, pr_i_3, pr_i_m1, *]; done) | (simp_all [pr_b, pr_8_m10, pr_i_0, pr_i_1, pr_i_3, pr_i_m1]; done))
        · simp only [ab_cmp, pr_8_m10, pr_i_0, pr_i_1, pr_i_3, pr_i_m1] at h6
          first
          | contradiction
          | exact absurd trivial h6
          | exact absurd h6 (by decide)
          | exact absurd (Classical.not_not.mp h6) (by decide)
          | skip
            refine pr_seqT (pc' := 10) 1 rfl ⟨trivial, trivial⟩ ?_
            try simp only [q8, e4, i1, pr_8_m10, pr_i_0, pr_i_1, pr_i_3, pr_i_m1]
            exact pr_irT rfl trivial (by first | rfl | (simp only [q8, e4, i1, pr_8_m10, pr_i_0, pr_i_1, pr_i_3, pr_i_m1]; done) | (simp [pr_b, pr_8_m10, pr_i_0, pr_i_1, pr_i_3, pr_i_m1, *]; done) | (simp_all [pr_b, pr_8_m10, pr_i_0, pr_i_1, pr_i_3, pr_i_m1]; done))
theorem p_end {b : Bool} {X : St} (v : Int32) (h : ab_H) (M : ab_M) (hl : Lay h M.2.2 b) (hv : cl_v M.1 b X) : pr_X pX10_end [.ref 1, .int v] h M (cp h M (f_end X v)) := by
  obtain ⟨k1, q0, q1, rc, q3, q4, q5, q6, q7, q8, r9⟩ := id hl.1
  obtain ⟨⟨a2, a3, a4, a5⟩, -⟩ := hl.2.2.2.2.1
  unfold f_end
  obtain ⟨y1, y2, y3⟩ := hv.2.2.2.1
  have hp := c_within v 0 (nI X.2.2.2.1.length) h M
  have n2 : (2 : Nat) ≠ 0 := by decide
  rcases pr_rg v (nI X.2.2.2.1.length) X.2.2.2.1.length rfl (by omega) with z | ⟨k, hk, rfl, z⟩
  · rw [z] at hp ⊢
    refine pr_seqT (pc' := 9) 5 rfl ⟨⟨⟨⟨⟨trivial, trivial⟩, trivial⟩, (by first | assumption | (simp only [q0, y1, pr_i_0, pr_i_m1]; first | assumption | decide | exact ⟨by assumption, by assumption⟩ | exact ⟨Or.inl (by assumption), by assumption⟩ | omega) | decide | exact ⟨Or.inl (by assumption), by assumption⟩ | exact ⟨by assumption, by assumption⟩ | omega)⟩, (by first | assumption | (simp only [q0, y1, pr_i_0, pr_i_m1]; first | assumption | decide | exact ⟨by assumption, by assumption⟩ | exact ⟨Or.inl (by assumption), by assumption⟩ | omega) | decide | exact ⟨Or.inl (by assumption), by assumption⟩ | exact ⟨by assumption, by assumption⟩ | omega)⟩, (by first | assumption | (simp only [q0, y1, pr_i_0, pr_i_m1]; first | assumption | decide | exact ⟨by assumption, by assumption⟩ | exact ⟨Or.inl (by assumption), by assumption⟩ | omega) | decide | exact ⟨Or.inl (by assumption), by assumption⟩ | exact ⟨by assumption, by assumption⟩ | omega)⟩ ?_
    try simp only [q0, y1, pr_i_0, pr_i_m1]
    refine pr_csT [_, _, _] rfl rfl rfl rfl rfl (Nat.le_of_ble_eq_true rfl) (Nat.le_of_ble_eq_true rfl) (hp) ?_
    refine pr_ifT rfl (fun h12 => ?_) (fun h12 => ?_)
    · simp only [ab_cmp, pr_i_0, pr_i_m1] at h12
      first
      | contradiction
      | exact absurd trivial h12
      | exact absurd h12 (by decide)
      | exact absurd (Classical.not_not.mp h12) (by decide)
      | skip
        refine pr_seqT (pc' := 34) 9 rfl ⟨⟨⟨⟨⟨⟨⟨⟨⟨trivial, (by first | assumption | (simp only [q0, y1, pr_i_0, pr_i_m1]; first | assumption | decide | exact ⟨by assumption, by assumption⟩ | exact ⟨Or.inl (by assumption), by assumption⟩ | omega) | decide | exact ⟨Or.inl (by assumption), by assumption⟩ | exact ⟨by assumption, by assumption⟩ | omega)⟩, (by first | assumption | (simp only [q0, y1, pr_i_0, pr_i_m1]; first | assumption | decide | exact ⟨by assumption, by assumption⟩ | exact ⟨Or.inl (by assumption), by assumption⟩ | omega) | decide | exact ⟨Or.inl (by assumption), by assumption⟩ | exact ⟨by assumption, by assumption⟩ | omega)⟩, (by first | assumption | (simp only [q0, y1, pr_i_0, pr_i_m1]; first | assumption | decide | exact ⟨by assumption, by assumption⟩ | exact ⟨Or.inl (by assumption), by assumption⟩ | omega) | decide | exact ⟨Or.inl (by assumption), by assumption⟩ | exact ⟨by assumption, by assumption⟩ | omega)⟩, trivial⟩, (by first | assumption | (simp only [q0, y1, pr_i_0, pr_i_m1]; first | assumption | decide | exact ⟨by assumption, by assumption⟩ | exact ⟨Or.inl (by assumption), by assumption⟩ | omega) | decide | exact ⟨Or.inl (by assumption), by assumption⟩ | exact ⟨by assumption, by assumption⟩ | omega)⟩, (by first | assumption | (simp only [q0, y1, pr_i_0, pr_i_m1]; first | assumption | decide | exact ⟨by assumption, by assumption⟩ | exact ⟨Or.inl (by assumption), by assumption⟩ | omega) | decide | exact ⟨Or.inl (by assumption), by assumption⟩ | exact ⟨by assumption, by assumption⟩ | omega)⟩, trivial⟩, (by first | assumption | (simp only [q0, y1, pr_i_0, pr_i_m1]; first | assumption | decide | exact ⟨by assumption, by assumption⟩ | exact ⟨Or.inl (by assumption), by assumption⟩ | omega) | decide | exact ⟨Or.inl (by assumption), by assumption⟩ | exact ⟨by assumption, by assumption⟩ | omega)⟩, trivial⟩ ?_
        try simp only [q0, y1, pr_i_0, pr_i_m1]
        exact pr_irT rfl trivial (by first | rfl | (simp only [q0, y1, pr_i_0, pr_i_m1]; done) | (simp [pr_b, pr_i_0, pr_i_m1, *]; done) | (simp_all [pr_b, pr_i_0, pr_i_m1]; done))
    · simp only [ab_cmp, pr_i_0, pr_i_m1] at h12
      first
      | contradiction
      | exact absurd trivial h12
      | exact absurd h12 (by decide)
      | exact absurd (Classical.not_not.mp h12) (by decide)
      | skip
        refine pr_seqT (pc' := 16) 1 rfl ⟨trivial, trivial⟩ ?_
        try simp only [q0, y1, pr_i_0, pr_i_m1]
        exact pr_irT rfl trivial (by exact cp_s hl hv)
  · rw [z] at hp ⊢
    rw [if_pos rfl, nI_clamp (show k < 2 ^ 31 by omega)]
    refine pr_seqT (pc' := 9) 5 rfl ⟨⟨⟨⟨⟨trivial, trivial⟩, trivial⟩, (by first | assumption | (simp only [q0, y1, pr_i_0, pr_i_m1]; first | assumption | decide | exact ⟨by assumption, by assumption⟩ | exact ⟨Or.inl (by assumption), by assumption⟩ | omega) | decide | exact ⟨Or.inl (by assumption), by assumption⟩ | exact ⟨by assumption, by assumption⟩ | omega)⟩, (by first | assumption | (simp only [q0, y1, pr_i_0, pr_i_m1]; first | assumption | decide | exact ⟨by assumption, by assumption⟩ | exact ⟨Or.inl (by assumption), by assumption⟩ | omega) | decide | exact ⟨Or.inl (by assumption), by assumption⟩ | exact ⟨by assumption, by assumption⟩ | omega)⟩, (by first | assumption | (simp only [q0, y1, pr_i_0, pr_i_m1]; first | assumption | decide | exact ⟨by assumption, by assumption⟩ | exact ⟨Or.inl (by assumption), by assumption⟩ | omega) | decide | exact ⟨Or.inl (by assumption), by assumption⟩ | exact ⟨by assumption, by assumption⟩ | omega)⟩ ?_
    try simp only [q0, y1, pr_i_0, pr_i_m1]
    refine pr_csT [_, _, _] rfl rfl rfl rfl rfl (Nat.le_of_ble_eq_true rfl) (Nat.le_of_ble_eq_true rfl) (hp) ?_
    refine pr_ifT rfl (fun h12 => ?_) (fun h12 => ?_)
    · simp only [ab_cmp, pr_i_0, pr_i_m1] at h12
      first
      | contradiction
      | exact absurd trivial h12
      | exact absurd h12 (by decide)
      | exact absurd (Classical.not_not.mp h12) (by decide)
      | skip
        refine pr_seqT (pc' := 34) 9 rfl ⟨⟨⟨⟨⟨⟨⟨⟨⟨trivial, (by first | assumption | (simp only [q0, y1, pr_i_0, pr_i_m1]; first | assumption | decide | exact ⟨by assumption, by assumption⟩ | exact ⟨Or.inl (by assumption), by assumption⟩ | omega) | decide | exact ⟨Or.inl (by assumption), by assumption⟩ | exact ⟨by assumption, by assumption⟩ | omega)⟩, (by first | assumption | (simp only [q0, y1, pr_i_0, pr_i_m1]; first | assumption | decide | exact ⟨by assumption, by assumption⟩ | exact ⟨Or.inl (by assumption), by assumption⟩ | omega) | decide | exact ⟨Or.inl (by assumption), by assumption⟩ | exact ⟨by assumption, by assumption⟩ | omega)⟩, (by first | assumption | (simp only [q0, y1, pr_i_0, pr_i_m1]; first | assumption | decide | exact ⟨by assumption, by assumption⟩ | exact ⟨Or.inl (by assumption), by assumption⟩ | omega) | decide | exact ⟨Or.inl (by assumption), by assumption⟩ | exact ⟨by assumption, by assumption⟩ | omega)⟩, trivial⟩, (by first | assumption | (simp only [q0, y1, pr_i_0, pr_i_m1]; first | assumption | decide | exact ⟨by assumption, by assumption⟩ | exact ⟨Or.inl (by assumption), by assumption⟩ | omega) | decide | exact ⟨Or.inl (by assumption), by assumption⟩ | exact ⟨by assumption, by assumption⟩ | omega)⟩, (by first | assumption | (simp only [q0, y1, pr_i_0, pr_i_m1]; first | assumption | decide | exact ⟨by assumption, by assumption⟩ | exact ⟨Or.inl (by assumption), by assumption⟩ | omega) | decide | exact ⟨Or.inl (by assumption), by assumption⟩ | exact ⟨by assumption, by assumption⟩ | omega)⟩, trivial⟩, (by first | assumption | (simp only [q0, y1, pr_i_0, pr_i_m1]; first | assumption | decide | exact ⟨by assumption, by assumption⟩ | exact ⟨Or.inl (by assumption), by assumption⟩ | omega) | decide | exact ⟨Or.inl (by assumption), by assumption⟩ | exact ⟨by assumption, by assumption⟩ | omega)⟩, trivial⟩ ?_
        try simp only [q0, y1, pr_i_0, pr_i_m1]
        refine pr_irT rfl trivial (cp_I hl (cl_tape hv (fun a a1 a2 => ab_u_ne a1) ⟨?_, ?_, fun j hj => ?_⟩) (fun a ha => ab_u_ne (by omega)))
        · rw [ab_u_at, List.length_take, Nat.min_eq_left hk]
        · rw [List.length_take]; omega
        · rw [List.length_take] at hj
          have e : (X.2.2.2.1.take k).getD j 0 = X.2.2.2.1.getD j 0 := by
            rw [List.getD_eq_getElem?_getD, List.getD_eq_getElem?_getD, List.getElem?_take, if_pos (by omega)]
          rw [ab_u_ne (by decide), e]
          exact y3 j (by omega)
    · simp only [ab_cmp, pr_i_0, pr_i_m1] at h12
      first
      | contradiction
      | exact absurd trivial h12
      | exact absurd h12 (by decide)
      | exact absurd (Classical.not_not.mp h12) (by decide)
      | skip
        refine pr_seqT (pc' := 16) 1 rfl ⟨trivial, trivial⟩ ?_
        try simp only [q0, y1, pr_i_0, pr_i_m1]
        exact pr_irT rfl trivial (by first | rfl | (simp only [q0, y1, pr_i_0, pr_i_m1]; done) | (simp [pr_b, pr_i_0, pr_i_m1, *]; done) | (simp_all [pr_b, pr_i_0, pr_i_m1]; done))
theorem by8_aux (u : UInt64) : u.toInt64.toInt32.toInt8 = (nI (u.toNat % 256)).toInt8 := by
  apply Int8.toInt_inj.mp
  have hm : u.toNat % 256 < 2 ^ 31 := by omega
  have e1 : u.toInt64.toInt = (u.toNat : Int).bmod (2 ^ 64) := by
    show u.toBitVec.toInt = _
    rw [BitVec.toInt_eq_toNat_bmod]
    rfl
  rw [Int32.toInt_toInt8, Int64.toInt_toInt32, Int32.toInt_toInt8, nI_toInt hm, e1, Int.bmod_bmod_of_dvd (by decide), Int.bmod_bmod_of_dvd (by decide)]
  exact (Int.emod_bmod (u.toNat : Int) 256).symm
theorem by8_n (v : Int64) (k : Nat) : by8 v k = (nI (byn v k)).toInt8.toInt32 := by
  unfold by8 byn
  rw [i8_idem, by8_aux]
theorem p_feed {b : Bool} {X : St} (v : Int64) (h : ab_H) (M : ab_M) (hl : Lay h M.2.2 b) (hv : cl_v M.1 b X) : pr_X pX10_feed [.ref 1, .long v] h M (cp h M (f_feed X v)) := by
  obtain ⟨k1, q0, q1, rc, q3, q4, q5, q6, q7, q8, r9⟩ := id hl.1
  obtain ⟨⟨a2, a3, a4, a5⟩, -⟩ := hl.2.2.2.2.1
  unfold f_feed
  obtain ⟨y1, y2, y3⟩ := hv.2.2.2.1
  have hp := c_tappend v h M a2 a3 a4 a5 y1 y2
  have n2 : (2 : Nat) ≠ 0 := by decide
  by_cases c : X.2.2.2.1.length + 8 ≤ 320
  · rw [decide_eq_true c, if_pos c] at hp
    rw [if_pos c]
    have x1 : tp_w M.1 v X.2.2.2.1.length 8 2 1 = nI (X.2.2.2.1.length + 8) := by simp [tp_w]
    have far : ∀ a, a ≠ 2 → a ≠ 3 → tp_w M.1 v X.2.2.2.1.length 8 a = M.1 a := fun a a1 a2 => by
      funext j
      unfold tp_w
      rw [if_neg (by omega), if_neg (by omega)]
    refine pr_seqT (pc' := 5) 3 rfl ⟨⟨⟨trivial, (by first | assumption | (simp only [q0, x1, pr_8_m3]; first | assumption | decide | exact ⟨by assumption, by assumption⟩ | exact ⟨Or.inl (by assumption), by assumption⟩ | omega) | decide | exact ⟨Or.inl (by assumption), by assumption⟩ | exact ⟨by assumption, by assumption⟩ | omega)⟩, (by first | assumption | (simp only [q0, x1, pr_8_m3]; first | assumption | decide | exact ⟨by assumption, by assumption⟩ | exact ⟨Or.inl (by assumption), by assumption⟩ | omega) | decide | exact ⟨Or.inl (by assumption), by assumption⟩ | exact ⟨by assumption, by assumption⟩ | omega)⟩, trivial⟩ ?_
    try simp only [q0, x1, pr_8_m3]
    refine pr_cvT [_] rfl rfl rfl rfl rfl (Nat.le_of_ble_eq_true rfl) (by first | assumption | (simp only [q0, x1, pr_8_m3]; first | assumption | decide | exact ⟨by assumption, by assumption⟩ | exact ⟨Or.inl (by assumption), by assumption⟩ | omega) | decide | exact ⟨Or.inl (by assumption), by assumption⟩ | exact ⟨by assumption, by assumption⟩ | omega) (Nat.le_of_ble_eq_true rfl) (hp) ?_
    refine pr_ifT rfl (fun h8 => ?_) (fun h8 => ?_)
    · simp only [ab_cmp, pr_8_m3] at h8
      first
      | contradiction
      | exact absurd trivial h8
      | exact absurd h8 (by decide)
      | exact absurd (Classical.not_not.mp h8) (by decide)
      | skip
        refine pr_seqT (pc' := 23) 1 rfl ⟨trivial, trivial⟩ ?_
        try simp only [q0, x1, pr_8_m3]
        refine pr_irT rfl trivial (cp_I hl (cl_tape hv far ⟨?_, ?_, fun j hj => ?_⟩) (fun a ha => far a (by omega) (by omega)))
        · rw [x1, List.length_append]; rfl
        · rw [List.length_append]; exact c
        · rw [List.length_append, List.length_map, List.length_range] at hj
          unfold tp_w
          rw [if_neg (by omega)]
          by_cases hi : X.2.2.2.1.length ≤ j
          · rw [if_pos ⟨rfl, hi, hj⟩, gd_r hi, by8_n, List.getD_eq_getElem?_getD, List.getElem?_map, List.getElem?_range (by omega)]
            exact ⟨rfl, Nat.mod_lt _ (by decide)⟩
          · rw [if_neg (by omega), gd_l (by omega)]
            exact y3 j (by omega)
    · simp only [ab_cmp, pr_8_m3] at h8
      first
      | contradiction
      | exact absurd trivial h8
      | exact absurd h8 (by decide)
      | exact absurd (Classical.not_not.mp h8) (by decide)
      | skip
        refine pr_seqT (pc' := 23) 4 rfl ⟨⟨⟨⟨trivial, (by first | assumption | (simp only [q0, x1, pr_8_m3]; first | assumption | decide | exact ⟨by assumption, by assumption⟩ | exact ⟨Or.inl (by assumption), by assumption⟩ | omega) | decide | exact ⟨Or.inl (by assumption), by assumption⟩ | exact ⟨by assumption, by assumption⟩ | omega)⟩, (by first | assumption | (simp only [q0, x1, pr_8_m3]; first | assumption | decide | exact ⟨by assumption, by assumption⟩ | exact ⟨Or.inl (by assumption), by assumption⟩ | omega) | decide | exact ⟨Or.inl (by assumption), by assumption⟩ | exact ⟨by assumption, by assumption⟩ | omega)⟩, (by first | assumption | (simp only [q0, x1, pr_8_m3]; first | assumption | decide | exact ⟨by assumption, by assumption⟩ | exact ⟨Or.inl (by assumption), by assumption⟩ | omega) | decide | exact ⟨Or.inl (by assumption), by assumption⟩ | exact ⟨by assumption, by assumption⟩ | omega)⟩, trivial⟩ ?_
        try simp only [q0, x1, pr_8_m3]
        refine pr_irT rfl trivial (cp_I hl (cl_tape hv far ⟨?_, ?_, fun j hj => ?_⟩) (fun a ha => far a (by omega) (by omega)))
        · rw [x1, List.length_append]; rfl
        · rw [List.length_append]; exact c
        · rw [List.length_append, List.length_map, List.length_range] at hj
          unfold tp_w
          rw [if_neg (by omega)]
          by_cases hi : X.2.2.2.1.length ≤ j
          · rw [if_pos ⟨rfl, hi, hj⟩, gd_r hi, by8_n, List.getD_eq_getElem?_getD, List.getElem?_map, List.getElem?_range (by omega)]
            exact ⟨rfl, Nat.mod_lt _ (by decide)⟩
          · rw [if_neg (by omega), gd_l (by omega)]
            exact y3 j (by omega)
  · rw [decide_eq_false c, if_neg c] at hp
    rw [if_neg c]
    refine pr_seqT (pc' := 5) 3 rfl ⟨⟨⟨trivial, (by first | assumption | (simp only [q0, pr_8_m3]; first | assumption | decide | exact ⟨by assumption, by assumption⟩ | exact ⟨Or.inl (by assumption), by assumption⟩ | omega) | decide | exact ⟨Or.inl (by assumption), by assumption⟩ | exact ⟨by assumption, by assumption⟩ | omega)⟩, (by first | assumption | (simp only [q0, pr_8_m3]; first | assumption | decide | exact ⟨by assumption, by assumption⟩ | exact ⟨Or.inl (by assumption), by assumption⟩ | omega) | decide | exact ⟨Or.inl (by assumption), by assumption⟩ | exact ⟨by assumption, by assumption⟩ | omega)⟩, trivial⟩ ?_
    try simp only [q0, pr_8_m3]
    refine pr_cvT [_] rfl rfl rfl rfl rfl (Nat.le_of_ble_eq_true rfl) (by first | assumption | (simp only [q0, pr_8_m3]; first | assumption | decide | exact ⟨by assumption, by assumption⟩ | exact ⟨Or.inl (by assumption), by assumption⟩ | omega) | decide | exact ⟨Or.inl (by assumption), by assumption⟩ | exact ⟨by assumption, by assumption⟩ | omega) (Nat.le_of_ble_eq_true rfl) (hp) ?_
    refine pr_ifT rfl (fun h8 => ?_) (fun h8 => ?_)
    · simp only [ab_cmp, pr_8_m3] at h8
      first
      | contradiction
      | exact absurd trivial h8
      | exact absurd h8 (by decide)
      | exact absurd (Classical.not_not.mp h8) (by decide)
      | skip
        refine pr_seqT (pc' := 23) 1 rfl ⟨trivial, trivial⟩ ?_
        try simp only [q0, pr_8_m3]
        exact pr_irT rfl trivial (by exact cp_s hl hv)
    · simp only [ab_cmp, pr_8_m3] at h8
      first
      | contradiction
      | exact absurd trivial h8
      | exact absurd h8 (by decide)
      | exact absurd (Classical.not_not.mp h8) (by decide)
      | skip
        refine pr_seqT (pc' := 23) 4 rfl ⟨⟨⟨⟨trivial, (by first | assumption | (simp only [q0, pr_8_m3]; first | assumption | decide | exact ⟨by assumption, by assumption⟩ | exact ⟨Or.inl (by assumption), by assumption⟩ | omega) | decide | exact ⟨Or.inl (by assumption), by assumption⟩ | exact ⟨by assumption, by assumption⟩ | omega)⟩, (by first | assumption | (simp only [q0, pr_8_m3]; first | assumption | decide | exact ⟨by assumption, by assumption⟩ | exact ⟨Or.inl (by assumption), by assumption⟩ | omega) | decide | exact ⟨Or.inl (by assumption), by assumption⟩ | exact ⟨by assumption, by assumption⟩ | omega)⟩, (by first | assumption | (simp only [q0, pr_8_m3]; first | assumption | decide | exact ⟨by assumption, by assumption⟩ | exact ⟨Or.inl (by assumption), by assumption⟩ | omega) | decide | exact ⟨Or.inl (by assumption), by assumption⟩ | exact ⟨by assumption, by assumption⟩ | omega)⟩, trivial⟩ ?_
        try simp only [q0, pr_8_m3]
        exact pr_irT rfl trivial (by exact cp_s hl hv)
