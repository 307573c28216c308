
/-! ===== a line ===== -/
theorem c_tellList {t p : Nat} {w : List Nat} {P : PS} (h : ab_H) (M : ab_M) (ht5 : 5 < t) (hr : pr_Rd h M.2.2 t) (ht : pr_Tl h M.2.2 t) (hw : tp_v M.1 w) (hps : ps_v M.1 t P) (g5 : M.1 4 5 = nI p) (hp : p ≤ w.length) : pr_X pX6_tellList [.ref 4] h M (ln_p t M (lnList w P p)) := by
  obtain ⟨k4, -⟩ := id hr
  have n4 : (4 : Nat) ≠ 0 := by decide
  have hadv := c_advance h M hr hw g5 hp
  have hle := tok_le hp
  have hwd := tok_word hp
  unfold adv_p at hadv
  unfold lnList
  generalize hT : tok w p = T at *
  obtain ⟨k, s, e, v⟩ := T
  dsimp only at *
  by_cases c4 : k = 4
  · rw [if_pos c4]
    rw [decide_eq_false (fun z => z c4)] at hadv
    refine pr_seqT (pc' := 1) 1 rfl ⟨trivial, (by first | assumption | decide | exact ⟨Or.inl (by assumption), by assumption⟩ | exact ⟨by assumption, by assumption⟩ | omega)⟩ ?_
    refine pr_cvX [] rfl rfl rfl rfl rfl (Nat.le_of_ble_eq_true rfl) (by first | assumption | decide | exact ⟨Or.inl (by assumption), by assumption⟩ | exact ⟨by assumption, by assumption⟩ | omega) (Nat.le_of_ble_eq_true rfl) (hadv) (fun v1 M1 q1 => ?_)
    obtain ⟨e2, f1, rfl, hf4, hn'⟩ := q1
    obtain ⟨I1, Z1⟩ := M1
    dsimp only at e2 f1 hf4 hn'
    subst e2
    refine pr_ifT rfl (fun h4 => ?_) (fun h4 => ?_)
    · simp only [ab_cmp, pr_16_320, pr_i_0, pr_i_1, pr_i_3] at h4
      first
      | contradiction
      | exact absurd trivial h4
      | exact absurd h4 (by decide)
      | exact absurd (Classical.not_not.mp h4) (by decide)
      | skip
        refine pr_seqT (pc' := 15) 1 rfl ⟨trivial, trivial⟩ ?_
        exact pr_irT rfl (by first | exact Or.inl rfl | exact Or.inr rfl | exact pr_b01 _ | assumption) (by exact ln_err (fr_rd4 f1) (hf4 c4).1 (hf4 c4).2)
    · simp only [ab_cmp, pr_16_320, pr_i_0, pr_i_1, pr_i_3] at h4
      first
      | contradiction
      | exact absurd trivial h4
      | exact absurd h4 (by decide)
      | exact absurd (Classical.not_not.mp h4) (by decide)
      | skip
        fail
  · rw [if_neg c4]
    rw [decide_eq_true c4] at hadv
    have key : ∀ I1 : Nat → Nat → Int32, rd4 M.1 I1 → I1 4 5 = nI e → I1 4 6 = nI k → I1 4 7 = nI s → I1 4 3 = M.1 4 3 → I1 4 4 = M.1 4 4 → I1 4 9 = M.1 4 9 → pr_T pX6_tellList 7 [some (.ref 4), none] [] h (I1, M.2) (ln_p t M (match aLst w P (k, s, e, v) with
        | .error e => .error e
        | .ok P' => lstMore w 320 P' e)) := by
      intro I1 f1 j5 j6 j7 j3 j4 j9
      have hadd := c_addListed (v := v) (P := P) h (I1, M.2) ht5 hr ht (tp_rd4 f1 hw) (ps_rd4 ht5 f1 j3 j4 hps) j5 j6 j7 (by omega) (by omega) (by omega) hwd
      cases ha : aLst w P (k, s, e, v) with
      | error q =>
        rw [ha] at hadd
        refine pr_seqT (pc' := 8) 1 rfl ⟨trivial, (by first | assumption | decide | exact ⟨Or.inl (by assumption), by assumption⟩ | exact ⟨by assumption, by assumption⟩ | omega)⟩ ?_
        refine pr_cvX [] rfl rfl rfl rfl rfl (Nat.le_of_ble_eq_true rfl) (by first | assumption | decide | exact ⟨Or.inl (by assumption), by assumption⟩ | exact ⟨by assumption, by assumption⟩ | omega) (Nat.le_of_ble_eq_true rfl) (hadd) (fun v8 M8 q8 => ?_)
        obtain ⟨rfl, e2, f2, m1, m2⟩ := q8
        obtain ⟨I2, Z2⟩ := M8
        dsimp only at e2 f2 m1 m2
        subst e2
        simp only [okB]
        refine pr_ifT rfl (fun h11 => ?_) (fun h11 => ?_)
        · simp only [ab_cmp, pr_16_320, pr_i_0, pr_i_1, pr_i_3] at h11
          first
          | contradiction
          | exact absurd trivial h11
          | exact absurd h11 (by decide)
          | exact absurd (Classical.not_not.mp h11) (by decide)
          | skip
            fail
        · simp only [ab_cmp, pr_16_320, pr_i_0, pr_i_1, pr_i_3] at h11
          first
          | contradiction
          | exact absurd trivial h11
          | exact absurd h11 (by decide)
          | exact absurd (Classical.not_not.mp h11) (by decide)
          | skip
            refine pr_seqT (pc' := 15) 1 rfl ⟨trivial, trivial⟩ ?_
            exact pr_irT rfl (by first | exact Or.inl rfl | exact Or.inr rfl | exact pr_b01 _ | assumption) (by exact ln_err (fr_trans (fr_rd4 f1) f2) m1 m2)
      | ok P' =>
        rw [ha] at hadd
        obtain ⟨l1, l2⟩ := aLst_len ha
        dsimp only
        have hm := fun I2 => c_lstMore h M ht5 hr ht hw 320 0 (by omega) P' e I2 (by omega) l2
        refine pr_seqT (pc' := 8) 1 rfl ⟨trivial, (by first | assumption | decide | exact ⟨Or.inl (by assumption), by assumption⟩ | exact ⟨by assumption, by assumption⟩ | omega)⟩ ?_
        refine pr_cvX [] rfl rfl rfl rfl rfl (Nat.le_of_ble_eq_true rfl) (by first | assumption | decide | exact ⟨Or.inl (by assumption), by assumption⟩ | exact ⟨by assumption, by assumption⟩ | omega) (Nat.le_of_ble_eq_true rfl) (hadd) (fun v8 M8 q8 => ?_)
        obtain ⟨rfl, e2, f2, m1, m2, m3⟩ := q8
        obtain ⟨I2, Z2⟩ := M8
        dsimp only at e2 f2 m1 m2 m3
        subst e2
        simp only [okB]
        refine pr_ifT rfl (fun h11 => ?_) (fun h11 => ?_)
        · simp only [ab_cmp, pr_16_320, pr_i_0, pr_i_1, pr_i_3] at h11
          first
          | contradiction
          | exact absurd trivial h11
          | exact absurd h11 (by decide)
          | exact absurd (Classical.not_not.mp h11) (by decide)
          | skip
            refine pr_seqT (pc' := 18) 2 rfl ⟨⟨trivial, trivial⟩, trivial⟩ ?_
            exact hm I2 (fr_trans (fr_rd4 f1) f2) (by rw [m1, j9]) (by rw [m2]; exact j5) (by omega) m3
        · simp only [ab_cmp, pr_16_320, pr_i_0, pr_i_1, pr_i_3] at h11
          first
          | contradiction
          | exact absurd trivial h11
          | exact absurd h11 (by decide)
          | exact absurd (Classical.not_not.mp h11) (by decide)
          | skip
            fail
    refine pr_seqT (pc' := 1) 1 rfl ⟨trivial, (by first | assumption | decide | exact ⟨Or.inl (by assumption), by assumption⟩ | exact ⟨by assumption, by assumption⟩ | omega)⟩ ?_
    refine pr_cvX [] rfl rfl rfl rfl rfl (Nat.le_of_ble_eq_true rfl) (by first | assumption | decide | exact ⟨Or.inl (by assumption), by assumption⟩ | exact ⟨by assumption, by assumption⟩ | omega) (Nat.le_of_ble_eq_true rfl) (hadv) (fun v1 M1 q1 => ?_)
    obtain ⟨e2, f1, rfl, hf4, hn'⟩ := q1
    obtain ⟨I1, Z1⟩ := M1
    dsimp only at e2 f1 hf4 hn'
    subst e2
    obtain ⟨j5, j6, j7, j8, j3, j4, j9⟩ := hn' c4
    refine pr_ifT rfl (fun h4 => ?_) (fun h4 => ?_)
    · simp only [ab_cmp, pr_16_320, pr_i_0, pr_i_1, pr_i_3] at h4
      first
      | contradiction
      | exact absurd trivial h4
      | exact absurd h4 (by decide)
      | exact absurd (Classical.not_not.mp h4) (by decide)
      | skip
        fail
    · simp only [ab_cmp, pr_16_320, pr_i_0, pr_i_1, pr_i_3] at h4
      first
      | contradiction
      | exact absurd trivial h4
      | exact absurd h4 (by decide)
      | exact absurd (Classical.not_not.mp h4) (by decide)
      | skip
        exact key I1 f1 j5 j6 j7 j3 j4 j9
theorem c_tellLine {t kd s e v : Nat} {w : List Nat} {P : PS} (h : ab_H) (M : ab_M) (ht5 : 5 < t) (hr : pr_Rd h M.2.2 t) (ht : pr_Tl h M.2.2 t) (hw : tp_v M.1 w) (hps : ps_v M.1 t P) (g5 : M.1 4 5 = nI e) (g6 : M.1 4 6 = nI kd) (g7 : M.1 4 7 = nI s) (hkd : kd ≤ 4) (hse : s ≤ e) (he : e ≤ w.length) : pr_X pX6_tellLine [.ref 4] h M (ln_p t M (lnLine w P (kd, s, e, v))) := by
  obtain ⟨k4, -⟩ := id hr
  have n4 : (4 : Nat) ≠ 0 := by decide
  have s0 := c_says (a := 1000000) (k := 0) (v := v) ⟨rfl, by decide⟩ h M hr hw g6 g7 g5 hkd hse he
  have s1 := c_says (a := 1000001) (k := 1) (v := v) ⟨rfl, by decide⟩ h M hr hw g6 g7 g5 hkd hse he
  have s2 := c_says (a := 1000002) (k := 2) (v := v) ⟨rfl, by decide⟩ h M hr hw g6 g7 g5 hkd hse he
  have s3 := c_says (a := 1000003) (k := 3) (v := v) ⟨rfl, by decide⟩ h M hr hw g6 g7 g5 hkd hse he
  have s4 := c_says (a := 1000004) (k := 4) (v := v) ⟨rfl, by decide⟩ h M hr hw g6 g7 g5 hkd hse he
  have s5 := c_says (a := 1000005) (k := 5) (v := v) ⟨rfl, by decide⟩ h M hr hw g6 g7 g5 hkd hse he
  unfold lnLine
  dsimp only
  cases b0 : sy w (kd, s, e, v) 0 with
  | true =>
    rw [b0] at s0
    rw [if_pos rfl]
    refine pr_seqT (pc' := 3) 2 rfl ⟨⟨trivial, (by first | assumption | decide | exact ⟨Or.inl (by assumption), by assumption⟩ | exact ⟨by assumption, by assumption⟩ | omega)⟩, trivial⟩ ?_
    refine pr_cvT [_] rfl rfl rfl rfl rfl (Nat.le_of_ble_eq_true rfl) (by first | assumption | decide | exact ⟨Or.inl (by assumption), by assumption⟩ | exact ⟨by assumption, by assumption⟩ | omega) (Nat.le_of_ble_eq_true rfl) (s0) ?_
    refine pr_ifT rfl (fun h6 => ?_) (fun h6 => ?_)
    · simp only [ab_cmp, pr_i_2] at h6
      first
      | contradiction
      | exact absurd trivial h6
      | exact absurd h6 (by decide)
      | exact absurd (Classical.not_not.mp h6) (by decide)
      | skip
        fail
    · simp only [ab_cmp, pr_i_2] at h6
      first
      | contradiction
      | exact absurd trivial h6
      | exact absurd h6 (by decide)
      | exact absurd (Classical.not_not.mp h6) (by decide)
      | skip
        refine pr_seqT (pc' := 10) 1 rfl ⟨trivial, (by first | assumption | decide | exact ⟨Or.inl (by assumption), by assumption⟩ | exact ⟨by assumption, by assumption⟩ | omega)⟩ ?_
        refine pr_cvX [] rfl rfl rfl rfl rfl (Nat.le_of_ble_eq_true rfl) (by first | assumption | decide | exact ⟨Or.inl (by assumption), by assumption⟩ | exact ⟨by assumption, by assumption⟩ | omega) (Nat.le_of_ble_eq_true rfl) (c_tellLaw h M ht5 hr ht hw hps g5 g7 he) (fun v10 M10 q10 => ?_)
        obtain ⟨rfl, q10⟩ := q10
        exact pr_irT rfl (by first | exact Or.inl rfl | exact Or.inr rfl | exact pr_b01 _ | assumption) (by exact ⟨rfl, q10⟩)
  | false =>
    rw [b0] at s0
    rw [if_neg (by decide)]
    cases b1 : sy w (kd, s, e, v) 1 with
    | true =>
      rw [b1] at s1
      rw [if_pos rfl]
      refine pr_seqT (pc' := 3) 2 rfl ⟨⟨trivial, (by first | assumption | decide | exact ⟨Or.inl (by assumption), by assumption⟩ | exact ⟨by assumption, by assumption⟩ | omega)⟩, trivial⟩ ?_
      refine pr_cvT [_] rfl rfl rfl rfl rfl (Nat.le_of_ble_eq_true rfl) (by first | assumption | decide | exact ⟨Or.inl (by assumption), by assumption⟩ | exact ⟨by assumption, by assumption⟩ | omega) (Nat.le_of_ble_eq_true rfl) (s0) ?_
      refine pr_ifT rfl (fun h6 => ?_) (fun h6 => ?_)
      · simp only [ab_cmp, pr_i_2] at h6
        first
        | contradiction
        | exact absurd trivial h6
        | exact absurd h6 (by decide)
        | exact absurd (Classical.not_not.mp h6) (by decide)
        | skip
          refine pr_seqT (pc' := 17) 2 rfl ⟨⟨trivial, (by first | assumption | decide | exact ⟨Or.inl (by assumption), by assumption⟩ | exact ⟨by assumption, by assumption⟩ | omega)⟩, trivial⟩ ?_
          refine pr_cvT [_] rfl rfl rfl rfl rfl (Nat.le_of_ble_eq_true rfl) (by first | assumption | decide | exact ⟨Or.inl (by assumption), by assumption⟩ | exact ⟨by assumption, by assumption⟩ | omega) (Nat.le_of_ble_eq_true rfl) (s1) ?_
          refine pr_ifT rfl (fun h20 => ?_) (fun h20 => ?_)
          · simp only [ab_cmp, pr_i_2] at h20
            first
            | contradiction
            | exact absurd trivial h20
            | exact absurd h20 (by decide)
            | exact absurd (Classical.not_not.mp h20) (by decide)
            | skip
              fail
          · simp only [ab_cmp, pr_i_2] at h20
            first
            | contradiction
            | exact absurd trivial h20
            | exact absurd h20 (by decide)
            | exact absurd (Classical.not_not.mp h20) (by decide)
            | skip
              refine pr_seqT (pc' := 24) 1 rfl ⟨trivial, (by first | assumption | decide | exact ⟨Or.inl (by assumption), by assumption⟩ | exact ⟨by assumption, by assumption⟩ | omega)⟩ ?_
              refine pr_cvX [] rfl rfl rfl rfl rfl (Nat.le_of_ble_eq_true rfl) (by first | assumption | decide | exact ⟨Or.inl (by assumption), by assumption⟩ | exact ⟨by assumption, by assumption⟩ | omega) (Nat.le_of_ble_eq_true rfl) (c_tellFee h M ht5 hr ht hw hps g5 g7 he) (fun v24 M24 q24 => ?_)
              obtain ⟨rfl, q24⟩ := q24
              exact pr_irT rfl (by first | exact Or.inl rfl | exact Or.inr rfl | exact pr_b01 _ | assumption) (by exact ⟨rfl, q24⟩)
      · simp only [ab_cmp, pr_i_2] at h6
        first
        | contradiction
        | exact absurd trivial h6
        | exact absurd h6 (by decide)
        | exact absurd (Classical.not_not.mp h6) (by decide)
        | skip
          fail
    | false =>
      rw [b1] at s1
      rw [if_neg (by decide)]
      cases b2 : sy w (kd, s, e, v) 2 with
      | true =>
        rw [b2] at s2
        rw [if_pos rfl]
        refine pr_seqT (pc' := 3) 2 rfl ⟨⟨trivial, (by first | assumption | decide | exact ⟨Or.inl (by assumption), by assumption⟩ | exact ⟨by assumption, by assumption⟩ | omega)⟩, trivial⟩ ?_
        refine pr_cvT [_] rfl rfl rfl rfl rfl (Nat.le_of_ble_eq_true rfl) (by first | assumption | decide | exact ⟨Or.inl (by assumption), by assumption⟩ | exact ⟨by assumption, by assumption⟩ | omega) (Nat.le_of_ble_eq_true rfl) (s0) ?_
        refine pr_ifT rfl (fun h6 => ?_) (fun h6 => ?_)
        · simp only [ab_cmp, pr_i_2] at h6
          first
          | contradiction
          | exact absurd trivial h6
          | exact absurd h6 (by decide)
          | exact absurd (Classical.not_not.mp h6) (by decide)
          | skip
            refine pr_seqT (pc' := 17) 2 rfl ⟨⟨trivial, (by first | assumption | decide | exact ⟨Or.inl (by assumption), by assumption⟩ | exact ⟨by assumption, by assumption⟩ | omega)⟩, trivial⟩ ?_
            refine pr_cvT [_] rfl rfl rfl rfl rfl (Nat.le_of_ble_eq_true rfl) (by first | assumption | decide | exact ⟨Or.inl (by assumption), by assumption⟩ | exact ⟨by assumption, by assumption⟩ | omega) (Nat.le_of_ble_eq_true rfl) (s1) ?_
            refine pr_ifT rfl (fun h20 => ?_) (fun h20 => ?_)
            · simp only [ab_cmp, pr_i_2] at h20
              first
              | contradiction
              | exact absurd trivial h20
              | exact absurd h20 (by decide)
              | exact absurd (Classical.not_not.mp h20) (by decide)
              | skip
                refine pr_seqT (pc' := 31) 2 rfl ⟨⟨trivial, (by first | assumption | decide | exact ⟨Or.inl (by assumption), by assumption⟩ | exact ⟨by assumption, by assumption⟩ | omega)⟩, trivial⟩ ?_
                refine pr_cvT [_] rfl rfl rfl rfl rfl (Nat.le_of_ble_eq_true rfl) (by first | assumption | decide | exact ⟨Or.inl (by assumption), by assumption⟩ | exact ⟨by assumption, by assumption⟩ | omega) (Nat.le_of_ble_eq_true rfl) (s2) ?_
                refine pr_ifT rfl (fun h34 => ?_) (fun h34 => ?_)
                · simp only [ab_cmp, pr_i_2] at h34
                  first
                  | contradiction
                  | exact absurd trivial h34
                  | exact absurd h34 (by decide)
                  | exact absurd (Classical.not_not.mp h34) (by decide)
                  | skip
                    fail
                · simp only [ab_cmp, pr_i_2] at h34
                  first
                  | contradiction
                  | exact absurd trivial h34
                  | exact absurd h34 (by decide)
                  | exact absurd (Classical.not_not.mp h34) (by decide)
                  | skip
                    refine pr_seqT (pc' := 38) 1 rfl ⟨trivial, (by first | assumption | decide | exact ⟨Or.inl (by assumption), by assumption⟩ | exact ⟨by assumption, by assumption⟩ | omega)⟩ ?_
                    refine pr_cvX [] rfl rfl rfl rfl rfl (Nat.le_of_ble_eq_true rfl) (by first | assumption | decide | exact ⟨Or.inl (by assumption), by assumption⟩ | exact ⟨by assumption, by assumption⟩ | omega) (Nat.le_of_ble_eq_true rfl) (c_tellLetter (s := s) h M ht5 hr ht hw hps g5 he) (fun v38 M38 q38 => ?_)
                    obtain ⟨rfl, q38⟩ := q38
                    exact pr_irT rfl (by first | exact Or.inl rfl | exact Or.inr rfl | exact pr_b01 _ | assumption) (by exact ⟨rfl, q38⟩)
            · simp only [ab_cmp, pr_i_2] at h20
              first
              | contradiction
              | exact absurd trivial h20
              | exact absurd h20 (by decide)
              | exact absurd (Classical.not_not.mp h20) (by decide)
              | skip
                fail
        · simp only [ab_cmp, pr_i_2] at h6
          first
          | contradiction
          | exact absurd trivial h6
          | exact absurd h6 (by decide)
          | exact absurd (Classical.not_not.mp h6) (by decide)
          | skip
            fail
      | false =>
        rw [b2] at s2
        rw [if_neg (by decide)]
        cases b3 : sy w (kd, s, e, v) 3 with
        | true =>
          rw [b3] at s3
          rw [if_pos rfl]
          refine pr_seqT (pc' := 3) 2 rfl ⟨⟨trivial, (by first | assumption | decide | exact ⟨Or.inl (by assumption), by assumption⟩ | exact ⟨by assumption, by assumption⟩ | omega)⟩, trivial⟩ ?_
          refine pr_cvT [_] rfl rfl rfl rfl rfl (Nat.le_of_ble_eq_true rfl) (by first | assumption | decide | exact ⟨Or.inl (by assumption), by assumption⟩ | exact ⟨by assumption, by assumption⟩ | omega) (Nat.le_of_ble_eq_true rfl) (s0) ?_
          refine pr_ifT rfl (fun h6 => ?_) (fun h6 => ?_)
          · simp only [ab_cmp, pr_i_2] at h6
            first
            | contradiction
            | exact absurd trivial h6
            | exact absurd h6 (by decide)
            | exact absurd (Classical.not_not.mp h6) (by decide)
            | skip
              refine pr_seqT (pc' := 17) 2 rfl ⟨⟨trivial, (by first | assumption | decide | exact ⟨Or.inl (by assumption), by assumption⟩ | exact ⟨by assumption, by assumption⟩ | omega)⟩, trivial⟩ ?_
              refine pr_cvT [_] rfl rfl rfl rfl rfl (Nat.le_of_ble_eq_true rfl) (by first | assumption | decide | exact ⟨Or.inl (by assumption), by assumption⟩ | exact ⟨by assumption, by assumption⟩ | omega) (Nat.le_of_ble_eq_true rfl) (s1) ?_
              refine pr_ifT rfl (fun h20 => ?_) (fun h20 => ?_)
              · simp only [ab_cmp, pr_i_2] at h20
                first
                | contradiction
                | exact absurd trivial h20
                | exact absurd h20 (by decide)
                | exact absurd (Classical.not_not.mp h20) (by decide)
                | skip
                  refine pr_seqT (pc' := 31) 2 rfl ⟨⟨trivial, (by first | assumption | decide | exact ⟨Or.inl (by assumption), by assumption⟩ | exact ⟨by assumption, by assumption⟩ | omega)⟩, trivial⟩ ?_
                  refine pr_cvT [_] rfl rfl rfl rfl rfl (Nat.le_of_ble_eq_true rfl) (by first | assumption | decide | exact ⟨Or.inl (by assumption), by assumption⟩ | exact ⟨by assumption, by assumption⟩ | omega) (Nat.le_of_ble_eq_true rfl) (s2) ?_
                  refine pr_ifT rfl (fun h34 => ?_) (fun h34 => ?_)
                  · simp only [ab_cmp, pr_i_2] at h34
                    first
                    | contradiction
                    | exact absurd trivial h34
                    | exact absurd h34 (by decide)
                    | exact absurd (Classical.not_not.mp h34) (by decide)
                    | skip
                      refine pr_seqT (pc' := 45) 2 rfl ⟨⟨trivial, (by first | assumption | decide | exact ⟨Or.inl (by assumption), by assumption⟩ | exact ⟨by assumption, by assumption⟩ | omega)⟩, trivial⟩ ?_
                      refine pr_cvT [_] rfl rfl rfl rfl rfl (Nat.le_of_ble_eq_true rfl) (by first | assumption | decide | exact ⟨Or.inl (by assumption), by assumption⟩ | exact ⟨by assumption, by assumption⟩ | omega) (Nat.le_of_ble_eq_true rfl) (s3) ?_
                      refine pr_ifT rfl (fun h48 => ?_) (fun h48 => ?_)
                      · simp only [ab_cmp, pr_i_2] at h48
                        first
                        | contradiction
                        | exact absurd trivial h48
                        | exact absurd h48 (by decide)
                        | exact absurd (Classical.not_not.mp h48) (by decide)
                        | skip
                          fail
                      · simp only [ab_cmp, pr_i_2] at h48
                        first
                        | contradiction
                        | exact absurd trivial h48
                        | exact absurd h48 (by decide)
                        | exact absurd (Classical.not_not.mp h48) (by decide)
                        | skip
                          refine pr_seqT (pc' := 52) 1 rfl ⟨trivial, (by first | assumption | decide | exact ⟨Or.inl (by assumption), by assumption⟩ | exact ⟨by assumption, by assumption⟩ | omega)⟩ ?_
                          refine pr_cvX [] rfl rfl rfl rfl rfl (Nat.le_of_ble_eq_true rfl) (by first | assumption | decide | exact ⟨Or.inl (by assumption), by assumption⟩ | exact ⟨by assumption, by assumption⟩ | omega) (Nat.le_of_ble_eq_true rfl) (c_tellOne h M ht5 hr ht hw hps g5 g7 he) (fun v52 M52 q52 => ?_)
                          obtain ⟨rfl, q52⟩ := q52
                          exact pr_irT rfl (by first | exact Or.inl rfl | exact Or.inr rfl | exact pr_b01 _ | assumption) (by exact ⟨rfl, q52⟩)
                  · simp only [ab_cmp, pr_i_2] at h34
                    first
                    | contradiction
                    | exact absurd trivial h34
                    | exact absurd h34 (by decide)
                    | exact absurd (Classical.not_not.mp h34) (by decide)
                    | skip
                      fail
              · simp only [ab_cmp, pr_i_2] at h20
                first
                | contradiction
                | exact absurd trivial h20
                | exact absurd h20 (by decide)
                | exact absurd (Classical.not_not.mp h20) (by decide)
                | skip
                  fail
          · simp only [ab_cmp, pr_i_2] at h6
            first
            | contradiction
            | exact absurd trivial h6
            | exact absurd h6 (by decide)
            | exact absurd (Classical.not_not.mp h6) (by decide)
            | skip
              fail
        | false =>
          rw [b3] at s3
          rw [if_neg (by decide)]
          cases b4 : sy w (kd, s, e, v) 4 with
          | true =>
            rw [b4] at s4
            rw [if_pos rfl]
            refine pr_seqT (pc' := 3) 2 rfl ⟨⟨trivial, (by first | assumption | decide | exact ⟨Or.inl (by assumption), by assumption⟩ | exact ⟨by assumption, by assumption⟩ | omega)⟩, trivial⟩ ?_
            refine pr_cvT [_] rfl rfl rfl rfl rfl (Nat.le_of_ble_eq_true rfl) (by first | assumption | decide | exact ⟨Or.inl (by assumption), by assumption⟩ | exact ⟨by assumption, by assumption⟩ | omega) (Nat.le_of_ble_eq_true rfl) (s0) ?_
            refine pr_ifT rfl (fun h6 => ?_) (fun h6 => ?_)
            · simp only [ab_cmp, pr_i_2] at h6
              first
              | contradiction
              | exact absurd trivial h6
              | exact absurd h6 (by decide)
              | exact absurd (Classical.not_not.mp h6) (by decide)
              | skip
                refine pr_seqT (pc' := 17) 2 rfl ⟨⟨trivial, (by first | assumption | decide | exact ⟨Or.inl (by assumption), by assumption⟩ | exact ⟨by assumption, by assumption⟩ | omega)⟩, trivial⟩ ?_
                refine pr_cvT [_] rfl rfl rfl rfl rfl (Nat.le_of_ble_eq_true rfl) (by first | assumption | decide | exact ⟨Or.inl (by assumption), by assumption⟩ | exact ⟨by assumption, by assumption⟩ | omega) (Nat.le_of_ble_eq_true rfl) (s1) ?_
                refine pr_ifT rfl (fun h20 => ?_) (fun h20 => ?_)
                · simp only [ab_cmp, pr_i_2] at h20
                  first
                  | contradiction
                  | exact absurd trivial h20
                  | exact absurd h20 (by decide)
                  | exact absurd (Classical.not_not.mp h20) (by decide)
                  | skip
                    refine pr_seqT (pc' := 31) 2 rfl ⟨⟨trivial, (by first | assumption | decide | exact ⟨Or.inl (by assumption), by assumption⟩ | exact ⟨by assumption, by assumption⟩ | omega)⟩, trivial⟩ ?_
                    refine pr_cvT [_] rfl rfl rfl rfl rfl (Nat.le_of_ble_eq_true rfl) (by first | assumption | decide | exact ⟨Or.inl (by assumption), by assumption⟩ | exact ⟨by assumption, by assumption⟩ | omega) (Nat.le_of_ble_eq_true rfl) (s2) ?_
                    refine pr_ifT rfl (fun h34 => ?_) (fun h34 => ?_)
                    · simp only [ab_cmp, pr_i_2] at h34
                      first
                      | contradiction
                      | exact absurd trivial h34
                      | exact absurd h34 (by decide)
                      | exact absurd (Classical.not_not.mp h34) (by decide)
                      | skip
                        refine pr_seqT (pc' := 45) 2 rfl ⟨⟨trivial, (by first | assumption | decide | exact ⟨Or.inl (by assumption), by assumption⟩ | exact ⟨by assumption, by assumption⟩ | omega)⟩, trivial⟩ ?_
                        refine pr_cvT [_] rfl rfl rfl rfl rfl (Nat.le_of_ble_eq_true rfl) (by first | assumption | decide | exact ⟨Or.inl (by assumption), by assumption⟩ | exact ⟨by assumption, by assumption⟩ | omega) (Nat.le_of_ble_eq_true rfl) (s3) ?_
                        refine pr_ifT rfl (fun h48 => ?_) (fun h48 => ?_)
                        · simp only [ab_cmp, pr_i_2] at h48
                          first
                          | contradiction
                          | exact absurd trivial h48
                          | exact absurd h48 (by decide)
                          | exact absurd (Classical.not_not.mp h48) (by decide)
                          | skip
                            refine pr_seqT (pc' := 59) 2 rfl ⟨⟨trivial, (by first | assumption | decide | exact ⟨Or.inl (by assumption), by assumption⟩ | exact ⟨by assumption, by assumption⟩ | omega)⟩, trivial⟩ ?_
                            refine pr_cvT [_] rfl rfl rfl rfl rfl (Nat.le_of_ble_eq_true rfl) (by first | assumption | decide | exact ⟨Or.inl (by assumption), by assumption⟩ | exact ⟨by assumption, by assumption⟩ | omega) (Nat.le_of_ble_eq_true rfl) (s4) ?_
                            refine pr_ifT rfl (fun h62 => ?_) (fun h62 => ?_)
                            · simp only [ab_cmp, pr_i_2] at h62
                              first
                              | contradiction
                              | exact absurd trivial h62
                              | exact absurd h62 (by decide)
                              | exact absurd (Classical.not_not.mp h62) (by decide)
                              | skip
                                fail
                            · simp only [ab_cmp, pr_i_2] at h62
                              first
                              | contradiction
                              | exact absurd trivial h62
                              | exact absurd h62 (by decide)
                              | exact absurd (Classical.not_not.mp h62) (by decide)
                              | skip
                                refine pr_seqT (pc' := 66) 1 rfl ⟨trivial, (by first | assumption | decide | exact ⟨Or.inl (by assumption), by assumption⟩ | exact ⟨by assumption, by assumption⟩ | omega)⟩ ?_
                                refine pr_cvX [] rfl rfl rfl rfl rfl (Nat.le_of_ble_eq_true rfl) (by first | assumption | decide | exact ⟨Or.inl (by assumption), by assumption⟩ | exact ⟨by assumption, by assumption⟩ | omega) (Nat.le_of_ble_eq_true rfl) (c_tellList h M ht5 hr ht hw hps g5 he) (fun v66 M66 q66 => ?_)
                                obtain ⟨rfl, q66⟩ := q66
                                exact pr_irT rfl (by first | exact Or.inl rfl | exact Or.inr rfl | exact pr_b01 _ | assumption) (by exact ⟨rfl, q66⟩)
                        · simp only [ab_cmp, pr_i_2] at h48
                          first
                          | contradiction
                          | exact absurd trivial h48
                          | exact absurd h48 (by decide)
                          | exact absurd (Classical.not_not.mp h48) (by decide)
                          | skip
                            fail
                    · simp only [ab_cmp, pr_i_2] at h34
                      first
                      | contradiction
                      | exact absurd trivial h34
                      | exact absurd h34 (by decide)
                      | exact absurd (Classical.not_not.mp h34) (by decide)
                      | skip
                        fail
                · simp only [ab_cmp, pr_i_2] at h20
                  first
                  | contradiction
                  | exact absurd trivial h20
                  | exact absurd h20 (by decide)
                  | exact absurd (Classical.not_not.mp h20) (by decide)
                  | skip
                    fail
            · simp only [ab_cmp, pr_i_2] at h6
              first
              | contradiction
              | exact absurd trivial h6
              | exact absurd h6 (by decide)
              | exact absurd (Classical.not_not.mp h6) (by decide)
              | skip
                fail
          | false =>
            rw [b4] at s4
            rw [if_neg (by decide)]
            cases b5 : sy w (kd, s, e, v) 5 with
            | true =>
              rw [b5] at s5
              rw [if_pos rfl]
              refine pr_seqT (pc' := 3) 2 rfl ⟨⟨trivial, (by first | assumption | decide | exact ⟨Or.inl (by assumption), by assumption⟩ | exact ⟨by assumption, by assumption⟩ | omega)⟩, trivial⟩ ?_
              refine pr_cvT [_] rfl rfl rfl rfl rfl (Nat.le_of_ble_eq_true rfl) (by first | assumption | decide | exact ⟨Or.inl (by assumption), by assumption⟩ | exact ⟨by assumption, by assumption⟩ | omega) (Nat.le_of_ble_eq_true rfl) (s0) ?_
              refine pr_ifT rfl (fun h6 => ?_) (fun h6 => ?_)
              · simp only [ab_cmp, pr_i_2] at h6
                first
                | contradiction
                | exact absurd trivial h6
                | exact absurd h6 (by decide)
                | exact absurd (Classical.not_not.mp h6) (by decide)
                | skip
                  refine pr_seqT (pc' := 17) 2 rfl ⟨⟨trivial, (by first | assumption | decide | exact ⟨Or.inl (by assumption), by assumption⟩ | exact ⟨by assumption, by assumption⟩ | omega)⟩, trivial⟩ ?_
                  refine pr_cvT [_] rfl rfl rfl rfl rfl (Nat.le_of_ble_eq_true rfl) (by first | assumption | decide | exact ⟨Or.inl (by assumption), by assumption⟩ | exact ⟨by assumption, by assumption⟩ | omega) (Nat.le_of_ble_eq_true rfl) (s1) ?_
                  refine pr_ifT rfl (fun h20 => ?_) (fun h20 => ?_)
                  · simp only [ab_cmp, pr_i_2] at h20
                    first
                    | contradiction
                    | exact absurd trivial h20
                    | exact absurd h20 (by decide)
                    | exact absurd (Classical.not_not.mp h20) (by decide)
                    | skip
                      refine pr_seqT (pc' := 31) 2 rfl ⟨⟨trivial, (by first | assumption | decide | exact ⟨Or.inl (by assumption), by assumption⟩ | exact ⟨by assumption, by assumption⟩ | omega)⟩, trivial⟩ ?_
                      refine pr_cvT [_] rfl rfl rfl rfl rfl (Nat.le_of_ble_eq_true rfl) (by first | assumption | decide | exact ⟨Or.inl (by assumption), by assumption⟩ | exact ⟨by assumption, by assumption⟩ | omega) (Nat.le_of_ble_eq_true rfl) (s2) ?_
                      refine pr_ifT rfl (fun h34 => ?_) (fun h34 => ?_)
                      · simp only [ab_cmp, pr_i_2] at h34
                        first
                        | contradiction
                        | exact absurd trivial h34
                        | exact absurd h34 (by decide)
                        | exact absurd (Classical.not_not.mp h34) (by decide)
                        | skip
                          refine pr_seqT (pc' := 45) 2 rfl ⟨⟨trivial, (by first | assumption | decide | exact ⟨Or.inl (by assumption), by assumption⟩ | exact ⟨by assumption, by assumption⟩ | omega)⟩, trivial⟩ ?_
                          refine pr_cvT [_] rfl rfl rfl rfl rfl (Nat.le_of_ble_eq_true rfl) (by first | assumption | decide | exact ⟨Or.inl (by assumption), by assumption⟩ | exact ⟨by assumption, by assumption⟩ | omega) (Nat.le_of_ble_eq_true rfl) (s3) ?_
                          refine pr_ifT rfl (fun h48 => ?_) (fun h48 => ?_)
                          · simp only [ab_cmp, pr_i_2] at h48
                            first
                            | contradiction
                            | exact absurd trivial h48
                            | exact absurd h48 (by decide)
                            | exact absurd (Classical.not_not.mp h48) (by decide)
                            | skip
                              refine pr_seqT (pc' := 59) 2 rfl ⟨⟨trivial, (by first | assumption | decide | exact ⟨Or.inl (by assumption), by assumption⟩ | exact ⟨by assumption, by assumption⟩ | omega)⟩, trivial⟩ ?_
                              refine pr_cvT [_] rfl rfl rfl rfl rfl (Nat.le_of_ble_eq_true rfl) (by first | assumption | decide | exact ⟨Or.inl (by assumption), by assumption⟩ | exact ⟨by assumption, by assumption⟩ | omega) (Nat.le_of_ble_eq_true rfl) (s4) ?_
                              refine pr_ifT rfl (fun h62 => ?_) (fun h62 => ?_)
                              · simp only [ab_cmp, pr_i_2] at h62
                                first
                                | contradiction
                                | exact absurd trivial h62
                                | exact absurd h62 (by decide)
                                | exact absurd (Classical.not_not.mp h62) (by decide)
                                | skip
                                  refine pr_seqT (pc' := 73) 2 rfl ⟨⟨trivial, (by first | assumption | decide | exact ⟨Or.inl (by assumption), by assumption⟩ | exact ⟨by assumption, by assumption⟩ | omega)⟩, trivial⟩ ?_
                                  refine pr_cvT [_] rfl rfl rfl rfl rfl (Nat.le_of_ble_eq_true rfl) (by first | assumption | decide | exact ⟨Or.inl (by assumption), by assumption⟩ | exact ⟨by assumption, by assumption⟩ | omega) (Nat.le_of_ble_eq_true rfl) (s5) ?_
                                  refine pr_ifT rfl (fun h76 => ?_) (fun h76 => ?_)
                                  · simp only [ab_cmp, pr_i_2] at h76
                                    first
                                    | contradiction
                                    | exact absurd trivial h76
                                    | exact absurd h76 (by decide)
                                    | exact absurd (Classical.not_not.mp h76) (by decide)
                                    | skip
                                      fail
                                  · simp only [ab_cmp, pr_i_2] at h76
                                    first
                                    | contradiction
                                    | exact absurd trivial h76
                                    | exact absurd h76 (by decide)
                                    | exact absurd (Classical.not_not.mp h76) (by decide)
                                    | skip
                                      refine pr_seqT (pc' := 80) 1 rfl ⟨trivial, (by first | assumption | decide | exact ⟨Or.inl (by assumption), by assumption⟩ | exact ⟨by assumption, by assumption⟩ | omega)⟩ ?_
                                      refine pr_cvX [] rfl rfl rfl rfl rfl (Nat.le_of_ble_eq_true rfl) (by first | assumption | decide | exact ⟨Or.inl (by assumption), by assumption⟩ | exact ⟨by assumption, by assumption⟩ | omega) (Nat.le_of_ble_eq_true rfl) (c_tellKnown h M ht5 hr ht hw hps g5 g7 he) (fun v80 M80 q80 => ?_)
                                      obtain ⟨rfl, q80⟩ := q80
                                      exact pr_irT rfl (by first | exact Or.inl rfl | exact Or.inr rfl | exact pr_b01 _ | assumption) (by exact ⟨rfl, q80⟩)
                              · simp only [ab_cmp, pr_i_2] at h62
                                first
                                | contradiction
                                | exact absurd trivial h62
                                | exact absurd h62 (by decide)
                                | exact absurd (Classical.not_not.mp h62) (by decide)
                                | skip
                                  fail
                          · simp only [ab_cmp, pr_i_2] at h48
                            first
                            | contradiction
                            | exact absurd trivial h48
                            | exact absurd h48 (by decide)
                            | exact absurd (Classical.not_not.mp h48) (by decide)
                            | skip
                              fail
                      · simp only [ab_cmp, pr_i_2] at h34
                        first
                        | contradiction
                        | exact absurd trivial h34
                        | exact absurd h34 (by decide)
                        | exact absurd (Classical.not_not.mp h34) (by decide)
                        | skip
                          fail
                  · simp only [ab_cmp, pr_i_2] at h20
                    first
                    | contradiction
                    | exact absurd trivial h20
                    | exact absurd h20 (by decide)
                    | exact absurd (Classical.not_not.mp h20) (by decide)
                    | skip
                      fail
              · simp only [ab_cmp, pr_i_2] at h6
                first
                | contradiction
                | exact absurd trivial h6
                | exact absurd h6 (by decide)
                | exact absurd (Classical.not_not.mp h6) (by decide)
                | skip
                  fail
            | false =>
              rw [b5] at s5
              rw [if_neg (by decide)]
              refine pr_seqT (pc' := 3) 2 rfl ⟨⟨trivial, (by first | assumption | (simp only [g7, pr_i_2]; first | assumption | decide | exact ⟨by assumption, by assumption⟩ | exact ⟨Or.inl (by assumption), by assumption⟩ | omega) | decide | exact ⟨Or.inl (by assumption), by assumption⟩ | exact ⟨by assumption, by assumption⟩ | omega)⟩, trivial⟩ ?_
              try simp only [g7, pr_i_2]
              refine pr_cvT [_] rfl rfl rfl rfl rfl (Nat.le_of_ble_eq_true rfl) (by first | assumption | (simp only [g7, pr_i_2]; first | assumption | decide | exact ⟨by assumption, by assumption⟩ | exact ⟨Or.inl (by assumption), by assumption⟩ | omega) | decide | exact ⟨Or.inl (by assumption), by assumption⟩ | exact ⟨by assumption, by assumption⟩ | omega) (Nat.le_of_ble_eq_true rfl) (s0) ?_
              refine pr_ifT rfl (fun h6 => ?_) (fun h6 => ?_)
              · simp only [ab_cmp, pr_i_2] at h6
                first
                | contradiction
                | exact absurd trivial h6
                | exact absurd h6 (by decide)
                | exact absurd (Classical.not_not.mp h6) (by decide)
                | skip
                  refine pr_seqT (pc' := 17) 2 rfl ⟨⟨trivial, (by first | assumption | (simp only [g7, pr_i_2]; first | assumption | decide | exact ⟨by assumption, by assumption⟩ | exact ⟨Or.inl (by assumption), by assumption⟩ | omega) | decide | exact ⟨Or.inl (by assumption), by assumption⟩ | exact ⟨by assumption, by assumption⟩ | omega)⟩, trivial⟩ ?_
                  try simp only [g7, pr_i_2]
                  refine pr_cvT [_] rfl rfl rfl rfl rfl (Nat.le_of_ble_eq_true rfl) (by first | assumption | (simp only [g7, pr_i_2]; first | assumption | decide | exact ⟨by assumption, by assumption⟩ | exact ⟨Or.inl (by assumption), by assumption⟩ | omega) | decide | exact ⟨Or.inl (by assumption), by assumption⟩ | exact ⟨by assumption, by assumption⟩ | omega) (Nat.le_of_ble_eq_true rfl) (s1) ?_
                  refine pr_ifT rfl (fun h20 => ?_) (fun h20 => ?_)
                  · simp only [ab_cmp, pr_i_2] at h20
                    first
                    | contradiction
                    | exact absurd trivial h20
                    | exact absurd h20 (by decide)
                    | exact absurd (Classical.not_not.mp h20) (by decide)
                    | skip
                      refine pr_seqT (pc' := 31) 2 rfl ⟨⟨trivial, (by first | assumption | (simp only [g7, pr_i_2]; first | assumption | decide | exact ⟨by assumption, by assumption⟩ | exact ⟨Or.inl (by assumption), by assumption⟩ | omega) | decide | exact ⟨Or.inl (by assumption), by assumption⟩ | exact ⟨by assumption, by assumption⟩ | omega)⟩, trivial⟩ ?_
                      try simp only [g7, pr_i_2]
                      refine pr_cvT [_] rfl rfl rfl rfl rfl (Nat.le_of_ble_eq_true rfl) (by first | assumption | (simp only [g7, pr_i_2]; first | assumption | decide | exact ⟨by assumption, by assumption⟩ | exact ⟨Or.inl (by assumption), by assumption⟩ | omega) | decide | exact ⟨Or.inl (by assumption), by assumption⟩ | exact ⟨by assumption, by assumption⟩ | omega) (Nat.le_of_ble_eq_true rfl) (s2) ?_
                      refine pr_ifT rfl (fun h34 => ?_) (fun h34 => ?_)
                      · simp only [ab_cmp, pr_i_2] at h34
                        first
                        | contradiction
                        | exact absurd trivial h34
                        | exact absurd h34 (by decide)
                        | exact absurd (Classical.not_not.mp h34) (by decide)
                        | skip
                          refine pr_seqT (pc' := 45) 2 rfl ⟨⟨trivial, (by first | assumption | (simp only [g7, pr_i_2]; first | assumption | decide | exact ⟨by assumption, by assumption⟩ | exact ⟨Or.inl (by assumption), by assumption⟩ | omega) | decide | exact ⟨Or.inl (by assumption), by assumption⟩ | exact ⟨by assumption, by assumption⟩ | omega)⟩, trivial⟩ ?_
                          try simp only [g7, pr_i_2]
                          refine pr_cvT [_] rfl rfl rfl rfl rfl (Nat.le_of_ble_eq_true rfl) (by first | assumption | (simp only [g7, pr_i_2]; first | assumption | decide | exact ⟨by assumption, by assumption⟩ | exact ⟨Or.inl (by assumption), by assumption⟩ | omega) | decide | exact ⟨Or.inl (by assumption), by assumption⟩ | exact ⟨by assumption, by assumption⟩ | omega) (Nat.le_of_ble_eq_true rfl) (s3) ?_
                          refine pr_ifT rfl (fun h48 => ?_) (fun h48 => ?_)
                          · simp only [ab_cmp, pr_i_2] at h48
                            first
                            | contradiction
                            | exact absurd trivial h48
                            | exact absurd h48 (by decide)
                            | exact absurd (Classical.not_not.mp h48) (by decide)
                            | skip
                              refine pr_seqT (pc' := 59) 2 rfl ⟨⟨trivial, (by first | assumption | (simp only [g7, pr_i_2]; first | assumption | decide | exact ⟨by assumption, by assumption⟩ | exact ⟨Or.inl (by assumption), by assumption⟩ | omega) | decide | exact ⟨Or.inl (by assumption), by assumption⟩ | exact ⟨by assumption, by assumption⟩ | omega)⟩, trivial⟩ ?_
                              try simp only [g7, pr_i_2]
                              refine pr_cvT [_] rfl rfl rfl rfl rfl (Nat.le_of_ble_eq_true rfl) (by first | assumption | (simp only [g7, pr_i_2]; first | assumption | decide | exact ⟨by assumption, by assumption⟩ | exact ⟨Or.inl (by assumption), by assumption⟩ | omega) | decide | exact ⟨Or.inl (by assumption), by assumption⟩ | exact ⟨by assumption, by assumption⟩ | omega) (Nat.le_of_ble_eq_true rfl) (s4) ?_
                              refine pr_ifT rfl (fun h62 => ?_) (fun h62 => ?_)
                              · simp only [ab_cmp, pr_i_2] at h62
                                first
                                | contradiction
                                | exact absurd trivial h62
                                | exact absurd h62 (by decide)
                                | exact absurd (Classical.not_not.mp h62) (by decide)
                                | skip
                                  refine pr_seqT (pc' := 73) 2 rfl ⟨⟨trivial, (by first | assumption | (simp only [g7, pr_i_2]; first | assumption | decide | exact ⟨by assumption, by assumption⟩ | exact ⟨Or.inl (by assumption), by assumption⟩ | omega) | decide | exact ⟨Or.inl (by assumption), by assumption⟩ | exact ⟨by assumption, by assumption⟩ | omega)⟩, trivial⟩ ?_
                                  try simp only [g7, pr_i_2]
                                  refine pr_cvT [_] rfl rfl rfl rfl rfl (Nat.le_of_ble_eq_true rfl) (by first | assumption | (simp only [g7, pr_i_2]; first | assumption | decide | exact ⟨by assumption, by assumption⟩ | exact ⟨Or.inl (by assumption), by assumption⟩ | omega) | decide | exact ⟨Or.inl (by assumption), by assumption⟩ | exact ⟨by assumption, by assumption⟩ | omega) (Nat.le_of_ble_eq_true rfl) (s5) ?_
                                  refine pr_ifT rfl (fun h76 => ?_) (fun h76 => ?_)
                                  · simp only [ab_cmp, pr_i_2] at h76
                                    first
                                    | contradiction
                                    | exact absurd trivial h76
                                    | exact absurd h76 (by decide)
                                    | exact absurd (Classical.not_not.mp h76) (by decide)
                                    | skip
                                      refine pr_seqT (pc' := 90) 4 rfl ⟨⟨⟨⟨trivial, (by first | assumption | (simp only [g7, pr_i_2]; first | assumption | decide | exact ⟨by assumption, by assumption⟩ | exact ⟨Or.inl (by assumption), by assumption⟩ | omega) | decide | exact ⟨Or.inl (by assumption), by assumption⟩ | exact ⟨by assumption, by assumption⟩ | omega)⟩, trivial⟩, (by first | assumption | (simp only [g7, pr_i_2]; first | assumption | decide | exact ⟨by assumption, by assumption⟩ | exact ⟨Or.inl (by assumption), by assumption⟩ | omega) | decide | exact ⟨Or.inl (by assumption), by assumption⟩ | exact ⟨by assumption, by assumption⟩ | omega)⟩, (by first | assumption | (simp only [g7, pr_i_2]; first | assumption | decide | exact ⟨by assumption, by assumption⟩ | exact ⟨Or.inl (by assumption), by assumption⟩ | omega) | decide | exact ⟨Or.inl (by assumption), by assumption⟩ | exact ⟨by assumption, by assumption⟩ | omega)⟩ ?_
                                      try simp only [g7, pr_i_2]
                                      refine pr_cvT [_, _] rfl rfl rfl rfl rfl (Nat.le_of_ble_eq_true rfl) (by first | assumption | (simp only [g7, pr_i_2]; first | assumption | decide | exact ⟨by assumption, by assumption⟩ | exact ⟨Or.inl (by assumption), by assumption⟩ | omega) | decide | exact ⟨Or.inl (by assumption), by assumption⟩ | exact ⟨by assumption, by assumption⟩ | omega) (Nat.le_of_ble_eq_true rfl) (c_refuse 2 (nI s) h M k4) ?_
                                      exact pr_irT rfl (by first | exact Or.inl rfl | exact Or.inr rfl | exact pr_b01 _ | assumption) (by exact ln_ref (c := 2) (fun _ _ _ _ => rfl))
                                  · simp only [ab_cmp, pr_i_2] at h76
                                    first
                                    | contradiction
                                    | exact absurd trivial h76
                                    | exact absurd h76 (by decide)
                                    | exact absurd (Classical.not_not.mp h76) (by decide)
                                    | skip
                                      fail
                              · simp only [ab_cmp, pr_i_2] at h62
                                first
                                | contradiction
                                | exact absurd trivial h62
                                | exact absurd h62 (by decide)
                                | exact absurd (Classical.not_not.mp h62) (by decide)
                                | skip
                                  fail
                          · simp only [ab_cmp, pr_i_2] at h48
                            first
                            | contradiction
                            | exact absurd trivial h48
                            | exact absurd h48 (by decide)
                            | exact absurd (Classical.not_not.mp h48) (by decide)
                            | skip
                              fail
                      · simp only [ab_cmp, pr_i_2] at h34
                        first
                        | contradiction
                        | exact absurd trivial h34
                        | exact absurd h34 (by decide)
                        | exact absurd (Classical.not_not.mp h34) (by decide)
                        | skip
                          fail
                  · simp only [ab_cmp, pr_i_2] at h20
                    first
                    | contradiction
                    | exact absurd trivial h20
                    | exact absurd h20 (by decide)
                    | exact absurd (Classical.not_not.mp h20) (by decide)
                    | skip
                      fail
              · simp only [ab_cmp, pr_i_2] at h6
                first
                | contradiction
                | exact absurd trivial h6
                | exact absurd h6 (by decide)
                | exact absurd (Classical.not_not.mp h6) (by decide)
                | skip
                  fail
theorem c_allKnown {t : Nat} {T : Tl} (h : ab_H) (M : ab_M) (ht5 : 5 < t) (hr : pr_Rd h M.2.2 t) (ht : pr_Tl h M.2.2 t) (hv : td_v M.1 t T) : pr_C pX6_allKnownAreListed [.ref 4] h M (some (.int (pr_b (allL T)))) h M := by
  obtain ⟨k4, r0, r1, r2, -⟩ := id hr
  obtain ⟨t0, t1, tr0, tr1, tr2, tr3, hg, -, ⟨kc, kd⟩, -⟩ := id ht
  obtain ⟨v1, v2, v3, v4, v5, v6, v7⟩ := id hv
  have n4 : (4 : Nat) ≠ 0 := by decide
  unfold allL
  have loop : ∀ dd i, i + dd = T.2.2.length → nb (fun i => !decide ((T.2.2.getD i (0, 0)).1 < T.2.1.length)) i = true → pr_E pX6_allKnownAreListed 2 [some (.ref 4), some (.int (nI i))] [] h M (some (.int (pr_b (nb (fun i => !decide ((T.2.2.getD i (0, 0)).1 < T.2.1.length)) T.2.2.length)))) h M := by
    intro dd
    induction dd with
    | zero =>
      intro i hi hn
      obtain rfl : i = T.2.2.length := by omega
      have e1 : nI T.2.2.length ≤ nI T.2.2.length := nI_le (Nat.le_refl _) (by omega)
      rw [hn]
      refine pr_seq (pc' := 10) 4 rfl ⟨⟨⟨⟨trivial, trivial⟩, (by first | assumption | (simp only [r2, v4, pr_i_0, pr_i_1]; first | assumption | decide | exact ⟨by assumption, by assumption⟩ | exact ⟨Or.inl (by assumption), by assumption⟩ | omega) | decide | exact ⟨Or.inl (by assumption), by assumption⟩ | exact ⟨by assumption, by assumption⟩ | omega)⟩, (by first | assumption | (simp only [r2, v4, pr_i_0, pr_i_1]; first | assumption | decide | exact ⟨by assumption, by assumption⟩ | exact ⟨Or.inl (by assumption), by assumption⟩ | omega) | decide | exact ⟨Or.inl (by assumption), by assumption⟩ | exact ⟨by assumption, by assumption⟩ | omega)⟩, (by first | assumption | (simp only [r2, v4, pr_i_0, pr_i_1]; first | assumption | decide | exact ⟨by assumption, by assumption⟩ | exact ⟨Or.inl (by assumption), by assumption⟩ | omega) | decide | exact ⟨Or.inl (by assumption), by assumption⟩ | exact ⟨by assumption, by assumption⟩ | omega)⟩ ?_
      try simp only [r2, v4, pr_i_0, pr_i_1]
      refine pr_ic rfl (fun h10 => ?_) (fun h10 => ?_)
      · simp only [ab_cmp, pr_i_0, pr_i_1] at h10
        first
        | contradiction
        | exact absurd trivial h10
        | exact absurd h10 (by decide)
        | exact absurd (Classical.not_not.mp h10) (by decide)
        | skip
          refine pr_seq (pc' := 41) 1 rfl ⟨trivial, trivial⟩ ?_
          try simp only [r2, v4, pr_i_0, pr_i_1]
          exact pr_irM rfl (by first | rfl | (simp only [r2, v4, pr_i_0, pr_i_1]; done) | (simp [pr_b, pr_i_0, pr_i_1, *]; done) | (simp_all [pr_b, pr_i_0, pr_i_1]; done)) (by first | exact Or.inl rfl | exact Or.inr rfl | exact pr_b01 _ | assumption) (by rfl)
      · simp only [ab_cmp, pr_i_0, pr_i_1] at h10
        first
        | contradiction
        | exact absurd trivial h10
        | exact absurd h10 (by decide)
        | exact absurd (Classical.not_not.mp h10) (by decide)
        | skip
          fail
    | succ dd ih =>
      intro i hi hn
      have e1 : ¬ nI T.2.2.length ≤ nI i := nI_ge (by omega) (by omega)
      have e3 : (nI i).toNatClampNeg = i := nI_clamp (by omega)
      have hk : T.2.2[i]? = some (T.2.2.getD i (0, 0)) := by rw [List.getD_eq_getElem?_getD, List.getElem?_eq_getElem (by omega)]; rfl
      obtain ⟨x1, x2, x3, x4⟩ := v7 i _ hk
      have w1 : vp_in (nI i) (ab_n h (t + 29)) := by rw [kd]; exact vp_in_nI (by omega) (by decide)
      have hli := c_lists (nI (T.2.2.getD i (0, 0)).1) h M t0 t1 v2
      rw [decide_eq_false (nI_pos (show (T.2.2.getD i (0, 0)).1 < 2 ^ 31 by omega))] at hli
      by_cases c : (T.2.2.getD i (0, 0)).1 < T.2.1.length
      · rw [decide_eq_false (nI_ge c (by omega)), show (!false && !false) = true from rfl] at hli
        have hh := ih (i + 1) (by omega) (by show (nb _ i && !(!decide ((T.2.2.getD i (0, 0)).1 < T.2.1.length))) = true; rw [hn, decide_eq_true c]; rfl)
        rw [← nI_1] at hh
        refine pr_seq (pc' := 10) 4 rfl ⟨⟨⟨⟨trivial, trivial⟩, (by first | assumption | (simp only [r2, v4, tr2, e3, x1, pr_i_0, pr_i_1]; first | assumption | decide | exact ⟨by assumption, by assumption⟩ | exact ⟨Or.inl (by assumption), by assumption⟩ | omega) | decide | exact ⟨Or.inl (by assumption), by assumption⟩ | exact ⟨by assumption, by assumption⟩ | omega)⟩, (by first | assumption | (simp only [r2, v4, tr2, e3, x1, pr_i_0, pr_i_1]; first | assumption | decide | exact ⟨by assumption, by assumption⟩ | exact ⟨Or.inl (by assumption), by assumption⟩ | omega) | decide | exact ⟨Or.inl (by assumption), by assumption⟩ | exact ⟨by assumption, by assumption⟩ | omega)⟩, (by first | assumption | (simp only [r2, v4, tr2, e3, x1, pr_i_0, pr_i_1]; first | assumption | decide | exact ⟨by assumption, by assumption⟩ | exact ⟨Or.inl (by assumption), by assumption⟩ | omega) | decide | exact ⟨Or.inl (by assumption), by assumption⟩ | exact ⟨by assumption, by assumption⟩ | omega)⟩ ?_
        try simp only [r2, v4, tr2, e3, x1, pr_i_0, pr_i_1]
        refine pr_ic rfl (fun h10 => ?_) (fun h10 => ?_)
        · simp only [ab_cmp, pr_i_0, pr_i_1] at h10
          first
          | contradiction
          | exact absurd trivial h10
          | exact absurd h10 (by decide)
          | exact absurd (Classical.not_not.mp h10) (by decide)
          | skip
            fail
        · simp only [ab_cmp, pr_i_0, pr_i_1] at h10
          first
          | contradiction
          | exact absurd trivial h10
          | exact absurd h10 (by decide)
          | exact absurd (Classical.not_not.mp h10) (by decide)
          | skip
            refine pr_seq (pc' := 26) 7 rfl ⟨⟨⟨⟨⟨⟨⟨trivial, (by first | assumption | (simp only [r2, v4, tr2, e3, x1, pr_i_0, pr_i_1]; first | assumption | decide | exact ⟨by assumption, by assumption⟩ | exact ⟨Or.inl (by assumption), by assumption⟩ | omega) | decide | exact ⟨Or.inl (by assumption), by assumption⟩ | exact ⟨by assumption, by assumption⟩ | omega)⟩, (by first | assumption | (simp only [r2, v4, tr2, e3, x1, pr_i_0, pr_i_1]; first | assumption | decide | exact ⟨by assumption, by assumption⟩ | exact ⟨Or.inl (by assumption), by assumption⟩ | omega) | decide | exact ⟨Or.inl (by assumption), by assumption⟩ | exact ⟨by assumption, by assumption⟩ | omega)⟩, (by first | assumption | (simp only [r2, v4, tr2, e3, x1, pr_i_0, pr_i_1]; first | assumption | decide | exact ⟨by assumption, by assumption⟩ | exact ⟨Or.inl (by assumption), by assumption⟩ | omega) | decide | exact ⟨Or.inl (by assumption), by assumption⟩ | exact ⟨by assumption, by assumption⟩ | omega)⟩, (by first | assumption | (simp only [r2, v4, tr2, e3, x1, pr_i_0, pr_i_1]; first | assumption | decide | exact ⟨by assumption, by assumption⟩ | exact ⟨Or.inl (by assumption), by assumption⟩ | omega) | decide | exact ⟨Or.inl (by assumption), by assumption⟩ | exact ⟨by assumption, by assumption⟩ | omega)⟩, (by first | assumption | (simp only [r2, v4, tr2, e3, x1, pr_i_0, pr_i_1]; first | assumption | decide | exact ⟨by assumption, by assumption⟩ | exact ⟨Or.inl (by assumption), by assumption⟩ | omega) | decide | exact ⟨Or.inl (by assumption), by assumption⟩ | exact ⟨by assumption, by assumption⟩ | omega)⟩, trivial⟩, (by first | assumption | (simp only [r2, v4, tr2, e3, x1, pr_i_0, pr_i_1]; first | assumption | decide | exact ⟨by assumption, by assumption⟩ | exact ⟨Or.inl (by assumption), by assumption⟩ | omega) | decide | exact ⟨Or.inl (by assumption), by assumption⟩ | exact ⟨by assumption, by assumption⟩ | omega)⟩ ?_
            try simp only [r2, v4, tr2, e3, x1, pr_i_0, pr_i_1]
            refine pr_cv [_] rfl rfl rfl rfl rfl (Nat.le_of_ble_eq_true rfl) (by first | assumption | (simp only [r2, v4, tr2, e3, x1, pr_i_0, pr_i_1]; first | assumption | decide | exact ⟨by assumption, by assumption⟩ | exact ⟨Or.inl (by assumption), by assumption⟩ | omega) | decide | exact ⟨Or.inl (by assumption), by assumption⟩ | exact ⟨by assumption, by assumption⟩ | omega) (Nat.le_of_ble_eq_true rfl) (hli) ?_
            refine pr_if rfl (fun h29 => ?_) (fun h29 => ?_)
            · simp only [ab_cmp, pr_i_0, pr_i_1] at h29
              first
              | contradiction
              | exact absurd trivial h29
              | exact absurd h29 (by decide)
              | exact absurd (Classical.not_not.mp h29) (by decide)
              | skip
                refine pr_seq (pc' := 2) 2 rfl ⟨⟨trivial, trivial⟩, trivial⟩ ?_
                try simp only [r2, v4, tr2, e3, x1, pr_i_0, pr_i_1]
                exact hh
            · simp only [ab_cmp, pr_i_0, pr_i_1] at h29
              first
              | contradiction
              | exact absurd trivial h29
              | exact absurd h29 (by decide)
              | exact absurd (Classical.not_not.mp h29) (by decide)
              | skip
                fail
      · rw [decide_eq_true (nI_le (show T.2.1.length ≤ (T.2.2.getD i (0, 0)).1 by omega) (by omega)), show (!false && !true) = false from rfl] at hli
        rw [nb_false (q := i) (show (!decide ((T.2.2.getD i (0, 0)).1 < T.2.1.length)) = true by rw [decide_eq_false c]; rfl) T.2.2.length (by omega)]
        refine pr_seq (pc' := 10) 4 rfl ⟨⟨⟨⟨trivial, trivial⟩, (by first | assumption | (simp only [r2, v4, tr2, e3, x1, pr_i_0, pr_i_1]; first | assumption | decide | exact ⟨by assumption, by assumption⟩ | exact ⟨Or.inl (by assumption), by assumption⟩ | omega) | decide | exact ⟨Or.inl (by assumption), by assumption⟩ | exact ⟨by assumption, by assumption⟩ | omega)⟩, (by first | assumption | (simp only [r2, v4, tr2, e3, x1, pr_i_0, pr_i_1]; first | assumption | decide | exact ⟨by assumption, by assumption⟩ | exact ⟨Or.inl (by assumption), by assumption⟩ | omega) | decide | exact ⟨Or.inl (by assumption), by assumption⟩ | exact ⟨by assumption, by assumption⟩ | omega)⟩, (by first | assumption | (simp only [r2, v4, tr2, e3, x1, pr_i_0, pr_i_1]; first | assumption | decide | exact ⟨by assumption, by assumption⟩ | exact ⟨Or.inl (by assumption), by assumption⟩ | omega) | decide | exact ⟨Or.inl (by assumption), by assumption⟩ | exact ⟨by assumption, by assumption⟩ | omega)⟩ ?_
        try simp only [r2, v4, tr2, e3, x1, pr_i_0, pr_i_1]
        refine pr_ic rfl (fun h10 => ?_) (fun h10 => ?_)
        · simp only [ab_cmp, pr_i_0, pr_i_1] at h10
          first
          | contradiction
          | exact absurd trivial h10
          | exact absurd h10 (by decide)
          | exact absurd (Classical.not_not.mp h10) (by decide)
          | skip
            fail
        · simp only [ab_cmp, pr_i_0, pr_i_1] at h10
          first
          | contradiction
          | exact absurd trivial h10
          | exact absurd h10 (by decide)
          | exact absurd (Classical.not_not.mp h10) (by decide)
          | skip
            refine pr_seq (pc' := 26) 7 rfl ⟨⟨⟨⟨⟨⟨⟨trivial, (by first | assumption | (simp only [r2, v4, tr2, e3, x1, pr_i_0, pr_i_1]; first | assumption | decide | exact ⟨by assumption, by assumption⟩ | exact ⟨Or.inl (by assumption), by assumption⟩ | omega) | decide | exact ⟨Or.inl (by assumption), by assumption⟩ | exact ⟨by assumption, by assumption⟩ | omega)⟩, (by first | assumption | (simp only [r2, v4, tr2, e3, x1, pr_i_0, pr_i_1]; first | assumption | decide | exact ⟨by assumption, by assumption⟩ | exact ⟨Or.inl (by assumption), by assumption⟩ | omega) | decide | exact ⟨Or.inl (by assumption), by assumption⟩ | exact ⟨by assumption, by assumption⟩ | omega)⟩, (by first | assumption | (simp only [r2, v4, tr2, e3, x1, pr_i_0, pr_i_1]; first | assumption | decide | exact ⟨by assumption, by assumption⟩ | exact ⟨Or.inl (by assumption), by assumption⟩ | omega) | decide | exact ⟨Or.inl (by assumption), by assumption⟩ | exact ⟨by assumption, by assumption⟩ | omega)⟩, (by first | assumption | (simp only [r2, v4, tr2, e3, x1, pr_i_0, pr_i_1]; first | assumption | decide | exact ⟨by assumption, by assumption⟩ | exact ⟨Or.inl (by assumption), by assumption⟩ | omega) | decide | exact ⟨Or.inl (by assumption), by assumption⟩ | exact ⟨by assumption, by assumption⟩ | omega)⟩, (by first | assumption | (simp only [r2, v4, tr2, e3, x1, pr_i_0, pr_i_1]; first | assumption | decide | exact ⟨by assumption, by assumption⟩ | exact ⟨Or.inl (by assumption), by assumption⟩ | omega) | decide | exact ⟨Or.inl (by assumption), by assumption⟩ | exact ⟨by assumption, by assumption⟩ | omega)⟩, trivial⟩, (by first | assumption | (simp only [r2, v4, tr2, e3, x1, pr_i_0, pr_i_1]; first | assumption | decide | exact ⟨by assumption, by assumption⟩ | exact ⟨Or.inl (by assumption), by assumption⟩ | omega) | decide | exact ⟨Or.inl (by assumption), by assumption⟩ | exact ⟨by assumption, by assumption⟩ | omega)⟩ ?_
            try simp only [r2, v4, tr2, e3, x1, pr_i_0, pr_i_1]
            refine pr_cv [_] rfl rfl rfl rfl rfl (Nat.le_of_ble_eq_true rfl) (by first | assumption | (simp only [r2, v4, tr2, e3, x1, pr_i_0, pr_i_1]; first | assumption | decide | exact ⟨by assumption, by assumption⟩ | exact ⟨Or.inl (by assumption), by assumption⟩ | omega) | decide | exact ⟨Or.inl (by assumption), by assumption⟩ | exact ⟨by assumption, by assumption⟩ | omega) (Nat.le_of_ble_eq_true rfl) (hli) ?_
            refine pr_if rfl (fun h29 => ?_) (fun h29 => ?_)
            · simp only [ab_cmp, pr_i_0, pr_i_1] at h29
              first
              | contradiction
              | exact absurd trivial h29
              | exact absurd h29 (by decide)
              | exact absurd (Classical.not_not.mp h29) (by decide)
              | skip
                fail
            · simp only [ab_cmp, pr_i_0, pr_i_1] at h29
              first
              | contradiction
              | exact absurd trivial h29
              | exact absurd h29 (by decide)
              | exact absurd (Classical.not_not.mp h29) (by decide)
              | skip
                refine pr_seq (pc' := 33) 1 rfl ⟨trivial, trivial⟩ ?_
                try simp only [r2, v4, tr2, e3, x1, pr_i_0, pr_i_1]
                exact pr_irM rfl (by first | rfl | (simp only [r2, v4, tr2, e3, x1, pr_i_0, pr_i_1]; done) | (simp [pr_b, pr_i_0, pr_i_1, *]; done) | (simp_all [pr_b, pr_i_0, pr_i_1]; done)) (by first | exact Or.inl rfl | exact Or.inr rfl | exact pr_b01 _ | assumption) (by rfl)
  refine pr_seq (pc' := 2) 2 rfl ⟨⟨trivial, trivial⟩, trivial⟩ ?_
  exact loop T.2.2.length 0 (by omega) rfl
