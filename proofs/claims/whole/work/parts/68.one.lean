
/-! ===== the line one ===== -/
def kd_p (o : Nat) (M : ab_M) (e : Except (Nat × Nat) (Nat × Nat)) (r : Option Value) (M' : ab_M) : Prop := r = some (.int (pr_b (okB e))) ∧ M'.2 = M.2 ∧ (∀ a, a ≠ 4 → a ≠ o → M'.1 a = M.1 a) ∧ match e with
  | .error q => M'.1 4 9 = nI q.1 ∧ M'.1 4 10 = nI q.2
  | .ok x => M'.1 4 3 = M.1 4 3 ∧ M'.1 4 4 = M.1 4 4 ∧ M'.1 4 9 = M.1 4 9 ∧ M'.1 o 1 = nI x.1 ∧ M'.1 4 5 = nI x.2
theorem kd_ok {o k s e : Nat} {M : ab_M} {I1 : Nat → Nat → Int32} (ho : 5 < o) (f1 : rd4 M.1 I1) (h3 : I1 4 3 = M.1 4 3) (h4 : I1 4 4 = M.1 4 4) (h9 : I1 4 9 = M.1 4 9) (h5 : I1 4 5 = nI e) : kd_p o M (.ok (k, e)) (some (.int (pr_b true))) (ab_u I1 o 1 (nI k), M.2) := ⟨rfl, rfl, fun a h4 ho => by dsimp only; rw [ab_u_ne ho]; exact f1 a h4, by dsimp only; rw [ab_u_ne (by omega)]; exact h3, by dsimp only; rw [ab_u_ne (by omega)]; exact h4, by dsimp only; rw [ab_u_ne (by omega)]; exact h9, by dsimp only; rw [ab_u_at], by dsimp only; rw [ab_u_ne (by omega)]; exact h5⟩
set_option maxHeartbeats 4000000 in
theorem c_takeKind {t o p : Nat} {w : List Nat} (h : ab_H) (M : ab_M) (hr : pr_Rd h M.2.2 t) (hw : tp_v M.1 w) (g5 : M.1 4 5 = nI p) (hp : p ≤ w.length) (ho : 5 < o) (hok : ab_k h o = 4) : pr_X pX6_takeKind [.ref 4, .ref o] h M (kd_p o M (tKind w p)) := by
  have k4 := hr.1
  have n4 : (4 : Nat) ≠ 0 := by decide
  have o0 : o ≠ 0 := by omega
  have hadv := c_advance h M hr hw g5 hp
  have hle := tok_le hp
  unfold adv_p at hadv
  unfold tKind
  generalize hT : tok w p = T at *
  obtain ⟨k, s, e, v⟩ := T
  dsimp only at *
  by_cases c4 : k = 4
  · rw [if_pos c4]
    rw [decide_eq_false (fun z => z c4)] at hadv
    refine pr_seqT (pc' := 1) 1 rfl ⟨trivial, (by first | assumption | decide | exact ⟨Or.inl (by assumption), by assumption⟩ | exact ⟨by assumption, by assumption⟩ | omega)⟩ ?_
    refine pr_cvX [] rfl rfl rfl rfl rfl (Nat.le_of_ble_eq_true rfl) (by first | assumption | decide | exact ⟨Or.inl (by assumption), by assumption⟩ | exact ⟨by assumption, by assumption⟩ | omega) (Nat.le_of_ble_eq_true rfl) (hadv) (fun v1 M1 q1 => ?_)
    obtain ⟨e2, f1, rfl, hf4, hn⟩ := q1
    obtain ⟨I1, Z1⟩ := M1
    dsimp only at e2 f1 hf4 hn
    subst e2
    refine pr_ifT rfl (fun h4 => ?_) (fun h4 => ?_)
    · simp only [ab_cmp, pr_i_0, pr_i_1, pr_i_2, pr_i_3, pr_i_4, pr_i_m1] at h4
      first
      | contradiction
      | exact absurd trivial h4
      | exact absurd h4 (by decide)
      | exact absurd (Classical.not_not.mp h4) (by decide)
      | skip
        fail
    · simp only [ab_cmp, pr_i_0, pr_i_1, pr_i_2, pr_i_3, pr_i_4, pr_i_m1] at h4
      first
      | contradiction
      | exact absurd trivial h4
      | exact absurd h4 (by decide)
      | exact absurd (Classical.not_not.mp h4) (by decide)
      | skip
        refine pr_seqT (pc' := 8) 1 rfl ⟨trivial, trivial⟩ ?_
        exact pr_irT rfl (by first | exact Or.inl rfl | exact Or.inr rfl | exact pr_b01 _ | assumption) (by exact ⟨rfl, rfl, fun a x _ => f1 a x, (hf4 c4).1, (hf4 c4).2⟩)
  · rw [if_neg c4]
    rw [decide_eq_true c4] at hadv
    have key : ∀ I1 : Nat → Nat → Int32, rd4 M.1 I1 → I1 4 3 = M.1 4 3 → I1 4 4 = M.1 4 4 → I1 4 9 = M.1 4 9 → I1 4 5 = nI e → I1 4 6 = nI k → I1 4 7 = nI s → pr_T pX6_takeKind 9 [some (.ref 4), some (.ref o)] [] h (I1, M.2) (kd_p o M (if sy w (k, s, e, v) 6 then .ok (0, e) else if sy w (k, s, e, v) 7 then .ok (1, e) else if sy w (k, s, e, v) 8 then .ok (2, e) else if sy w (k, s, e, v) 9 then .ok (3, e) else if sy w (k, s, e, v) 10 then .ok (4, e) else .error (2, s))) := by
      intro I1 f1 i3 i4 i9 i5 i6 i7
      have hwI := tp_rd4 f1 hw
      have s6 := c_says (a := 1000006) (k := 6) (v := v) ⟨rfl, by decide⟩ h (I1, M.2) hr hwI i6 i7 i5 (by omega) (by omega) (by omega)
      have s7 := c_says (a := 1000007) (k := 7) (v := v) ⟨rfl, by decide⟩ h (I1, M.2) hr hwI i6 i7 i5 (by omega) (by omega) (by omega)
      have s8 := c_says (a := 1000008) (k := 8) (v := v) ⟨rfl, by decide⟩ h (I1, M.2) hr hwI i6 i7 i5 (by omega) (by omega) (by omega)
      have s9 := c_says (a := 1000009) (k := 9) (v := v) ⟨rfl, by decide⟩ h (I1, M.2) hr hwI i6 i7 i5 (by omega) (by omega) (by omega)
      have s10 := c_says (a := 1000010) (k := 10) (v := v) ⟨rfl, by decide⟩ h (I1, M.2) hr hwI i6 i7 i5 (by omega) (by omega) (by omega)
      cases b6 : sy w (k, s, e, v) 6 with
      | true =>
        rw [b6] at s6
        rw [if_pos rfl]
        have y : ab_u I1 o 1 0 o 1 = 0 := ab_u_at
        refine pr_seqT (pc' := 13) 3 rfl ⟨⟨⟨trivial, (by first | assumption | (simp only [y, pr_i_0, pr_i_1, pr_i_2, pr_i_3, pr_i_4, pr_i_m1]; first | assumption | decide | exact ⟨by assumption, by assumption⟩ | exact ⟨Or.inl (by assumption), by assumption⟩ | omega) | decide | exact ⟨Or.inl (by assumption), by assumption⟩ | exact ⟨by assumption, by assumption⟩ | omega)⟩, (by first | assumption | (simp only [y, pr_i_0, pr_i_1, pr_i_2, pr_i_3, pr_i_4, pr_i_m1]; first | assumption | decide | exact ⟨by assumption, by assumption⟩ | exact ⟨Or.inl (by assumption), by assumption⟩ | omega) | decide | exact ⟨Or.inl (by assumption), by assumption⟩ | exact ⟨by assumption, by assumption⟩ | omega)⟩, trivial⟩ ?_
        try simp only [y, pr_i_0, pr_i_1, pr_i_2, pr_i_3, pr_i_4, pr_i_m1]
        refine pr_cvT [_] rfl rfl rfl rfl rfl (Nat.le_of_ble_eq_true rfl) (by first | assumption | (simp only [y, pr_i_0, pr_i_1, pr_i_2, pr_i_3, pr_i_4, pr_i_m1]; first | assumption | decide | exact ⟨by assumption, by assumption⟩ | exact ⟨Or.inl (by assumption), by assumption⟩ | omega) | decide | exact ⟨Or.inl (by assumption), by assumption⟩ | exact ⟨by assumption, by assumption⟩ | omega) (Nat.le_of_ble_eq_true rfl) (s6) ?_
        refine pr_ifT rfl (fun h16 => ?_) (fun h16 => ?_)
        · simp only [ab_cmp, pr_i_0, pr_i_1, pr_i_2, pr_i_3, pr_i_4, pr_i_m1] at h16
          first
          | contradiction
          | exact absurd trivial h16
          | exact absurd h16 (by decide)
          | exact absurd (Classical.not_not.mp h16) (by decide)
          | skip
            fail
        · simp only [ab_cmp, pr_i_0, pr_i_1, pr_i_2, pr_i_3, pr_i_4, pr_i_m1] at h16
          first
          | contradiction
          | exact absurd trivial h16
          | exact absurd h16 (by decide)
          | exact absurd (Classical.not_not.mp h16) (by decide)
          | skip
            refine pr_seqT (pc' := 84) 6 rfl ⟨⟨⟨⟨⟨⟨trivial, trivial⟩, trivial⟩, (by first | assumption | (simp only [y, pr_i_0, pr_i_1, pr_i_2, pr_i_3, pr_i_4, pr_i_m1]; first | assumption | decide | exact ⟨by assumption, by assumption⟩ | exact ⟨Or.inl (by assumption), by assumption⟩ | omega) | decide | exact ⟨Or.inl (by assumption), by assumption⟩ | exact ⟨by assumption, by assumption⟩ | omega)⟩, (by first | assumption | (simp only [y, pr_i_0, pr_i_1, pr_i_2, pr_i_3, pr_i_4, pr_i_m1]; first | assumption | decide | exact ⟨by assumption, by assumption⟩ | exact ⟨Or.inl (by assumption), by assumption⟩ | omega) | decide | exact ⟨Or.inl (by assumption), by assumption⟩ | exact ⟨by assumption, by assumption⟩ | omega)⟩, (by first | assumption | (simp only [y, pr_i_0, pr_i_1, pr_i_2, pr_i_3, pr_i_4, pr_i_m1]; first | assumption | decide | exact ⟨by assumption, by assumption⟩ | exact ⟨Or.inl (by assumption), by assumption⟩ | omega) | decide | exact ⟨Or.inl (by assumption), by assumption⟩ | exact ⟨by assumption, by assumption⟩ | omega)⟩, trivial⟩ ?_
            try simp only [y, pr_i_0, pr_i_1, pr_i_2, pr_i_3, pr_i_4, pr_i_m1]
            refine pr_icT rfl (fun h84 => ?_) (fun h84 => ?_)
            · simp only [ab_cmp, pr_i_0, pr_i_1, pr_i_2, pr_i_3, pr_i_4, pr_i_m1] at h84
              first
              | contradiction
              | exact absurd trivial h84
              | exact absurd h84 (by decide)
              | exact absurd (Classical.not_not.mp h84) (by decide)
              | skip
                refine pr_seqT (pc' := 104) 2 rfl ⟨⟨trivial, trivial⟩, trivial⟩ ?_
                try simp only [y, pr_i_0, pr_i_1, pr_i_2, pr_i_3, pr_i_4, pr_i_m1]
                exact pr_irT rfl (by first | exact Or.inl rfl | exact Or.inr rfl | exact pr_b01 _ | assumption) (by exact kd_ok (k := 0) (s := s) ho f1 i3 i4 i9 i5)
            · simp only [ab_cmp, pr_i_0, pr_i_1, pr_i_2, pr_i_3, pr_i_4, pr_i_m1] at h84
              first
              | contradiction
              | exact absurd trivial h84
              | exact absurd h84 (by decide)
              | exact absurd (Classical.not_not.mp h84) (by decide)
              | skip
                fail
      | false =>
        rw [b6] at s6
        rw [if_neg (by decide)]
        cases b7 : sy w (k, s, e, v) 7 with
        | true =>
          rw [b7] at s7
          rw [if_pos rfl]
          have y : ab_u I1 o 1 1 o 1 = 1 := ab_u_at
          refine pr_seqT (pc' := 13) 3 rfl ⟨⟨⟨trivial, (by first | assumption | (simp only [y, pr_i_0, pr_i_1, pr_i_2, pr_i_3, pr_i_4, pr_i_m1]; first | assumption | decide | exact ⟨by assumption, by assumption⟩ | exact ⟨Or.inl (by assumption), by assumption⟩ | omega) | decide | exact ⟨Or.inl (by assumption), by assumption⟩ | exact ⟨by assumption, by assumption⟩ | omega)⟩, (by first | assumption | (simp only [y, pr_i_0, pr_i_1, pr_i_2, pr_i_3, pr_i_4, pr_i_m1]; first | assumption | decide | exact ⟨by assumption, by assumption⟩ | exact ⟨Or.inl (by assumption), by assumption⟩ | omega) | decide | exact ⟨Or.inl (by assumption), by assumption⟩ | exact ⟨by assumption, by assumption⟩ | omega)⟩, trivial⟩ ?_
          try simp only [y, pr_i_0, pr_i_1, pr_i_2, pr_i_3, pr_i_4, pr_i_m1]
          refine pr_cvT [_] rfl rfl rfl rfl rfl (Nat.le_of_ble_eq_true rfl) (by first | assumption | (simp only [y, pr_i_0, pr_i_1, pr_i_2, pr_i_3, pr_i_4, pr_i_m1]; first | assumption | decide | exact ⟨by assumption, by assumption⟩ | exact ⟨Or.inl (by assumption), by assumption⟩ | omega) | decide | exact ⟨Or.inl (by assumption), by assumption⟩ | exact ⟨by assumption, by assumption⟩ | omega) (Nat.le_of_ble_eq_true rfl) (s6) ?_
          refine pr_ifT rfl (fun h16 => ?_) (fun h16 => ?_)
          · simp only [ab_cmp, pr_i_0, pr_i_1, pr_i_2, pr_i_3, pr_i_4, pr_i_m1] at h16
            first
            | contradiction
            | exact absurd trivial h16
            | exact absurd h16 (by decide)
            | exact absurd (Classical.not_not.mp h16) (by decide)
            | skip
              refine pr_seqT (pc' := 26) 2 rfl ⟨⟨trivial, (by first | assumption | (simp only [y, pr_i_0, pr_i_1, pr_i_2, pr_i_3, pr_i_4, pr_i_m1]; first | assumption | decide | exact ⟨by assumption, by assumption⟩ | exact ⟨Or.inl (by assumption), by assumption⟩ | omega) | decide | exact ⟨Or.inl (by assumption), by assumption⟩ | exact ⟨by assumption, by assumption⟩ | omega)⟩, trivial⟩ ?_
              try simp only [y, pr_i_0, pr_i_1, pr_i_2, pr_i_3, pr_i_4, pr_i_m1]
              refine pr_cvT [_] rfl rfl rfl rfl rfl (Nat.le_of_ble_eq_true rfl) (by first | assumption | (simp only [y, pr_i_0, pr_i_1, pr_i_2, pr_i_3, pr_i_4, pr_i_m1]; first | assumption | decide | exact ⟨by assumption, by assumption⟩ | exact ⟨Or.inl (by assumption), by assumption⟩ | omega) | decide | exact ⟨Or.inl (by assumption), by assumption⟩ | exact ⟨by assumption, by assumption⟩ | omega) (Nat.le_of_ble_eq_true rfl) (s7) ?_
              refine pr_ifT rfl (fun h29 => ?_) (fun h29 => ?_)
              · simp only [ab_cmp, pr_i_0, pr_i_1, pr_i_2, pr_i_3, pr_i_4, pr_i_m1] at h29
                first
                | contradiction
                | exact absurd trivial h29
                | exact absurd h29 (by decide)
                | exact absurd (Classical.not_not.mp h29) (by decide)
                | skip
                  fail
              · simp only [ab_cmp, pr_i_0, pr_i_1, pr_i_2, pr_i_3, pr_i_4, pr_i_m1] at h29
                first
                | contradiction
                | exact absurd trivial h29
                | exact absurd h29 (by decide)
                | exact absurd (Classical.not_not.mp h29) (by decide)
                | skip
                  refine pr_seqT (pc' := 84) 6 rfl ⟨⟨⟨⟨⟨⟨trivial, trivial⟩, trivial⟩, (by first | assumption | (simp only [y, pr_i_0, pr_i_1, pr_i_2, pr_i_3, pr_i_4, pr_i_m1]; first | assumption | decide | exact ⟨by assumption, by assumption⟩ | exact ⟨Or.inl (by assumption), by assumption⟩ | omega) | decide | exact ⟨Or.inl (by assumption), by assumption⟩ | exact ⟨by assumption, by assumption⟩ | omega)⟩, (by first | assumption | (simp only [y, pr_i_0, pr_i_1, pr_i_2, pr_i_3, pr_i_4, pr_i_m1]; first | assumption | decide | exact ⟨by assumption, by assumption⟩ | exact ⟨Or.inl (by assumption), by assumption⟩ | omega) | decide | exact ⟨Or.inl (by assumption), by assumption⟩ | exact ⟨by assumption, by assumption⟩ | omega)⟩, (by first | assumption | (simp only [y, pr_i_0, pr_i_1, pr_i_2, pr_i_3, pr_i_4, pr_i_m1]; first | assumption | decide | exact ⟨by assumption, by assumption⟩ | exact ⟨Or.inl (by assumption), by assumption⟩ | omega) | decide | exact ⟨Or.inl (by assumption), by assumption⟩ | exact ⟨by assumption, by assumption⟩ | omega)⟩, trivial⟩ ?_
                  try simp only [y, pr_i_0, pr_i_1, pr_i_2, pr_i_3, pr_i_4, pr_i_m1]
                  refine pr_icT rfl (fun h84 => ?_) (fun h84 => ?_)
                  · simp only [ab_cmp, pr_i_0, pr_i_1, pr_i_2, pr_i_3, pr_i_4, pr_i_m1] at h84
                    first
                    | contradiction
                    | exact absurd trivial h84
                    | exact absurd h84 (by decide)
                    | exact absurd (Classical.not_not.mp h84) (by decide)
                    | skip
                      refine pr_seqT (pc' := 104) 2 rfl ⟨⟨trivial, trivial⟩, trivial⟩ ?_
                      try simp only [y, pr_i_0, pr_i_1, pr_i_2, pr_i_3, pr_i_4, pr_i_m1]
                      exact pr_irT rfl (by first | exact Or.inl rfl | exact Or.inr rfl | exact pr_b01 _ | assumption) (by exact kd_ok (k := 1) (s := s) ho f1 i3 i4 i9 i5)
                  · simp only [ab_cmp, pr_i_0, pr_i_1, pr_i_2, pr_i_3, pr_i_4, pr_i_m1] at h84
                    first
                    | contradiction
                    | exact absurd trivial h84
                    | exact absurd h84 (by decide)
                    | exact absurd (Classical.not_not.mp h84) (by decide)
                    | skip
                      fail
          · simp only [ab_cmp, pr_i_0, pr_i_1, pr_i_2, pr_i_3, pr_i_4, pr_i_m1] at h16
            first
            | contradiction
            | exact absurd trivial h16
            | exact absurd h16 (by decide)
            | exact absurd (Classical.not_not.mp h16) (by decide)
            | skip
              fail
        | false =>
          rw [b7] at s7
          rw [if_neg (by decide)]
          cases b8 : sy w (k, s, e, v) 8 with
          | true =>
            rw [b8] at s8
            rw [if_pos rfl]
            have y : ab_u I1 o 1 2 o 1 = 2 := ab_u_at
            refine pr_seqT (pc' := 13) 3 rfl ⟨⟨⟨trivial, (by first | assumption | (simp only [y, pr_i_0, pr_i_1, pr_i_2, pr_i_3, pr_i_4, pr_i_m1]; first | assumption | decide | exact ⟨by assumption, by assumption⟩ | exact ⟨Or.inl (by assumption), by assumption⟩ | omega) | decide | exact ⟨Or.inl (by assumption), by assumption⟩ | exact ⟨by assumption, by assumption⟩ | omega)⟩, (by first | assumption | (simp only [y, pr_i_0, pr_i_1, pr_i_2, pr_i_3, pr_i_4, pr_i_m1]; first | assumption | decide | exact ⟨by assumption, by assumption⟩ | exact ⟨Or.inl (by assumption), by assumption⟩ | omega) | decide | exact ⟨Or.inl (by assumption), by assumption⟩ | exact ⟨by assumption, by assumption⟩ | omega)⟩, trivial⟩ ?_
            try simp only [y, pr_i_0, pr_i_1, pr_i_2, pr_i_3, pr_i_4, pr_i_m1]
            refine pr_cvT [_] rfl rfl rfl rfl rfl (Nat.le_of_ble_eq_true rfl) (by first | assumption | (simp only [y, pr_i_0, pr_i_1, pr_i_2, pr_i_3, pr_i_4, pr_i_m1]; first | assumption | decide | exact ⟨by assumption, by assumption⟩ | exact ⟨Or.inl (by assumption), by assumption⟩ | omega) | decide | exact ⟨Or.inl (by assumption), by assumption⟩ | exact ⟨by assumption, by assumption⟩ | omega) (Nat.le_of_ble_eq_true rfl) (s6) ?_
            refine pr_ifT rfl (fun h16 => ?_) (fun h16 => ?_)
            · simp only [ab_cmp, pr_i_0, pr_i_1, pr_i_2, pr_i_3, pr_i_4, pr_i_m1] at h16
              first
              | contradiction
              | exact absurd trivial h16
              | exact absurd h16 (by decide)
              | exact absurd (Classical.not_not.mp h16) (by decide)
              | skip
                refine pr_seqT (pc' := 26) 2 rfl ⟨⟨trivial, (by first | assumption | (simp only [y, pr_i_0, pr_i_1, pr_i_2, pr_i_3, pr_i_4, pr_i_m1]; first | assumption | decide | exact ⟨by assumption, by assumption⟩ | exact ⟨Or.inl (by assumption), by assumption⟩ | omega) | decide | exact ⟨Or.inl (by assumption), by assumption⟩ | exact ⟨by assumption, by assumption⟩ | omega)⟩, trivial⟩ ?_
                try simp only [y, pr_i_0, pr_i_1, pr_i_2, pr_i_3, pr_i_4, pr_i_m1]
                refine pr_cvT [_] rfl rfl rfl rfl rfl (Nat.le_of_ble_eq_true rfl) (by first | assumption | (simp only [y, pr_i_0, pr_i_1, pr_i_2, pr_i_3, pr_i_4, pr_i_m1]; first | assumption | decide | exact ⟨by assumption, by assumption⟩ | exact ⟨Or.inl (by assumption), by assumption⟩ | omega) | decide | exact ⟨Or.inl (by assumption), by assumption⟩ | exact ⟨by assumption, by assumption⟩ | omega) (Nat.le_of_ble_eq_true rfl) (s7) ?_
                refine pr_ifT rfl (fun h29 => ?_) (fun h29 => ?_)
                · simp only [ab_cmp, pr_i_0, pr_i_1, pr_i_2, pr_i_3, pr_i_4, pr_i_m1] at h29
                  first
                  | contradiction
                  | exact absurd trivial h29
                  | exact absurd h29 (by decide)
                  | exact absurd (Classical.not_not.mp h29) (by decide)
                  | skip
                    refine pr_seqT (pc' := 39) 2 rfl ⟨⟨trivial, (by first | assumption | (simp only [y, pr_i_0, pr_i_1, pr_i_2, pr_i_3, pr_i_4, pr_i_m1]; first | assumption | decide | exact ⟨by assumption, by assumption⟩ | exact ⟨Or.inl (by assumption), by assumption⟩ | omega) | decide | exact ⟨Or.inl (by assumption), by assumption⟩ | exact ⟨by assumption, by assumption⟩ | omega)⟩, trivial⟩ ?_
                    try simp only [y, pr_i_0, pr_i_1, pr_i_2, pr_i_3, pr_i_4, pr_i_m1]
                    refine pr_cvT [_] rfl rfl rfl rfl rfl (Nat.le_of_ble_eq_true rfl) (by first | assumption | (simp only [y, pr_i_0, pr_i_1, pr_i_2, pr_i_3, pr_i_4, pr_i_m1]; first | assumption | decide | exact ⟨by assumption, by assumption⟩ | exact ⟨Or.inl (by assumption), by assumption⟩ | omega) | decide | exact ⟨Or.inl (by assumption), by assumption⟩ | exact ⟨by assumption, by assumption⟩ | omega) (Nat.le_of_ble_eq_true rfl) (s8) ?_
                    refine pr_ifT rfl (fun h42 => ?_) (fun h42 => ?_)
                    · simp only [ab_cmp, pr_i_0, pr_i_1, pr_i_2, pr_i_3, pr_i_4, pr_i_m1] at h42
                      first
                      | contradiction
                      | exact absurd trivial h42
                      | exact absurd h42 (by decide)
                      | exact absurd (Classical.not_not.mp h42) (by decide)
                      | skip
                        fail
                    · simp only [ab_cmp, pr_i_0, pr_i_1, pr_i_2, pr_i_3, pr_i_4, pr_i_m1] at h42
                      first
                      | contradiction
                      | exact absurd trivial h42
                      | exact absurd h42 (by decide)
                      | exact absurd (Classical.not_not.mp h42) (by decide)
                      | skip
                        refine pr_seqT (pc' := 84) 6 rfl ⟨⟨⟨⟨⟨⟨trivial, trivial⟩, trivial⟩, (by first | assumption | (simp only [y, pr_i_0, pr_i_1, pr_i_2, pr_i_3, pr_i_4, pr_i_m1]; first | assumption | decide | exact ⟨by assumption, by assumption⟩ | exact ⟨Or.inl (by assumption), by assumption⟩ | omega) | decide | exact ⟨Or.inl (by assumption), by assumption⟩ | exact ⟨by assumption, by assumption⟩ | omega)⟩, (by first | assumption | (simp only [y, pr_i_0, pr_i_1, pr_i_2, pr_i_3, pr_i_4, pr_i_m1]; first | assumption | decide | exact ⟨by assumption, by assumption⟩ | exact ⟨Or.inl (by assumption), by assumption⟩ | omega) | decide | exact ⟨Or.inl (by assumption), by assumption⟩ | exact ⟨by assumption, by assumption⟩ | omega)⟩, (by first | assumption | (simp only [y, pr_i_0, pr_i_1, pr_i_2, pr_i_3, pr_i_4, pr_i_m1]; first | assumption | decide | exact ⟨by assumption, by assumption⟩ | exact ⟨Or.inl (by assumption), by assumption⟩ | omega) | decide | exact ⟨Or.inl (by assumption), by assumption⟩ | exact ⟨by assumption, by assumption⟩ | omega)⟩, trivial⟩ ?_
                        try simp only [y, pr_i_0, pr_i_1, pr_i_2, pr_i_3, pr_i_4, pr_i_m1]
                        refine pr_icT rfl (fun h84 => ?_) (fun h84 => ?_)
                        · simp only [ab_cmp, pr_i_0, pr_i_1, pr_i_2, pr_i_3, pr_i_4, pr_i_m1] at h84
                          first
                          | contradiction
                          | exact absurd trivial h84
                          | exact absurd h84 (by decide)
                          | exact absurd (Classical.not_not.mp h84) (by decide)
                          | skip
                            refine pr_seqT (pc' := 104) 2 rfl ⟨⟨trivial, trivial⟩, trivial⟩ ?_
                            try simp only [y, pr_i_0, pr_i_1, pr_i_2, pr_i_3, pr_i_4, pr_i_m1]
                            exact pr_irT rfl (by first | exact Or.inl rfl | exact Or.inr rfl | exact pr_b01 _ | assumption) (by exact kd_ok (k := 2) (s := s) ho f1 i3 i4 i9 i5)
                        · simp only [ab_cmp, pr_i_0, pr_i_1, pr_i_2, pr_i_3, pr_i_4, pr_i_m1] at h84
                          first
                          | contradiction
                          | exact absurd trivial h84
                          | exact absurd h84 (by decide)
                          | exact absurd (Classical.not_not.mp h84) (by decide)
                          | skip
                            fail
                · simp only [ab_cmp, pr_i_0, pr_i_1, pr_i_2, pr_i_3, pr_i_4, pr_i_m1] at h29
                  first
                  | contradiction
                  | exact absurd trivial h29
                  | exact absurd h29 (by decide)
                  | exact absurd (Classical.not_not.mp h29) (by decide)
                  | skip
                    fail
            · simp only [ab_cmp, pr_i_0, pr_i_1, pr_i_2, pr_i_3, pr_i_4, pr_i_m1] at h16
              first
              | contradiction
              | exact absurd trivial h16
              | exact absurd h16 (by decide)
              | exact absurd (Classical.not_not.mp h16) (by decide)
              | skip
                fail
          | false =>
            rw [b8] at s8
            rw [if_neg (by decide)]
            cases b9 : sy w (k, s, e, v) 9 with
            | true =>
              rw [b9] at s9
              rw [if_pos rfl]
              have y : ab_u I1 o 1 3 o 1 = 3 := ab_u_at
              refine pr_seqT (pc' := 13) 3 rfl ⟨⟨⟨trivial, (by first | assumption | (simp only [y, pr_i_0, pr_i_1, pr_i_2, pr_i_3, pr_i_4, pr_i_m1]; first | assumption | decide | exact ⟨by assumption, by assumption⟩ | exact ⟨Or.inl (by assumption), by assumption⟩ | omega) | decide | exact ⟨Or.inl (by assumption), by assumption⟩ | exact ⟨by assumption, by assumption⟩ | omega)⟩, (by first | assumption | (simp only [y, pr_i_0, pr_i_1, pr_i_2, pr_i_3, pr_i_4, pr_i_m1]; first | assumption | decide | exact ⟨by assumption, by assumption⟩ | exact ⟨Or.inl (by assumption), by assumption⟩ | omega) | decide | exact ⟨Or.inl (by assumption), by assumption⟩ | exact ⟨by assumption, by assumption⟩ | omega)⟩, trivial⟩ ?_
              try simp only [y, pr_i_0, pr_i_1, pr_i_2, pr_i_3, pr_i_4, pr_i_m1]
              refine pr_cvT [_] rfl rfl rfl rfl rfl (Nat.le_of_ble_eq_true rfl) (by first | assumption | (simp only [y, pr_i_0, pr_i_1, pr_i_2, pr_i_3, pr_i_4, pr_i_m1]; first | assumption | decide | exact ⟨by assumption, by assumption⟩ | exact ⟨Or.inl (by assumption), by assumption⟩ | omega) | decide | exact ⟨Or.inl (by assumption), by assumption⟩ | exact ⟨by assumption, by assumption⟩ | omega) (Nat.le_of_ble_eq_true rfl) (s6) ?_
              refine pr_ifT rfl (fun h16 => ?_) (fun h16 => ?_)
              · simp only [ab_cmp, pr_i_0, pr_i_1, pr_i_2, pr_i_3, pr_i_4, pr_i_m1] at h16
                first
                | contradiction
                | exact absurd trivial h16
                | exact absurd h16 (by decide)
                | exact absurd (Classical.not_not.mp h16) (by decide)
                | skip
                  refine pr_seqT (pc' := 26) 2 rfl ⟨⟨trivial, (by first | assumption | (simp only [y, pr_i_0, pr_i_1, pr_i_2, pr_i_3, pr_i_4, pr_i_m1]; first | assumption | decide | exact ⟨by assumption, by assumption⟩ | exact ⟨Or.inl (by assumption), by assumption⟩ | omega) | decide | exact ⟨Or.inl (by assumption), by assumption⟩ | exact ⟨by assumption, by assumption⟩ | omega)⟩, trivial⟩ ?_
                  try simp only [y, pr_i_0, pr_i_1, pr_i_2, pr_i_3, pr_i_4, pr_i_m1]
                  refine pr_cvT [_] rfl rfl rfl rfl rfl (Nat.le_of_ble_eq_true rfl) (by first | assumption | (simp only [y, pr_i_0, pr_i_1, pr_i_2, pr_i_3, pr_i_4, pr_i_m1]; first | assumption | decide | exact ⟨by assumption, by assumption⟩ | exact ⟨Or.inl (by assumption), by assumption⟩ | omega) | decide | exact ⟨Or.inl (by assumption), by assumption⟩ | exact ⟨by assumption, by assumption⟩ | omega) (Nat.le_of_ble_eq_true rfl) (s7) ?_
                  refine pr_ifT rfl (fun h29 => ?_) (fun h29 => ?_)
                  · simp only [ab_cmp, pr_i_0, pr_i_1, pr_i_2, pr_i_3, pr_i_4, pr_i_m1] at h29
                    first
                    | contradiction
                    | exact absurd trivial h29
                    | exact absurd h29 (by decide)
                    | exact absurd (Classical.not_not.mp h29) (by decide)
                    | skip
                      refine pr_seqT (pc' := 39) 2 rfl ⟨⟨trivial, (by first | assumption | (simp only [y, pr_i_0, pr_i_1, pr_i_2, pr_i_3, pr_i_4, pr_i_m1]; first | assumption | decide | exact ⟨by assumption, by assumption⟩ | exact ⟨Or.inl (by assumption), by assumption⟩ | omega) | decide | exact ⟨Or.inl (by assumption), by assumption⟩ | exact ⟨by assumption, by assumption⟩ | omega)⟩, trivial⟩ ?_
                      try simp only [y, pr_i_0, pr_i_1, pr_i_2, pr_i_3, pr_i_4, pr_i_m1]
                      refine pr_cvT [_] rfl rfl rfl rfl rfl (Nat.le_of_ble_eq_true rfl) (by first | assumption | (simp only [y, pr_i_0, pr_i_1, pr_i_2, pr_i_3, pr_i_4, pr_i_m1]; first | assumption | decide | exact ⟨by assumption, by assumption⟩ | exact ⟨Or.inl (by assumption), by assumption⟩ | omega) | decide | exact ⟨Or.inl (by assumption), by assumption⟩ | exact ⟨by assumption, by assumption⟩ | omega) (Nat.le_of_ble_eq_true rfl) (s8) ?_
                      refine pr_ifT rfl (fun h42 => ?_) (fun h42 => ?_)
                      · simp only [ab_cmp, pr_i_0, pr_i_1, pr_i_2, pr_i_3, pr_i_4, pr_i_m1] at h42
                        first
                        | contradiction
                        | exact absurd trivial h42
                        | exact absurd h42 (by decide)
                        | exact absurd (Classical.not_not.mp h42) (by decide)
                        | skip
                          refine pr_seqT (pc' := 52) 2 rfl ⟨⟨trivial, (by first | assumption | (simp only [y, pr_i_0, pr_i_1, pr_i_2, pr_i_3, pr_i_4, pr_i_m1]; first | assumption | decide | exact ⟨by assumption, by assumption⟩ | exact ⟨Or.inl (by assumption), by assumption⟩ | omega) | decide | exact ⟨Or.inl (by assumption), by assumption⟩ | exact ⟨by assumption, by assumption⟩ | omega)⟩, trivial⟩ ?_
                          try simp only [y, pr_i_0, pr_i_1, pr_i_2, pr_i_3, pr_i_4, pr_i_m1]
                          refine pr_cvT [_] rfl rfl rfl rfl rfl (Nat.le_of_ble_eq_true rfl) (by first | assumption | (simp only [y, pr_i_0, pr_i_1, pr_i_2, pr_i_3, pr_i_4, pr_i_m1]; first | assumption | decide | exact ⟨by assumption, by assumption⟩ | exact ⟨Or.inl (by assumption), by assumption⟩ | omega) | decide | exact ⟨Or.inl (by assumption), by assumption⟩ | exact ⟨by assumption, by assumption⟩ | omega) (Nat.le_of_ble_eq_true rfl) (s9) ?_
                          refine pr_ifT rfl (fun h55 => ?_) (fun h55 => ?_)
                          · simp only [ab_cmp, pr_i_0, pr_i_1, pr_i_2, pr_i_3, pr_i_4, pr_i_m1] at h55
                            first
                            | contradiction
                            | exact absurd trivial h55
                            | exact absurd h55 (by decide)
                            | exact absurd (Classical.not_not.mp h55) (by decide)
                            | skip
                              fail
                          · simp only [ab_cmp, pr_i_0, pr_i_1, pr_i_2, pr_i_3, pr_i_4, pr_i_m1] at h55
                            first
                            | contradiction
                            | exact absurd trivial h55
                            | exact absurd h55 (by decide)
                            | exact absurd (Classical.not_not.mp h55) (by decide)
                            | skip
                              refine pr_seqT (pc' := 84) 6 rfl ⟨⟨⟨⟨⟨⟨trivial, trivial⟩, trivial⟩, (by first | assumption | (simp only [y, pr_i_0, pr_i_1, pr_i_2, pr_i_3, pr_i_4, pr_i_m1]; first | assumption | decide | exact ⟨by assumption, by assumption⟩ | exact ⟨Or.inl (by assumption), by assumption⟩ | omega) | decide | exact ⟨Or.inl (by assumption), by assumption⟩ | exact ⟨by assumption, by assumption⟩ | omega)⟩, (by first | assumption | (simp only [y, pr_i_0, pr_i_1, pr_i_2, pr_i_3, pr_i_4, pr_i_m1]; first | assumption | decide | exact ⟨by assumption, by assumption⟩ | exact ⟨Or.inl (by assumption), by assumption⟩ | omega) | decide | exact ⟨Or.inl (by assumption), by assumption⟩ | exact ⟨by assumption, by assumption⟩ | omega)⟩, (by first | assumption | (simp only [y, pr_i_0, pr_i_1, pr_i_2, pr_i_3, pr_i_4, pr_i_m1]; first | assumption | decide | exact ⟨by assumption, by assumption⟩ | exact ⟨Or.inl (by assumption), by assumption⟩ | omega) | decide | exact ⟨Or.inl (by assumption), by assumption⟩ | exact ⟨by assumption, by assumption⟩ | omega)⟩, trivial⟩ ?_
                              try simp only [y, pr_i_0, pr_i_1, pr_i_2, pr_i_3, pr_i_4, pr_i_m1]
                              refine pr_icT rfl (fun h84 => ?_) (fun h84 => ?_)
                              · simp only [ab_cmp, pr_i_0, pr_i_1, pr_i_2, pr_i_3, pr_i_4, pr_i_m1] at h84
                                first
                                | contradiction
                                | exact absurd trivial h84
                                | exact absurd h84 (by decide)
                                | exact absurd (Classical.not_not.mp h84) (by decide)
                                | skip
                                  refine pr_seqT (pc' := 104) 2 rfl ⟨⟨trivial, trivial⟩, trivial⟩ ?_
                                  try simp only [y, pr_i_0, pr_i_1, pr_i_2, pr_i_3, pr_i_4, pr_i_m1]
                                  exact pr_irT rfl (by first | exact Or.inl rfl | exact Or.inr rfl | exact pr_b01 _ | assumption) (by exact kd_ok (k := 3) (s := s) ho f1 i3 i4 i9 i5)
                              · simp only [ab_cmp, pr_i_0, pr_i_1, pr_i_2, pr_i_3, pr_i_4, pr_i_m1] at h84
                                first
                                | contradiction
                                | exact absurd trivial h84
                                | exact absurd h84 (by decide)
                                | exact absurd (Classical.not_not.mp h84) (by decide)
                                | skip
                                  fail
                      · simp only [ab_cmp, pr_i_0, pr_i_1, pr_i_2, pr_i_3, pr_i_4, pr_i_m1] at h42
                        first
                        | contradiction
                        | exact absurd trivial h42
                        | exact absurd h42 (by decide)
                        | exact absurd (Classical.not_not.mp h42) (by decide)
                        | skip
                          fail
                  · simp only [ab_cmp, pr_i_0, pr_i_1, pr_i_2, pr_i_3, pr_i_4, pr_i_m1] at h29
                    first
                    | contradiction
                    | exact absurd trivial h29
                    | exact absurd h29 (by decide)
                    | exact absurd (Classical.not_not.mp h29) (by decide)
                    | skip
                      fail
              · simp only [ab_cmp, pr_i_0, pr_i_1, pr_i_2, pr_i_3, pr_i_4, pr_i_m1] at h16
                first
                | contradiction
                | exact absurd trivial h16
                | exact absurd h16 (by decide)
                | exact absurd (Classical.not_not.mp h16) (by decide)
                | skip
                  fail
            | false =>
              rw [b9] at s9
              rw [if_neg (by decide)]
              cases b10 : sy w (k, s, e, v) 10 with
              | true =>
                rw [b10] at s10
                rw [if_pos rfl]
                have y : ab_u I1 o 1 4 o 1 = 4 := ab_u_at
                refine pr_seqT (pc' := 13) 3 rfl ⟨⟨⟨trivial, (by first | assumption | (simp only [y, pr_i_0, pr_i_1, pr_i_2, pr_i_3, pr_i_4, pr_i_m1]; first | assumption | decide | exact ⟨by assumption, by assumption⟩ | exact ⟨Or.inl (by assumption), by assumption⟩ | omega) | decide | exact ⟨Or.inl (by assumption), by assumption⟩ | exact ⟨by assumption, by assumption⟩ | omega)⟩, (by first | assumption | (simp only [y, pr_i_0, pr_i_1, pr_i_2, pr_i_3, pr_i_4, pr_i_m1]; first | assumption | decide | exact ⟨by assumption, by assumption⟩ | exact ⟨Or.inl (by assumption), by assumption⟩ | omega) | decide | exact ⟨Or.inl (by assumption), by assumption⟩ | exact ⟨by assumption, by assumption⟩ | omega)⟩, trivial⟩ ?_
                try simp only [y, pr_i_0, pr_i_1, pr_i_2, pr_i_3, pr_i_4, pr_i_m1]
                refine pr_cvT [_] rfl rfl rfl rfl rfl (Nat.le_of_ble_eq_true rfl) (by first | assumption | (simp only [y, pr_i_0, pr_i_1, pr_i_2, pr_i_3, pr_i_4, pr_i_m1]; first | assumption | decide | exact ⟨by assumption, by assumption⟩ | exact ⟨Or.inl (by assumption), by assumption⟩ | omega) | decide | exact ⟨Or.inl (by assumption), by assumption⟩ | exact ⟨by assumption, by assumption⟩ | omega) (Nat.le_of_ble_eq_true rfl) (s6) ?_
                refine pr_ifT rfl (fun h16 => ?_) (fun h16 => ?_)
                · simp only [ab_cmp, pr_i_0, pr_i_1, pr_i_2, pr_i_3, pr_i_4, pr_i_m1] at h16
                  first
                  | contradiction
                  | exact absurd trivial h16
                  | exact absurd h16 (by decide)
                  | exact absurd (Classical.not_not.mp h16) (by decide)
                  | skip
                    refine pr_seqT (pc' := 26) 2 rfl ⟨⟨trivial, (by first | assumption | (simp only [y, pr_i_0, pr_i_1, pr_i_2, pr_i_3, pr_i_4, pr_i_m1]; first | assumption | decide | exact ⟨by assumption, by assumption⟩ | exact ⟨Or.inl (by assumption), by assumption⟩ | omega) | decide | exact ⟨Or.inl (by assumption), by assumption⟩ | exact ⟨by assumption, by assumption⟩ | omega)⟩, trivial⟩ ?_
                    try simp only [y, pr_i_0, pr_i_1, pr_i_2, pr_i_3, pr_i_4, pr_i_m1]
                    refine pr_cvT [_] rfl rfl rfl rfl rfl (Nat.le_of_ble_eq_true rfl) (by first | assumption | (simp only [y, pr_i_0, pr_i_1, pr_i_2, pr_i_3, pr_i_4, pr_i_m1]; first | assumption | decide | exact ⟨by assumption, by assumption⟩ | exact ⟨Or.inl (by assumption), by assumption⟩ | omega) | decide | exact ⟨Or.inl (by assumption), by assumption⟩ | exact ⟨by assumption, by assumption⟩ | omega) (Nat.le_of_ble_eq_true rfl) (s7) ?_
                    refine pr_ifT rfl (fun h29 => ?_) (fun h29 => ?_)
                    · simp only [ab_cmp, pr_i_0, pr_i_1, pr_i_2, pr_i_3, pr_i_4, pr_i_m1] at h29
                      first
                      | contradiction
                      | exact absurd trivial h29
                      | exact absurd h29 (by decide)
                      | exact absurd (Classical.not_not.mp h29) (by decide)
                      | skip
                        refine pr_seqT (pc' := 39) 2 rfl ⟨⟨trivial, (by first | assumption | (simp only [y, pr_i_0, pr_i_1, pr_i_2, pr_i_3, pr_i_4, pr_i_m1]; first | assumption | decide | exact ⟨by assumption, by assumption⟩ | exact ⟨Or.inl (by assumption), by assumption⟩ | omega) | decide | exact ⟨Or.inl (by assumption), by assumption⟩ | exact ⟨by assumption, by assumption⟩ | omega)⟩, trivial⟩ ?_
                        try simp only [y, pr_i_0, pr_i_1, pr_i_2, pr_i_3, pr_i_4, pr_i_m1]
                        refine pr_cvT [_] rfl rfl rfl rfl rfl (Nat.le_of_ble_eq_true rfl) (by first | assumption | (simp only [y, pr_i_0, pr_i_1, pr_i_2, pr_i_3, pr_i_4, pr_i_m1]; first | assumption | decide | exact ⟨by assumption, by assumption⟩ | exact ⟨Or.inl (by assumption), by assumption⟩ | omega) | decide | exact ⟨Or.inl (by assumption), by assumption⟩ | exact ⟨by assumption, by assumption⟩ | omega) (Nat.le_of_ble_eq_true rfl) (s8) ?_
                        refine pr_ifT rfl (fun h42 => ?_) (fun h42 => ?_)
                        · simp only [ab_cmp, pr_i_0, pr_i_1, pr_i_2, pr_i_3, pr_i_4, pr_i_m1] at h42
                          first
                          | contradiction
                          | exact absurd trivial h42
                          | exact absurd h42 (by decide)
                          | exact absurd (Classical.not_not.mp h42) (by decide)
                          | skip
                            refine pr_seqT (pc' := 52) 2 rfl ⟨⟨trivial, (by first | assumption | (simp only [y, pr_i_0, pr_i_1, pr_i_2, pr_i_3, pr_i_4, pr_i_m1]; first | assumption | decide | exact ⟨by assumption, by assumption⟩ | exact ⟨Or.inl (by assumption), by assumption⟩ | omega) | decide | exact ⟨Or.inl (by assumption), by assumption⟩ | exact ⟨by assumption, by assumption⟩ | omega)⟩, trivial⟩ ?_
                            try simp only [y, pr_i_0, pr_i_1, pr_i_2, pr_i_3, pr_i_4, pr_i_m1]
                            refine pr_cvT [_] rfl rfl rfl rfl rfl (Nat.le_of_ble_eq_true rfl) (by first | assumption | (simp only [y, pr_i_0, pr_i_1, pr_i_2, pr_i_3, pr_i_4, pr_i_m1]; first | assumption | decide | exact ⟨by assumption, by assumption⟩ | exact ⟨Or.inl (by assumption), by assumption⟩ | omega) | decide | exact ⟨Or.inl (by assumption), by assumption⟩ | exact ⟨by assumption, by assumption⟩ | omega) (Nat.le_of_ble_eq_true rfl) (s9) ?_
                            refine pr_ifT rfl (fun h55 => ?_) (fun h55 => ?_)
                            · simp only [ab_cmp, pr_i_0, pr_i_1, pr_i_2, pr_i_3, pr_i_4, pr_i_m1] at h55
                              first
                              | contradiction
                              | exact absurd trivial h55
                              | exact absurd h55 (by decide)
                              | exact absurd (Classical.not_not.mp h55) (by decide)
                              | skip
                                refine pr_seqT (pc' := 65) 2 rfl ⟨⟨trivial, (by first | assumption | (simp only [y, pr_i_0, pr_i_1, pr_i_2, pr_i_3, pr_i_4, pr_i_m1]; first | assumption | decide | exact ⟨by assumption, by assumption⟩ | exact ⟨Or.inl (by assumption), by assumption⟩ | omega) | decide | exact ⟨Or.inl (by assumption), by assumption⟩ | exact ⟨by assumption, by assumption⟩ | omega)⟩, trivial⟩ ?_
                                try simp only [y, pr_i_0, pr_i_1, pr_i_2, pr_i_3, pr_i_4, pr_i_m1]
                                refine pr_cvT [_] rfl rfl rfl rfl rfl (Nat.le_of_ble_eq_true rfl) (by first | assumption | (simp only [y, pr_i_0, pr_i_1, pr_i_2, pr_i_3, pr_i_4, pr_i_m1]; first | assumption | decide | exact ⟨by assumption, by assumption⟩ | exact ⟨Or.inl (by assumption), by assumption⟩ | omega) | decide | exact ⟨Or.inl (by assumption), by assumption⟩ | exact ⟨by assumption, by assumption⟩ | omega) (Nat.le_of_ble_eq_true rfl) (s10) ?_
                                refine pr_ifT rfl (fun h68 => ?_) (fun h68 => ?_)
                                · simp only [ab_cmp, pr_i_0, pr_i_1, pr_i_2, pr_i_3, pr_i_4, pr_i_m1] at h68
                                  first
                                  | contradiction
                                  | exact absurd trivial h68
                                  | exact absurd h68 (by decide)
                                  | exact absurd (Classical.not_not.mp h68) (by decide)
                                  | skip
                                    fail
                                · simp only [ab_cmp, pr_i_0, pr_i_1, pr_i_2, pr_i_3, pr_i_4, pr_i_m1] at h68
                                  first
                                  | contradiction
                                  | exact absurd trivial h68
                                  | exact absurd h68 (by decide)
                                  | exact absurd (Classical.not_not.mp h68) (by decide)
                                  | skip
                                    refine pr_seqT (pc' := 84) 6 rfl ⟨⟨⟨⟨⟨⟨trivial, trivial⟩, trivial⟩, (by first | assumption | (simp only [y, pr_i_0, pr_i_1, pr_i_2, pr_i_3, pr_i_4, pr_i_m1]; first | assumption | decide | exact ⟨by assumption, by assumption⟩ | exact ⟨Or.inl (by assumption), by assumption⟩ | omega) | decide | exact ⟨Or.inl (by assumption), by assumption⟩ | exact ⟨by assumption, by assumption⟩ | omega)⟩, (by first | assumption | (simp only [y, pr_i_0, pr_i_1, pr_i_2, pr_i_3, pr_i_4, pr_i_m1]; first | assumption | decide | exact ⟨by assumption, by assumption⟩ | exact ⟨Or.inl (by assumption), by assumption⟩ | omega) | decide | exact ⟨Or.inl (by assumption), by assumption⟩ | exact ⟨by assumption, by assumption⟩ | omega)⟩, (by first | assumption | (simp only [y, pr_i_0, pr_i_1, pr_i_2, pr_i_3, pr_i_4, pr_i_m1]; first | assumption | decide | exact ⟨by assumption, by assumption⟩ | exact ⟨Or.inl (by assumption), by assumption⟩ | omega) | decide | exact ⟨Or.inl (by assumption), by assumption⟩ | exact ⟨by assumption, by assumption⟩ | omega)⟩, trivial⟩ ?_
                                    try simp only [y, pr_i_0, pr_i_1, pr_i_2, pr_i_3, pr_i_4, pr_i_m1]
                                    refine pr_icT rfl (fun h84 => ?_) (fun h84 => ?_)
                                    · simp only [ab_cmp, pr_i_0, pr_i_1, pr_i_2, pr_i_3, pr_i_4, pr_i_m1] at h84
                                      first
                                      | contradiction
                                      | exact absurd trivial h84
                                      | exact absurd h84 (by decide)
                                      | exact absurd (Classical.not_not.mp h84) (by decide)
                                      | skip
                                        refine pr_seqT (pc' := 104) 2 rfl ⟨⟨trivial, trivial⟩, trivial⟩ ?_
                                        try simp only [y, pr_i_0, pr_i_1, pr_i_2, pr_i_3, pr_i_4, pr_i_m1]
                                        exact pr_irT rfl (by first | exact Or.inl rfl | exact Or.inr rfl | exact pr_b01 _ | assumption) (by exact kd_ok (k := 4) (s := s) ho f1 i3 i4 i9 i5)
                                    · simp only [ab_cmp, pr_i_0, pr_i_1, pr_i_2, pr_i_3, pr_i_4, pr_i_m1] at h84
                                      first
                                      | contradiction
                                      | exact absurd trivial h84
                                      | exact absurd h84 (by decide)
                                      | exact absurd (Classical.not_not.mp h84) (by decide)
                                      | skip
                                        fail
                            · simp only [ab_cmp, pr_i_0, pr_i_1, pr_i_2, pr_i_3, pr_i_4, pr_i_m1] at h55
                              first
                              | contradiction
                              | exact absurd trivial h55
                              | exact absurd h55 (by decide)
                              | exact absurd (Classical.not_not.mp h55) (by decide)
                              | skip
                                fail
                        · simp only [ab_cmp, pr_i_0, pr_i_1, pr_i_2, pr_i_3, pr_i_4, pr_i_m1] at h42
                          first
                          | contradiction
                          | exact absurd trivial h42
                          | exact absurd h42 (by decide)
                          | exact absurd (Classical.not_not.mp h42) (by decide)
                          | skip
                            fail
                    · simp only [ab_cmp, pr_i_0, pr_i_1, pr_i_2, pr_i_3, pr_i_4, pr_i_m1] at h29
                      first
                      | contradiction
                      | exact absurd trivial h29
                      | exact absurd h29 (by decide)
                      | exact absurd (Classical.not_not.mp h29) (by decide)
                      | skip
                        fail
                · simp only [ab_cmp, pr_i_0, pr_i_1, pr_i_2, pr_i_3, pr_i_4, pr_i_m1] at h16
                  first
                  | contradiction
                  | exact absurd trivial h16
                  | exact absurd h16 (by decide)
                  | exact absurd (Classical.not_not.mp h16) (by decide)
                  | skip
                    fail
              | false =>
                rw [b10] at s10
                rw [if_neg (by decide)]
                have y : ab_u I1 o 1 (-1) o 1 = -1 := ab_u_at
                have y7 : ab_u I1 o 1 (-1) 4 7 = nI s := by rw [ab_u_ne (by omega)]; exact i7
                have hrf := c_refuse 2 (nI s) h (ab_u I1 o 1 (-1), M.2) k4
                refine pr_seqT (pc' := 13) 3 rfl ⟨⟨⟨trivial, (by first | assumption | (simp only [y, y7, pr_i_0, pr_i_1, pr_i_2, pr_i_3, pr_i_4, pr_i_m1]; first | assumption | decide | exact ⟨by assumption, by assumption⟩ | exact ⟨Or.inl (by assumption), by assumption⟩ | omega) | decide | exact ⟨Or.inl (by assumption), by assumption⟩ | exact ⟨by assumption, by assumption⟩ | omega)⟩, (by first | assumption | (simp only [y, y7, pr_i_0, pr_i_1, pr_i_2, pr_i_3, pr_i_4, pr_i_m1]; first | assumption | decide | exact ⟨by assumption, by assumption⟩ | exact ⟨Or.inl (by assumption), by assumption⟩ | omega) | decide | exact ⟨Or.inl (by assumption), by assumption⟩ | exact ⟨by assumption, by assumption⟩ | omega)⟩, trivial⟩ ?_
                try simp only [y, y7, pr_i_0, pr_i_1, pr_i_2, pr_i_3, pr_i_4, pr_i_m1]
                refine pr_cvT [_] rfl rfl rfl rfl rfl (Nat.le_of_ble_eq_true rfl) (by first | assumption | (simp only [y, y7, pr_i_0, pr_i_1, pr_i_2, pr_i_3, pr_i_4, pr_i_m1]; first | assumption | decide | exact ⟨by assumption, by assumption⟩ | exact ⟨Or.inl (by assumption), by assumption⟩ | omega) | decide | exact ⟨Or.inl (by assumption), by assumption⟩ | exact ⟨by assumption, by assumption⟩ | omega) (Nat.le_of_ble_eq_true rfl) (s6) ?_
                refine pr_ifT rfl (fun h16 => ?_) (fun h16 => ?_)
                · simp only [ab_cmp, pr_i_0, pr_i_1, pr_i_2, pr_i_3, pr_i_4, pr_i_m1] at h16
                  first
                  | contradiction
                  | exact absurd trivial h16
                  | exact absurd h16 (by decide)
                  | exact absurd (Classical.not_not.mp h16) (by decide)
                  | exact absurd rfl h16
                  | skip
                    refine pr_seqT (pc' := 26) 2 rfl ⟨⟨trivial, (by first | assumption | (simp only [y, y7, pr_i_0, pr_i_1, pr_i_2, pr_i_3, pr_i_4, pr_i_m1]; first | assumption | decide | exact ⟨by assumption, by assumption⟩ | exact ⟨Or.inl (by assumption), by assumption⟩ | omega) | decide | exact ⟨Or.inl (by assumption), by assumption⟩ | exact ⟨by assumption, by assumption⟩ | omega)⟩, trivial⟩ ?_
                    try simp only [y, y7, pr_i_0, pr_i_1, pr_i_2, pr_i_3, pr_i_4, pr_i_m1]
                    refine pr_cvT [_] rfl rfl rfl rfl rfl (Nat.le_of_ble_eq_true rfl) (by first | assumption | (simp only [y, y7, pr_i_0, pr_i_1, pr_i_2, pr_i_3, pr_i_4, pr_i_m1]; first | assumption | decide | exact ⟨by assumption, by assumption⟩ | exact ⟨Or.inl (by assumption), by assumption⟩ | omega) | decide | exact ⟨Or.inl (by assumption), by assumption⟩ | exact ⟨by assumption, by assumption⟩ | omega) (Nat.le_of_ble_eq_true rfl) (s7) ?_
                    refine pr_ifT rfl (fun h29 => ?_) (fun h29 => ?_)
                    · simp only [ab_cmp, pr_i_0, pr_i_1, pr_i_2, pr_i_3, pr_i_4, pr_i_m1] at h29
                      first
                      | contradiction
                      | exact absurd trivial h29
                      | exact absurd h29 (by decide)
                      | exact absurd (Classical.not_not.mp h29) (by decide)
                      | exact absurd rfl h29
                      | skip
                        refine pr_seqT (pc' := 39) 2 rfl ⟨⟨trivial, (by first | assumption | (simp only [y, y7, pr_i_0, pr_i_1, pr_i_2, pr_i_3, pr_i_4, pr_i_m1]; first | assumption | decide | exact ⟨by assumption, by assumption⟩ | exact ⟨Or.inl (by assumption), by assumption⟩ | omega) | decide | exact ⟨Or.inl (by assumption), by assumption⟩ | exact ⟨by assumption, by assumption⟩ | omega)⟩, trivial⟩ ?_
                        try simp only [y, y7, pr_i_0, pr_i_1, pr_i_2, pr_i_3, pr_i_4, pr_i_m1]
                        refine pr_cvT [_] rfl rfl rfl rfl rfl (Nat.le_of_ble_eq_true rfl) (by first | assumption | (simp only [y, y7, pr_i_0, pr_i_1, pr_i_2, pr_i_3, pr_i_4, pr_i_m1]; first | assumption | decide | exact ⟨by assumption, by assumption⟩ | exact ⟨Or.inl (by assumption), by assumption⟩ | omega) | decide | exact ⟨Or.inl (by assumption), by assumption⟩ | exact ⟨by assumption, by assumption⟩ | omega) (Nat.le_of_ble_eq_true rfl) (s8) ?_
                        refine pr_ifT rfl (fun h42 => ?_) (fun h42 => ?_)
                        · simp only [ab_cmp, pr_i_0, pr_i_1, pr_i_2, pr_i_3, pr_i_4, pr_i_m1] at h42
                          first
                          | contradiction
                          | exact absurd trivial h42
                          | exact absurd h42 (by decide)
                          | exact absurd (Classical.not_not.mp h42) (by decide)
                          | exact absurd rfl h42
                          | skip
                            refine pr_seqT (pc' := 52) 2 rfl ⟨⟨trivial, (by first | assumption | (simp only [y, y7, pr_i_0, pr_i_1, pr_i_2, pr_i_3, pr_i_4, pr_i_m1]; first | assumption | decide | exact ⟨by assumption, by assumption⟩ | exact ⟨Or.inl (by assumption), by assumption⟩ | omega) | decide | exact ⟨Or.inl (by assumption), by assumption⟩ | exact ⟨by assumption, by assumption⟩ | omega)⟩, trivial⟩ ?_
                            try simp only [y, y7, pr_i_0, pr_i_1, pr_i_2, pr_i_3, pr_i_4, pr_i_m1]
                            refine pr_cvT [_] rfl rfl rfl rfl rfl (Nat.le_of_ble_eq_true rfl) (by first | assumption | (simp only [y, y7, pr_i_0, pr_i_1, pr_i_2, pr_i_3, pr_i_4, pr_i_m1]; first | assumption | decide | exact ⟨by assumption, by assumption⟩ | exact ⟨Or.inl (by assumption), by assumption⟩ | omega) | decide | exact ⟨Or.inl (by assumption), by assumption⟩ | exact ⟨by assumption, by assumption⟩ | omega) (Nat.le_of_ble_eq_true rfl) (s9) ?_
                            refine pr_ifT rfl (fun h55 => ?_) (fun h55 => ?_)
                            · simp only [ab_cmp, pr_i_0, pr_i_1, pr_i_2, pr_i_3, pr_i_4, pr_i_m1] at h55
                              first
                              | contradiction
                              | exact absurd trivial h55
                              | exact absurd h55 (by decide)
                              | exact absurd (Classical.not_not.mp h55) (by decide)
                              | exact absurd rfl h55
                              | skip
                                refine pr_seqT (pc' := 65) 2 rfl ⟨⟨trivial, (by first | assumption | (simp only [y, y7, pr_i_0, pr_i_1, pr_i_2, pr_i_3, pr_i_4, pr_i_m1]; first | assumption | decide | exact ⟨by assumption, by assumption⟩ | exact ⟨Or.inl (by assumption), by assumption⟩ | omega) | decide | exact ⟨Or.inl (by assumption), by assumption⟩ | exact ⟨by assumption, by assumption⟩ | omega)⟩, trivial⟩ ?_
                                try simp only [y, y7, pr_i_0, pr_i_1, pr_i_2, pr_i_3, pr_i_4, pr_i_m1]
                                refine pr_cvT [_] rfl rfl rfl rfl rfl (Nat.le_of_ble_eq_true rfl) (by first | assumption | (simp only [y, y7, pr_i_0, pr_i_1, pr_i_2, pr_i_3, pr_i_4, pr_i_m1]; first | assumption | decide | exact ⟨by assumption, by assumption⟩ | exact ⟨Or.inl (by assumption), by assumption⟩ | omega) | decide | exact ⟨Or.inl (by assumption), by assumption⟩ | exact ⟨by assumption, by assumption⟩ | omega) (Nat.le_of_ble_eq_true rfl) (s10) ?_
                                refine pr_ifT rfl (fun h68 => ?_) (fun h68 => ?_)
                                · simp only [ab_cmp, pr_i_0, pr_i_1, pr_i_2, pr_i_3, pr_i_4, pr_i_m1] at h68
                                  first
                                  | contradiction
                                  | exact absurd trivial h68
                                  | exact absurd h68 (by decide)
                                  | exact absurd (Classical.not_not.mp h68) (by decide)
                                  | exact absurd rfl h68
                                  | skip
                                    refine pr_seqT (pc' := 84) 5 rfl ⟨⟨⟨⟨⟨trivial, trivial⟩, (by first | assumption | (simp only [y, y7, pr_i_0, pr_i_1, pr_i_2, pr_i_3, pr_i_4, pr_i_m1]; first | assumption | decide | exact ⟨by assumption, by assumption⟩ | exact ⟨Or.inl (by assumption), by assumption⟩ | omega) | decide | exact ⟨Or.inl (by assumption), by assumption⟩ | exact ⟨by assumption, by assumption⟩ | omega)⟩, (by first | assumption | (simp only [y, y7, pr_i_0, pr_i_1, pr_i_2, pr_i_3, pr_i_4, pr_i_m1]; first | assumption | decide | exact ⟨by assumption, by assumption⟩ | exact ⟨Or.inl (by assumption), by assumption⟩ | omega) | decide | exact ⟨Or.inl (by assumption), by assumption⟩ | exact ⟨by assumption, by assumption⟩ | omega)⟩, (by first | assumption | (simp only [y, y7, pr_i_0, pr_i_1, pr_i_2, pr_i_3, pr_i_4, pr_i_m1]; first | assumption | decide | exact ⟨by assumption, by assumption⟩ | exact ⟨Or.inl (by assumption), by assumption⟩ | omega) | decide | exact ⟨Or.inl (by assumption), by assumption⟩ | exact ⟨by assumption, by assumption⟩ | omega)⟩, trivial⟩ ?_
                                    try simp only [y, y7, pr_i_0, pr_i_1, pr_i_2, pr_i_3, pr_i_4, pr_i_m1]
                                    refine pr_icT rfl (fun h84 => ?_) (fun h84 => ?_)
                                    · simp only [ab_cmp, pr_i_0, pr_i_1, pr_i_2, pr_i_3, pr_i_4, pr_i_m1] at h84
                                      first
                                      | contradiction
                                      | exact absurd trivial h84
                                      | exact absurd h84 (by decide)
                                      | exact absurd (Classical.not_not.mp h84) (by decide)
                                      | exact absurd rfl h84
                                      | skip
                                        fail
                                    · simp only [ab_cmp, pr_i_0, pr_i_1, pr_i_2, pr_i_3, pr_i_4, pr_i_m1] at h84
                                      first
                                      | contradiction
                                      | exact absurd trivial h84
                                      | exact absurd h84 (by decide)
                                      | exact absurd (Classical.not_not.mp h84) (by decide)
                                      | exact absurd rfl h84
                                      | skip
                                        refine pr_seqT (pc' := 93) 4 rfl ⟨⟨⟨⟨trivial, (by first | assumption | (simp only [y, y7, pr_i_0, pr_i_1, pr_i_2, pr_i_3, pr_i_4, pr_i_m1]; first | assumption | decide | exact ⟨by assumption, by assumption⟩ | exact ⟨Or.inl (by assumption), by assumption⟩ | omega) | decide | exact ⟨Or.inl (by assumption), by assumption⟩ | exact ⟨by assumption, by assumption⟩ | omega)⟩, trivial⟩, (by first | assumption | (simp only [y, y7, pr_i_0, pr_i_1, pr_i_2, pr_i_3, pr_i_4, pr_i_m1]; first | assumption | decide | exact ⟨by assumption, by assumption⟩ | exact ⟨Or.inl (by assumption), by assumption⟩ | omega) | decide | exact ⟨Or.inl (by assumption), by assumption⟩ | exact ⟨by assumption, by assumption⟩ | omega)⟩, (by first | assumption | (simp only [y, y7, pr_i_0, pr_i_1, pr_i_2, pr_i_3, pr_i_4, pr_i_m1]; first | assumption | decide | exact ⟨by assumption, by assumption⟩ | exact ⟨Or.inl (by assumption), by assumption⟩ | omega) | decide | exact ⟨Or.inl (by assumption), by assumption⟩ | exact ⟨by assumption, by assumption⟩ | omega)⟩ ?_
                                        try simp only [y, y7, pr_i_0, pr_i_1, pr_i_2, pr_i_3, pr_i_4, pr_i_m1]
                                        refine pr_cvT [_, _] rfl rfl rfl rfl rfl (Nat.le_of_ble_eq_true rfl) (by first | assumption | (simp only [y, y7, pr_i_0, pr_i_1, pr_i_2, pr_i_3, pr_i_4, pr_i_m1]; first | assumption | decide | exact ⟨by assumption, by assumption⟩ | exact ⟨Or.inl (by assumption), by assumption⟩ | omega) | decide | exact ⟨Or.inl (by assumption), by assumption⟩ | exact ⟨by assumption, by assumption⟩ | omega) (Nat.le_of_ble_eq_true rfl) (hrf) ?_
                                        refine pr_ifT rfl (fun h96 => ?_) (fun h96 => ?_)
                                        · simp only [ab_cmp, pr_i_0, pr_i_1, pr_i_2, pr_i_3, pr_i_4, pr_i_m1] at h96
                                          first
                                          | contradiction
                                          | exact absurd trivial h96
                                          | exact absurd h96 (by decide)
                                          | exact absurd (Classical.not_not.mp h96) (by decide)
                                          | exact absurd rfl h96
                                          | skip
                                            refine pr_seqT (pc' := 104) 1 rfl ⟨trivial, trivial⟩ ?_
                                            try simp only [y, y7, pr_i_0, pr_i_1, pr_i_2, pr_i_3, pr_i_4, pr_i_m1]
                                            exact pr_irT rfl (by first | exact Or.inl rfl | exact Or.inr rfl | exact pr_b01 _ | assumption) (by exact ⟨rfl, rfl, fun a x y => by dsimp only; rw [ab_u_ne x, ab_u_ne x, ab_u_ne y]; exact f1 a x, by dsimp only; rw [ab_u_j (by decide), ab_u_at]; rfl, by dsimp only; rw [ab_u_at]⟩)
                                        · simp only [ab_cmp, pr_i_0, pr_i_1, pr_i_2, pr_i_3, pr_i_4, pr_i_m1] at h96
                                          first
                                          | contradiction
                                          | exact absurd trivial h96
                                          | exact absurd h96 (by decide)
                                          | exact absurd (Classical.not_not.mp h96) (by decide)
                                          | exact absurd rfl h96
                                          | skip
                                            fail
                                · simp only [ab_cmp, pr_i_0, pr_i_1, pr_i_2, pr_i_3, pr_i_4, pr_i_m1] at h68
                                  first
                                  | contradiction
                                  | exact absurd trivial h68
                                  | exact absurd h68 (by decide)
                                  | exact absurd (Classical.not_not.mp h68) (by decide)
                                  | exact absurd rfl h68
                                  | skip
                                    fail
                            · simp only [ab_cmp, pr_i_0, pr_i_1, pr_i_2, pr_i_3, pr_i_4, pr_i_m1] at h55
                              first
                              | contradiction
                              | exact absurd trivial h55
                              | exact absurd h55 (by decide)
                              | exact absurd (Classical.not_not.mp h55) (by decide)
                              | exact absurd rfl h55
                              | skip
                                fail
                        · simp only [ab_cmp, pr_i_0, pr_i_1, pr_i_2, pr_i_3, pr_i_4, pr_i_m1] at h42
                          first
                          | contradiction
                          | exact absurd trivial h42
                          | exact absurd h42 (by decide)
                          | exact absurd (Classical.not_not.mp h42) (by decide)
                          | exact absurd rfl h42
                          | skip
                            fail
                    · simp only [ab_cmp, pr_i_0, pr_i_1, pr_i_2, pr_i_3, pr_i_4, pr_i_m1] at h29
                      first
                      | contradiction
                      | exact absurd trivial h29
                      | exact absurd h29 (by decide)
                      | exact absurd (Classical.not_not.mp h29) (by decide)
                      | exact absurd rfl h29
                      | skip
                        fail
                · simp only [ab_cmp, pr_i_0, pr_i_1, pr_i_2, pr_i_3, pr_i_4, pr_i_m1] at h16
                  first
                  | contradiction
                  | exact absurd trivial h16
                  | exact absurd h16 (by decide)
                  | exact absurd (Classical.not_not.mp h16) (by decide)
                  | exact absurd rfl h16
                  | skip
                    fail
    refine pr_seqT (pc' := 1) 1 rfl ⟨trivial, (by first | assumption | decide | exact ⟨Or.inl (by assumption), by assumption⟩ | exact ⟨by assumption, by assumption⟩ | omega)⟩ ?_
    refine pr_cvX [] rfl rfl rfl rfl rfl (Nat.le_of_ble_eq_true rfl) (by first | assumption | decide | exact ⟨Or.inl (by assumption), by assumption⟩ | exact ⟨by assumption, by assumption⟩ | omega) (Nat.le_of_ble_eq_true rfl) (hadv) (fun v1 M1 q1 => ?_)
    obtain ⟨e2, f1, rfl, hf4, hn⟩ := q1
    obtain ⟨I1, Z1⟩ := M1
    dsimp only at e2 f1 hf4 hn
    subst e2
    obtain ⟨i5, i6, i7, i8, i3, i4, i9⟩ := hn c4
    refine pr_ifT rfl (fun h4 => ?_) (fun h4 => ?_)
    · simp only [ab_cmp, pr_i_0, pr_i_1, pr_i_2, pr_i_3, pr_i_4, pr_i_m1] at h4
      first
      | contradiction
      | exact absurd trivial h4
      | exact absurd h4 (by decide)
      | exact absurd (Classical.not_not.mp h4) (by decide)
      | skip
        exact key I1 f1 i3 i4 i9 i5 i6 i7
    · simp only [ab_cmp, pr_i_0, pr_i_1, pr_i_2, pr_i_3, pr_i_4, pr_i_m1] at h4
      first
      | contradiction
      | exact absurd trivial h4
      | exact absurd h4 (by decide)
      | exact absurd (Classical.not_not.mp h4) (by decide)
      | skip
        fail
