
/-! ===== takeNumber, takeWord, takeSemicolon, says, copyWord ===== -/
def tk_p {α : Type} (ok : α → (Nat → Nat → Int32) → Prop) (M : ab_M) (e : Except (Nat × Nat) α) (r : Option Value) (M' : ab_M) : Prop := M'.2 = M.2 ∧ rd4 M.1 M'.1 ∧ match e with
  | .error q => r = some (.int (pr_b false)) ∧ M'.1 4 9 = nI q.1 ∧ M'.1 4 10 = nI q.2
  | .ok a => r = some (.int (pr_b true)) ∧ M'.1 4 3 = M.1 4 3 ∧ M'.1 4 4 = M.1 4 4 ∧ M'.1 4 9 = M.1 4 9 ∧ ok a M'.1
theorem tk_ref {α : Type} {ok : α → (Nat → Nat → Int32) → Prop} {M : ab_M} {I1 : Nat → Nat → Int32} {c s : Nat} (f1 : rd4 M.1 I1) : tk_p ok M (.error (c, s)) (some (.int (pr_b false))) (ab_u (ab_u I1 4 9 (nI c)) 4 10 (nI s), M.2) := ⟨rfl, fun a ha => by dsimp only; rw [ab_u_ne ha, ab_u_ne ha]; exact f1 a ha, rfl, by dsimp only; rw [ab_u_j (by decide), ab_u_at], by dsimp only; rw [ab_u_at]⟩
theorem c_takeNumber {t p lo hi : Nat} {w : List Nat} (h : ab_H) (M : ab_M) (hr : pr_Rd h M.2.2 t) (hw : tp_v M.1 w) (h5 : M.1 4 5 = nI p) (hp : p ≤ w.length) (hlo : lo < 1000) (hhi : hi < 1000) : pr_X pX6_takeNumber [.ref 4, .int (nI lo), .int (nI hi)] h M (tk_p (fun q I => I 4 8 = nI q.1 ∧ I 4 5 = nI q.2) M (tNum w lo hi p)) := by
  have k4 := hr.1
  have n4 : (4 : Nat) ≠ 0 := by decide
  have hadv := c_advance h M hr hw h5 hp
  have hle := tok_le hp
  have n999 := num_le999 hp
  have hw2 := hw.2.1
  unfold adv_p at hadv
  unfold tNum
  generalize tok w p = q at *
  obtain ⟨k, s, e, v⟩ := q
  dsimp only at *
  by_cases c4 : k = 4
  · rw [if_pos c4]
    rw [decide_eq_false (fun z => z c4)] at hadv
    refine pr_seqT (pc' := 1) 1 rfl ⟨trivial, (by first | assumption | decide | exact ⟨Or.inl (by assumption), by assumption⟩ | exact ⟨by assumption, by assumption⟩ | omega)⟩ ?_
    refine pr_cvX [] rfl rfl rfl rfl rfl (Nat.le_of_ble_eq_true rfl) (by first | assumption | decide | exact ⟨Or.inl (by assumption), by assumption⟩ | exact ⟨by assumption, by assumption⟩ | omega) (Nat.le_of_ble_eq_true rfl) (hadv) (fun v1 M1 q1 => ?_)
    obtain ⟨e2, f1, rfl, hf4, hn⟩ := q1
    obtain ⟨I1, Z1⟩ := M1
    dsimp only at e2 f1 hf4 hn
    subst e2
    refine pr_ifT rfl (fun h4 => ?_) (fun h4 => ?_)
    · simp only [ab_cmp, pr_i_0, pr_i_1, pr_i_2, pr_i_3] at h4
      first
      | contradiction
      | exact absurd trivial h4
      | exact absurd h4 (by decide)
      | exact absurd (Classical.not_not.mp h4) (by decide)
      | skip
        fail
    · simp only [ab_cmp, pr_i_0, pr_i_1, pr_i_2, pr_i_3] at h4
      first
      | contradiction
      | exact absurd trivial h4
      | exact absurd h4 (by decide)
      | exact absurd (Classical.not_not.mp h4) (by decide)
      | skip
        refine pr_seqT (pc' := 8) 1 rfl ⟨trivial, trivial⟩ ?_
        exact pr_irT rfl (by first | exact Or.inl rfl | exact Or.inr rfl | exact pr_b01 _ | assumption) (by exact ⟨rfl, f1, rfl, (hf4 c4).1, (hf4 c4).2⟩)
  · rw [if_neg c4]
    rw [decide_eq_true c4] at hadv
    by_cases c2 : k = 2
    · rw [if_pos c2]
      have hv := n999 c2
      by_cases c5 : lo ≤ v ∧ v ≤ hi
      · rw [if_pos c5]
        have z1 : pr_in (nI v) (nI lo) (nI hi) = true := by
          unfold pr_in
          rw [decide_eq_false (fun q => by have := (nI_ltI (by omega) (by omega)).mp q; omega), decide_eq_false (fun q => by have := (nI_ltI (by omega) (by omega)).mp q; omega)]
          rfl
        have hwi := fun I => c_within (nI v) (nI lo) (nI hi) h (I, M.2)
        rw [z1] at hwi
        refine pr_seqT (pc' := 1) 1 rfl ⟨trivial, (by first | assumption | (simp only [i6, i8, pr_i_0, pr_i_1, pr_i_2, pr_i_3]; first | assumption | decide | exact ⟨by assumption, by assumption⟩ | exact ⟨Or.inl (by assumption), by assumption⟩ | omega) | decide | exact ⟨Or.inl (by assumption), by assumption⟩ | exact ⟨by assumption, by assumption⟩ | omega)⟩ ?_
        try simp only [i6, i8, pr_i_0, pr_i_1, pr_i_2, pr_i_3]
        refine pr_cvX [] rfl rfl rfl rfl rfl (Nat.le_of_ble_eq_true rfl) (by first | assumption | (simp only [i6, i8, pr_i_0, pr_i_1, pr_i_2, pr_i_3]; first | assumption | decide | exact ⟨by assumption, by assumption⟩ | exact ⟨Or.inl (by assumption), by assumption⟩ | omega) | decide | exact ⟨Or.inl (by assumption), by assumption⟩ | exact ⟨by assumption, by assumption⟩ | omega) (Nat.le_of_ble_eq_true rfl) (hadv) (fun v1 M1 q1 => ?_)
        obtain ⟨e2, f1, rfl, hf4, hn⟩ := q1
        obtain ⟨I1, Z1⟩ := M1
        dsimp only at e2 f1 hf4 hn
        subst e2
        obtain ⟨i5, i6, i7, i8, i3, i4, i9⟩ := hn c4
        have i8 := i8 c2
        rw [c2] at i6
        have i6 : I1 4 6 = 2 := i6
        refine pr_ifT rfl (fun h4 => ?_) (fun h4 => ?_)
        · simp only [ab_cmp, pr_i_0, pr_i_1, pr_i_2, pr_i_3] at h4
          first
          | contradiction
          | exact absurd trivial h4
          | exact absurd h4 (by decide)
          | exact absurd (Classical.not_not.mp h4) (by decide)
          | exact absurd rfl h4
          | skip
            refine pr_seqT (pc' := 14) 3 rfl ⟨⟨⟨trivial, (by first | assumption | (simp only [i6, i8, pr_i_0, pr_i_1, pr_i_2, pr_i_3]; first | assumption | decide | exact ⟨by assumption, by assumption⟩ | exact ⟨Or.inl (by assumption), by assumption⟩ | omega) | decide | exact ⟨Or.inl (by assumption), by assumption⟩ | exact ⟨by assumption, by assumption⟩ | omega)⟩, (by first | assumption | (simp only [i6, i8, pr_i_0, pr_i_1, pr_i_2, pr_i_3]; first | assumption | decide | exact ⟨by assumption, by assumption⟩ | exact ⟨Or.inl (by assumption), by assumption⟩ | omega) | decide | exact ⟨Or.inl (by assumption), by assumption⟩ | exact ⟨by assumption, by assumption⟩ | omega)⟩, trivial⟩ ?_
            try simp only [i6, i8, pr_i_0, pr_i_1, pr_i_2, pr_i_3]
            refine pr_icT rfl (fun h14 => ?_) (fun h14 => ?_)
            · simp only [ab_cmp, pr_i_0, pr_i_1, pr_i_2, pr_i_3] at h14
              first
              | contradiction
              | exact absurd trivial h14
              | exact absurd h14 (by decide)
              | exact absurd (Classical.not_not.mp h14) (by decide)
              | exact absurd rfl h14
              | skip
                refine pr_seqT (pc' := 33) 4 rfl ⟨⟨⟨⟨trivial, (by first | assumption | (simp only [i6, i8, pr_i_0, pr_i_1, pr_i_2, pr_i_3]; first | assumption | decide | exact ⟨by assumption, by assumption⟩ | exact ⟨Or.inl (by assumption), by assumption⟩ | omega) | decide | exact ⟨Or.inl (by assumption), by assumption⟩ | exact ⟨by assumption, by assumption⟩ | omega)⟩, (by first | assumption | (simp only [i6, i8, pr_i_0, pr_i_1, pr_i_2, pr_i_3]; first | assumption | decide | exact ⟨by assumption, by assumption⟩ | exact ⟨Or.inl (by assumption), by assumption⟩ | omega) | decide | exact ⟨Or.inl (by assumption), by assumption⟩ | exact ⟨by assumption, by assumption⟩ | omega)⟩, trivial⟩, trivial⟩ ?_
                try simp only [i6, i8, pr_i_0, pr_i_1, pr_i_2, pr_i_3]
                refine pr_csT [_, _, _] rfl rfl rfl rfl rfl (Nat.le_of_ble_eq_true rfl) (Nat.le_of_ble_eq_true rfl) (hwi I1) ?_
                refine pr_ifT rfl (fun h36 => ?_) (fun h36 => ?_)
                · simp only [ab_cmp, pr_i_0, pr_i_1, pr_i_2, pr_i_3] at h36
                  first
                  | contradiction
                  | exact absurd trivial h36
                  | exact absurd h36 (by decide)
                  | exact absurd (Classical.not_not.mp h36) (by decide)
                  | exact absurd rfl h36
                  | skip
                    refine pr_seqT (pc' := 56) 2 rfl ⟨⟨trivial, trivial⟩, trivial⟩ ?_
                    try simp only [i6, i8, pr_i_0, pr_i_1, pr_i_2, pr_i_3]
                    exact pr_irT rfl (by first | exact Or.inl rfl | exact Or.inr rfl | exact pr_b01 _ | assumption) (by exact ⟨rfl, f1, rfl, i3, i4, i9, i8, i5⟩)
                · simp only [ab_cmp, pr_i_0, pr_i_1, pr_i_2, pr_i_3] at h36
                  first
                  | contradiction
                  | exact absurd trivial h36
                  | exact absurd h36 (by decide)
                  | exact absurd (Classical.not_not.mp h36) (by decide)
                  | exact absurd rfl h36
                  | skip
                    fail
            · simp only [ab_cmp, pr_i_0, pr_i_1, pr_i_2, pr_i_3] at h14
              first
              | contradiction
              | exact absurd trivial h14
              | exact absurd h14 (by decide)
              | exact absurd (Classical.not_not.mp h14) (by decide)
              | exact absurd rfl h14
              | skip
                fail
        · simp only [ab_cmp, pr_i_0, pr_i_1, pr_i_2, pr_i_3] at h4
          first
          | contradiction
          | exact absurd trivial h4
          | exact absurd h4 (by decide)
          | exact absurd (Classical.not_not.mp h4) (by decide)
          | exact absurd rfl h4
          | skip
            fail
      · rw [if_neg c5]
        have z1 : pr_in (nI v) (nI lo) (nI hi) = false := by
          cases q : pr_in (nI v) (nI lo) (nI hi) with
          | false => rfl
          | true =>
            unfold pr_in at q
            rw [Bool.and_eq_true] at q
            have q1 := of_decide_eq_false ((Bool.not_eq_true' _).mp q.1)
            have q2 := of_decide_eq_false ((Bool.not_eq_true' _).mp q.2)
            rw [nI_ltI (by omega) (by omega)] at q1 q2
            exact absurd ⟨by omega, by omega⟩ c5
        have hwi := fun I => c_within (nI v) (nI lo) (nI hi) h (I, M.2)
        rw [z1] at hwi
        refine pr_seqT (pc' := 1) 1 rfl ⟨trivial, (by first | assumption | (simp only [i6, i7, i8, pr_i_0, pr_i_1, pr_i_2, pr_i_3]; first | assumption | decide | exact ⟨by assumption, by assumption⟩ | exact ⟨Or.inl (by assumption), by assumption⟩ | omega) | decide | exact ⟨Or.inl (by assumption), by assumption⟩ | exact ⟨by assumption, by assumption⟩ | omega)⟩ ?_
        try simp only [i6, i7, i8, pr_i_0, pr_i_1, pr_i_2, pr_i_3]
        refine pr_cvX [] rfl rfl rfl rfl rfl (Nat.le_of_ble_eq_true rfl) (by first | assumption | (simp only [i6, i7, i8, pr_i_0, pr_i_1, pr_i_2, pr_i_3]; first | assumption | decide | exact ⟨by assumption, by assumption⟩ | exact ⟨Or.inl (by assumption), by assumption⟩ | omega) | decide | exact ⟨Or.inl (by assumption), by assumption⟩ | exact ⟨by assumption, by assumption⟩ | omega) (Nat.le_of_ble_eq_true rfl) (hadv) (fun v1 M1 q1 => ?_)
        obtain ⟨e2, f1, rfl, hf4, hn⟩ := q1
        obtain ⟨I1, Z1⟩ := M1
        dsimp only at e2 f1 hf4 hn
        subst e2
        obtain ⟨i5, i6, i7, i8, i3, i4, i9⟩ := hn c4
        have i8 := i8 c2
        rw [c2] at i6
        have i6 : I1 4 6 = 2 := i6
        refine pr_ifT rfl (fun h4 => ?_) (fun h4 => ?_)
        · simp only [ab_cmp, pr_i_0, pr_i_1, pr_i_2, pr_i_3] at h4
          first
          | contradiction
          | exact absurd trivial h4
          | exact absurd h4 (by decide)
          | exact absurd (Classical.not_not.mp h4) (by decide)
          | exact absurd rfl h4
          | skip
            refine pr_seqT (pc' := 14) 3 rfl ⟨⟨⟨trivial, (by first | assumption | (simp only [i6, i7, i8, pr_i_0, pr_i_1, pr_i_2, pr_i_3]; first | assumption | decide | exact ⟨by assumption, by assumption⟩ | exact ⟨Or.inl (by assumption), by assumption⟩ | omega) | decide | exact ⟨Or.inl (by assumption), by assumption⟩ | exact ⟨by assumption, by assumption⟩ | omega)⟩, (by first | assumption | (simp only [i6, i7, i8, pr_i_0, pr_i_1, pr_i_2, pr_i_3]; first | assumption | decide | exact ⟨by assumption, by assumption⟩ | exact ⟨Or.inl (by assumption), by assumption⟩ | omega) | decide | exact ⟨Or.inl (by assumption), by assumption⟩ | exact ⟨by assumption, by assumption⟩ | omega)⟩, trivial⟩ ?_
            try simp only [i6, i7, i8, pr_i_0, pr_i_1, pr_i_2, pr_i_3]
            refine pr_icT rfl (fun h14 => ?_) (fun h14 => ?_)
            · simp only [ab_cmp, pr_i_0, pr_i_1, pr_i_2, pr_i_3] at h14
              first
              | contradiction
              | exact absurd trivial h14
              | exact absurd h14 (by decide)
              | exact absurd (Classical.not_not.mp h14) (by decide)
              | exact absurd rfl h14
              | skip
                refine pr_seqT (pc' := 33) 4 rfl ⟨⟨⟨⟨trivial, (by first | assumption | (simp only [i6, i7, i8, pr_i_0, pr_i_1, pr_i_2, pr_i_3]; first | assumption | decide | exact ⟨by assumption, by assumption⟩ | exact ⟨Or.inl (by assumption), by assumption⟩ | omega) | decide | exact ⟨Or.inl (by assumption), by assumption⟩ | exact ⟨by assumption, by assumption⟩ | omega)⟩, (by first | assumption | (simp only [i6, i7, i8, pr_i_0, pr_i_1, pr_i_2, pr_i_3]; first | assumption | decide | exact ⟨by assumption, by assumption⟩ | exact ⟨Or.inl (by assumption), by assumption⟩ | omega) | decide | exact ⟨Or.inl (by assumption), by assumption⟩ | exact ⟨by assumption, by assumption⟩ | omega)⟩, trivial⟩, trivial⟩ ?_
                try simp only [i6, i7, i8, pr_i_0, pr_i_1, pr_i_2, pr_i_3]
                refine pr_csT [_, _, _] rfl rfl rfl rfl rfl (Nat.le_of_ble_eq_true rfl) (Nat.le_of_ble_eq_true rfl) (hwi I1) ?_
                refine pr_ifT rfl (fun h36 => ?_) (fun h36 => ?_)
                · simp only [ab_cmp, pr_i_0, pr_i_1, pr_i_2, pr_i_3] at h36
                  first
                  | contradiction
                  | exact absurd trivial h36
                  | exact absurd h36 (by decide)
                  | exact absurd (Classical.not_not.mp h36) (by decide)
                  | exact absurd rfl h36
                  | skip
                    fail
                · simp only [ab_cmp, pr_i_0, pr_i_1, pr_i_2, pr_i_3] at h36
                  first
                  | contradiction
                  | exact absurd trivial h36
                  | exact absurd h36 (by decide)
                  | exact absurd (Classical.not_not.mp h36) (by decide)
                  | exact absurd rfl h36
                  | skip
                    refine pr_seqT (pc' := 45) 4 rfl ⟨⟨⟨⟨trivial, (by first | assumption | (simp only [i6, i7, i8, pr_i_0, pr_i_1, pr_i_2, pr_i_3]; first | assumption | decide | exact ⟨by assumption, by assumption⟩ | exact ⟨Or.inl (by assumption), by assumption⟩ | omega) | decide | exact ⟨Or.inl (by assumption), by assumption⟩ | exact ⟨by assumption, by assumption⟩ | omega)⟩, trivial⟩, (by first | assumption | (simp only [i6, i7, i8, pr_i_0, pr_i_1, pr_i_2, pr_i_3]; first | assumption | decide | exact ⟨by assumption, by assumption⟩ | exact ⟨Or.inl (by assumption), by assumption⟩ | omega) | decide | exact ⟨Or.inl (by assumption), by assumption⟩ | exact ⟨by assumption, by assumption⟩ | omega)⟩, (by first | assumption | (simp only [i6, i7, i8, pr_i_0, pr_i_1, pr_i_2, pr_i_3]; first | assumption | decide | exact ⟨by assumption, by assumption⟩ | exact ⟨Or.inl (by assumption), by assumption⟩ | omega) | decide | exact ⟨Or.inl (by assumption), by assumption⟩ | exact ⟨by assumption, by assumption⟩ | omega)⟩ ?_
                    try simp only [i6, i7, i8, pr_i_0, pr_i_1, pr_i_2, pr_i_3]
                    refine pr_cvT [_, _] rfl rfl rfl rfl rfl (Nat.le_of_ble_eq_true rfl) (by first | assumption | (simp only [i6, i7, i8, pr_i_0, pr_i_1, pr_i_2, pr_i_3]; first | assumption | decide | exact ⟨by assumption, by assumption⟩ | exact ⟨Or.inl (by assumption), by assumption⟩ | omega) | decide | exact ⟨Or.inl (by assumption), by assumption⟩ | exact ⟨by assumption, by assumption⟩ | omega) (Nat.le_of_ble_eq_true rfl) (c_refuse 3 (nI s) h (I1, M.2) k4) ?_
                    refine pr_ifT rfl (fun h48 => ?_) (fun h48 => ?_)
                    · simp only [ab_cmp, pr_i_0, pr_i_1, pr_i_2, pr_i_3] at h48
                      first
                      | contradiction
                      | exact absurd trivial h48
                      | exact absurd h48 (by decide)
                      | exact absurd (Classical.not_not.mp h48) (by decide)
                      | exact absurd rfl h48
                      | skip
                        refine pr_seqT (pc' := 56) 1 rfl ⟨trivial, trivial⟩ ?_
                        try simp only [i6, i7, i8, pr_i_0, pr_i_1, pr_i_2, pr_i_3]
                        exact pr_irT rfl (by first | exact Or.inl rfl | exact Or.inr rfl | exact pr_b01 _ | assumption) (by exact tk_ref (c := 3) f1)
                    · simp only [ab_cmp, pr_i_0, pr_i_1, pr_i_2, pr_i_3] at h48
                      first
                      | contradiction
                      | exact absurd trivial h48
                      | exact absurd h48 (by decide)
                      | exact absurd (Classical.not_not.mp h48) (by decide)
                      | exact absurd rfl h48
                      | skip
                        fail
            · simp only [ab_cmp, pr_i_0, pr_i_1, pr_i_2, pr_i_3] at h14
              first
              | contradiction
              | exact absurd trivial h14
              | exact absurd h14 (by decide)
              | exact absurd (Classical.not_not.mp h14) (by decide)
              | exact absurd rfl h14
              | skip
                fail
        · simp only [ab_cmp, pr_i_0, pr_i_1, pr_i_2, pr_i_3] at h4
          first
          | contradiction
          | exact absurd trivial h4
          | exact absurd h4 (by decide)
          | exact absurd (Classical.not_not.mp h4) (by decide)
          | exact absurd rfl h4
          | skip
            fail
    · rw [if_neg c2]
      have c2' : ¬ nI k = 2 := nI_ne (b := 2) c2 (by omega) (by decide)
      refine pr_seqT (pc' := 1) 1 rfl ⟨trivial, (by first | assumption | (simp only [i6, i7, pr_i_0, pr_i_1, pr_i_2, pr_i_3]; first | assumption | decide | exact ⟨by assumption, by assumption⟩ | exact ⟨Or.inl (by assumption), by assumption⟩ | omega) | decide | exact ⟨Or.inl (by assumption), by assumption⟩ | exact ⟨by assumption, by assumption⟩ | omega)⟩ ?_
      try simp only [i6, i7, pr_i_0, pr_i_1, pr_i_2, pr_i_3]
      refine pr_cvX [] rfl rfl rfl rfl rfl (Nat.le_of_ble_eq_true rfl) (by first | assumption | (simp only [i6, i7, pr_i_0, pr_i_1, pr_i_2, pr_i_3]; first | assumption | decide | exact ⟨by assumption, by assumption⟩ | exact ⟨Or.inl (by assumption), by assumption⟩ | omega) | decide | exact ⟨Or.inl (by assumption), by assumption⟩ | exact ⟨by assumption, by assumption⟩ | omega) (Nat.le_of_ble_eq_true rfl) (hadv) (fun v1 M1 q1 => ?_)
      obtain ⟨e2, f1, rfl, hf4, hn⟩ := q1
      obtain ⟨I1, Z1⟩ := M1
      dsimp only at e2 f1 hf4 hn
      subst e2
      obtain ⟨i5, i6, i7, i8, i3, i4, i9⟩ := hn c4
      refine pr_ifT rfl (fun h4 => ?_) (fun h4 => ?_)
      · simp only [ab_cmp, pr_i_0, pr_i_1, pr_i_2, pr_i_3] at h4
        first
        | contradiction
        | exact absurd trivial h4
        | exact absurd h4 (by decide)
        | exact absurd (Classical.not_not.mp h4) (by decide)
        | skip
          refine pr_seqT (pc' := 14) 3 rfl ⟨⟨⟨trivial, (by first | assumption | (simp only [i6, i7, pr_i_0, pr_i_1, pr_i_2, pr_i_3]; first | assumption | decide | exact ⟨by assumption, by assumption⟩ | exact ⟨Or.inl (by assumption), by assumption⟩ | omega) | decide | exact ⟨Or.inl (by assumption), by assumption⟩ | exact ⟨by assumption, by assumption⟩ | omega)⟩, (by first | assumption | (simp only [i6, i7, pr_i_0, pr_i_1, pr_i_2, pr_i_3]; first | assumption | decide | exact ⟨by assumption, by assumption⟩ | exact ⟨Or.inl (by assumption), by assumption⟩ | omega) | decide | exact ⟨Or.inl (by assumption), by assumption⟩ | exact ⟨by assumption, by assumption⟩ | omega)⟩, trivial⟩ ?_
          try simp only [i6, i7, pr_i_0, pr_i_1, pr_i_2, pr_i_3]
          refine pr_icT rfl (fun h14 => ?_) (fun h14 => ?_)
          · simp only [ab_cmp, pr_i_0, pr_i_1, pr_i_2, pr_i_3] at h14
            first
            | contradiction
            | exact absurd trivial h14
            | exact absurd h14 (by decide)
            | exact absurd (Classical.not_not.mp h14) (by decide)
            | skip
              fail
          · simp only [ab_cmp, pr_i_0, pr_i_1, pr_i_2, pr_i_3] at h14
            first
            | contradiction
            | exact absurd trivial h14
            | exact absurd h14 (by decide)
            | exact absurd (Classical.not_not.mp h14) (by decide)
            | skip
              refine pr_seqT (pc' := 23) 4 rfl ⟨⟨⟨⟨trivial, (by first | assumption | (simp only [i6, i7, pr_i_0, pr_i_1, pr_i_2, pr_i_3]; first | assumption | decide | exact ⟨by assumption, by assumption⟩ | exact ⟨Or.inl (by assumption), by assumption⟩ | omega) | decide | exact ⟨Or.inl (by assumption), by assumption⟩ | exact ⟨by assumption, by assumption⟩ | omega)⟩, trivial⟩, (by first | assumption | (simp only [i6, i7, pr_i_0, pr_i_1, pr_i_2, pr_i_3]; first | assumption | decide | exact ⟨by assumption, by assumption⟩ | exact ⟨Or.inl (by assumption), by assumption⟩ | omega) | decide | exact ⟨Or.inl (by assumption), by assumption⟩ | exact ⟨by assumption, by assumption⟩ | omega)⟩, (by first | assumption | (simp only [i6, i7, pr_i_0, pr_i_1, pr_i_2, pr_i_3]; first | assumption | decide | exact ⟨by assumption, by assumption⟩ | exact ⟨Or.inl (by assumption), by assumption⟩ | omega) | decide | exact ⟨Or.inl (by assumption), by assumption⟩ | exact ⟨by assumption, by assumption⟩ | omega)⟩ ?_
              try simp only [i6, i7, pr_i_0, pr_i_1, pr_i_2, pr_i_3]
              refine pr_cvT [_, _] rfl rfl rfl rfl rfl (Nat.le_of_ble_eq_true rfl) (by first | assumption | (simp only [i6, i7, pr_i_0, pr_i_1, pr_i_2, pr_i_3]; first | assumption | decide | exact ⟨by assumption, by assumption⟩ | exact ⟨Or.inl (by assumption), by assumption⟩ | omega) | decide | exact ⟨Or.inl (by assumption), by assumption⟩ | exact ⟨by assumption, by assumption⟩ | omega) (Nat.le_of_ble_eq_true rfl) (c_refuse 2 (nI s) h (I1, M.2) k4) ?_
              exact pr_irT rfl (by first | exact Or.inl rfl | exact Or.inr rfl | exact pr_b01 _ | assumption) (by exact tk_ref (c := 2) f1)
      · simp only [ab_cmp, pr_i_0, pr_i_1, pr_i_2, pr_i_3] at h4
        first
        | contradiction
        | exact absurd trivial h4
        | exact absurd h4 (by decide)
        | exact absurd (Classical.not_not.mp h4) (by decide)
        | skip
          fail
theorem c_takeWord {t p mx : Nat} {w : List Nat} (h : ab_H) (M : ab_M) (hr : pr_Rd h M.2.2 t) (hw : tp_v M.1 w) (h5 : M.1 4 5 = nI p) (hp : p ≤ w.length) (hmx : mx < 1000) : pr_X pX6_takeWord [.ref 4, .int (nI mx)] h M (tk_p (fun q I => I 4 7 = nI q.1 ∧ I 4 5 = nI q.2) M (tWord w mx p)) := by
  have k4 := hr.1
  have n4 : (4 : Nat) ≠ 0 := by decide
  have hadv := c_advance h M hr hw h5 hp
  have hle := tok_le hp
  have hw2 := hw.2.1
  unfold adv_p at hadv
  unfold tWord
  generalize tok w p = q at *
  obtain ⟨k, s, e, v⟩ := q
  dsimp only at *
  by_cases c4 : k = 4
  · rw [if_pos c4]
    rw [decide_eq_false (fun z => z c4)] at hadv
    refine pr_seqT (pc' := 1) 1 rfl ⟨trivial, (by first | assumption | decide | exact ⟨Or.inl (by assumption), by assumption⟩ | exact ⟨by assumption, by assumption⟩ | omega)⟩ ?_
    refine pr_cvX [] rfl rfl rfl rfl rfl (Nat.le_of_ble_eq_true rfl) (by first | assumption | decide | exact ⟨Or.inl (by assumption), by assumption⟩ | exact ⟨by assumption, by assumption⟩ | omega) (Nat.le_of_ble_eq_true rfl) (hadv) (fun v1 M1 q1 => ?_)
    obtain ⟨e2, f1, rfl, hf4, hn⟩ := q1
    obtain ⟨I1, Z1⟩ := M1
    dsimp only at e2 f1 hf4 hn
    subst e2
    refine pr_ifT rfl (fun h4 => ?_) (fun h4 => ?_)
    · simp only [ab_cmp, pr_i_0, pr_i_1, pr_i_2, pr_i_3] at h4
      first
      | contradiction
      | exact absurd trivial h4
      | exact absurd h4 (by decide)
      | exact absurd (Classical.not_not.mp h4) (by decide)
      | skip
        fail
    · simp only [ab_cmp, pr_i_0, pr_i_1, pr_i_2, pr_i_3] at h4
      first
      | contradiction
      | exact absurd trivial h4
      | exact absurd h4 (by decide)
      | exact absurd (Classical.not_not.mp h4) (by decide)
      | skip
        refine pr_seqT (pc' := 8) 1 rfl ⟨trivial, trivial⟩ ?_
        exact pr_irT rfl (by first | exact Or.inl rfl | exact Or.inr rfl | exact pr_b01 _ | assumption) (by exact ⟨rfl, f1, rfl, (hf4 c4).1, (hf4 c4).2⟩)
  · rw [if_neg c4]
    rw [decide_eq_true c4] at hadv
    by_cases c2 : k = 1
    · rw [if_pos c2]
      have esub : nI e - nI s = nI (e - s) := i_sub hle.2.1
      by_cases c5 : e - s ≤ mx
      · rw [if_pos c5]
        have y5 : nI (e - s) ≤ nI mx := nI_le c5 (by omega)
        refine pr_seqT (pc' := 1) 1 rfl ⟨trivial, (by first | assumption | (simp only [i5, i6, i7, esub, pr_i_0, pr_i_1, pr_i_2, pr_i_3]; first | assumption | decide | exact ⟨by assumption, by assumption⟩ | exact ⟨Or.inl (by assumption), by assumption⟩ | omega) | decide | exact ⟨Or.inl (by assumption), by assumption⟩ | exact ⟨by assumption, by assumption⟩ | omega)⟩ ?_
        try simp only [i5, i6, i7, esub, pr_i_0, pr_i_1, pr_i_2, pr_i_3]
        refine pr_cvX [] rfl rfl rfl rfl rfl (Nat.le_of_ble_eq_true rfl) (by first | assumption | (simp only [i5, i6, i7, esub, pr_i_0, pr_i_1, pr_i_2, pr_i_3]; first | assumption | decide | exact ⟨by assumption, by assumption⟩ | exact ⟨Or.inl (by assumption), by assumption⟩ | omega) | decide | exact ⟨Or.inl (by assumption), by assumption⟩ | exact ⟨by assumption, by assumption⟩ | omega) (Nat.le_of_ble_eq_true rfl) (hadv) (fun v1 M1 q1 => ?_)
        obtain ⟨e2, f1, rfl, hf4, hn⟩ := q1
        obtain ⟨I1, Z1⟩ := M1
        dsimp only at e2 f1 hf4 hn
        subst e2
        obtain ⟨i5, i6, i7, i8, i3, i4, i9⟩ := hn c4
        rw [c2] at i6
        have i6 : I1 4 6 = 1 := i6
        refine pr_ifT rfl (fun h4 => ?_) (fun h4 => ?_)
        · simp only [ab_cmp, pr_i_0, pr_i_1, pr_i_2, pr_i_3] at h4
          first
          | contradiction
          | exact absurd trivial h4
          | exact absurd h4 (by decide)
          | exact absurd (Classical.not_not.mp h4) (by decide)
          | exact absurd rfl h4
          | skip
            refine pr_seqT (pc' := 14) 3 rfl ⟨⟨⟨trivial, (by first | assumption | (simp only [i5, i6, i7, esub, pr_i_0, pr_i_1, pr_i_2, pr_i_3]; first | assumption | decide | exact ⟨by assumption, by assumption⟩ | exact ⟨Or.inl (by assumption), by assumption⟩ | omega) | decide | exact ⟨Or.inl (by assumption), by assumption⟩ | exact ⟨by assumption, by assumption⟩ | omega)⟩, (by first | assumption | (simp only [i5, i6, i7, esub, pr_i_0, pr_i_1, pr_i_2, pr_i_3]; first | assumption | decide | exact ⟨by assumption, by assumption⟩ | exact ⟨Or.inl (by assumption), by assumption⟩ | omega) | decide | exact ⟨Or.inl (by assumption), by assumption⟩ | exact ⟨by assumption, by assumption⟩ | omega)⟩, trivial⟩ ?_
            try simp only [i5, i6, i7, esub, pr_i_0, pr_i_1, pr_i_2, pr_i_3]
            refine pr_icT rfl (fun h14 => ?_) (fun h14 => ?_)
            · simp only [ab_cmp, pr_i_0, pr_i_1, pr_i_2, pr_i_3] at h14
              first
              | contradiction
              | exact absurd trivial h14
              | exact absurd h14 (by decide)
              | exact absurd (Classical.not_not.mp h14) (by decide)
              | exact absurd rfl h14
              | skip
                refine pr_seqT (pc' := 37) 6 rfl ⟨⟨⟨⟨⟨⟨trivial, (by first | assumption | (simp only [i5, i6, i7, esub, pr_i_0, pr_i_1, pr_i_2, pr_i_3]; first | assumption | decide | exact ⟨by assumption, by assumption⟩ | exact ⟨Or.inl (by assumption), by assumption⟩ | omega) | decide | exact ⟨Or.inl (by assumption), by assumption⟩ | exact ⟨by assumption, by assumption⟩ | omega)⟩, (by first | assumption | (simp only [i5, i6, i7, esub, pr_i_0, pr_i_1, pr_i_2, pr_i_3]; first | assumption | decide | exact ⟨by assumption, by assumption⟩ | exact ⟨Or.inl (by assumption), by assumption⟩ | omega) | decide | exact ⟨Or.inl (by assumption), by assumption⟩ | exact ⟨by assumption, by assumption⟩ | omega)⟩, (by first | assumption | (simp only [i5, i6, i7, esub, pr_i_0, pr_i_1, pr_i_2, pr_i_3]; first | assumption | decide | exact ⟨by assumption, by assumption⟩ | exact ⟨Or.inl (by assumption), by assumption⟩ | omega) | decide | exact ⟨Or.inl (by assumption), by assumption⟩ | exact ⟨by assumption, by assumption⟩ | omega)⟩, (by first | assumption | (simp only [i5, i6, i7, esub, pr_i_0, pr_i_1, pr_i_2, pr_i_3]; first | assumption | decide | exact ⟨by assumption, by assumption⟩ | exact ⟨Or.inl (by assumption), by assumption⟩ | omega) | decide | exact ⟨Or.inl (by assumption), by assumption⟩ | exact ⟨by assumption, by assumption⟩ | omega)⟩, trivial⟩, trivial⟩ ?_
                try simp only [i5, i6, i7, esub, pr_i_0, pr_i_1, pr_i_2, pr_i_3]
                refine pr_icT rfl (fun h37 => ?_) (fun h37 => ?_)
                · simp only [ab_cmp, pr_i_0, pr_i_1, pr_i_2, pr_i_3] at h37
                  first
                  | contradiction
                  | exact absurd trivial h37
                  | exact absurd h37 (by decide)
                  | exact absurd (Classical.not_not.mp h37) (by decide)
                  | exact absurd rfl h37
                  | skip
                    refine pr_seqT (pc' := 57) 2 rfl ⟨⟨trivial, trivial⟩, trivial⟩ ?_
                    try simp only [i5, i6, i7, esub, pr_i_0, pr_i_1, pr_i_2, pr_i_3]
                    exact pr_irT rfl (by first | exact Or.inl rfl | exact Or.inr rfl | exact pr_b01 _ | assumption) (by exact ⟨rfl, f1, rfl, i3, i4, i9, i7, i5⟩)
                · simp only [ab_cmp, pr_i_0, pr_i_1, pr_i_2, pr_i_3] at h37
                  first
                  | contradiction
                  | exact absurd trivial h37
                  | exact absurd h37 (by decide)
                  | exact absurd (Classical.not_not.mp h37) (by decide)
                  | exact absurd rfl h37
                  | skip
                    fail
            · simp only [ab_cmp, pr_i_0, pr_i_1, pr_i_2, pr_i_3] at h14
              first
              | contradiction
              | exact absurd trivial h14
              | exact absurd h14 (by decide)
              | exact absurd (Classical.not_not.mp h14) (by decide)
              | exact absurd rfl h14
              | skip
                fail
        · simp only [ab_cmp, pr_i_0, pr_i_1, pr_i_2, pr_i_3] at h4
          first
          | contradiction
          | exact absurd trivial h4
          | exact absurd h4 (by decide)
          | exact absurd (Classical.not_not.mp h4) (by decide)
          | exact absurd rfl h4
          | skip
            fail
      · rw [if_neg c5]
        have y5 : ¬ nI (e - s) ≤ nI mx := fun q => c5 ((nI_leI (by omega) (by omega)).mp q)
        refine pr_seqT (pc' := 1) 1 rfl ⟨trivial, (by first | assumption | (simp only [i5, i6, i7, esub, pr_i_0, pr_i_1, pr_i_2, pr_i_3]; first | assumption | decide | exact ⟨by assumption, by assumption⟩ | exact ⟨Or.inl (by assumption), by assumption⟩ | omega) | decide | exact ⟨Or.inl (by assumption), by assumption⟩ | exact ⟨by assumption, by assumption⟩ | omega)⟩ ?_
        try simp only [i5, i6, i7, esub, pr_i_0, pr_i_1, pr_i_2, pr_i_3]
        refine pr_cvX [] rfl rfl rfl rfl rfl (Nat.le_of_ble_eq_true rfl) (by first | assumption | (simp only [i5, i6, i7, esub, pr_i_0, pr_i_1, pr_i_2, pr_i_3]; first | assumption | decide | exact ⟨by assumption, by assumption⟩ | exact ⟨Or.inl (by assumption), by assumption⟩ | omega) | decide | exact ⟨Or.inl (by assumption), by assumption⟩ | exact ⟨by assumption, by assumption⟩ | omega) (Nat.le_of_ble_eq_true rfl) (hadv) (fun v1 M1 q1 => ?_)
        obtain ⟨e2, f1, rfl, hf4, hn⟩ := q1
        obtain ⟨I1, Z1⟩ := M1
        dsimp only at e2 f1 hf4 hn
        subst e2
        obtain ⟨i5, i6, i7, i8, i3, i4, i9⟩ := hn c4
        rw [c2] at i6
        have i6 : I1 4 6 = 1 := i6
        refine pr_ifT rfl (fun h4 => ?_) (fun h4 => ?_)
        · simp only [ab_cmp, pr_i_0, pr_i_1, pr_i_2, pr_i_3] at h4
          first
          | contradiction
          | exact absurd trivial h4
          | exact absurd h4 (by decide)
          | exact absurd (Classical.not_not.mp h4) (by decide)
          | exact absurd rfl h4
          | skip
            refine pr_seqT (pc' := 14) 3 rfl ⟨⟨⟨trivial, (by first | assumption | (simp only [i5, i6, i7, esub, pr_i_0, pr_i_1, pr_i_2, pr_i_3]; first | assumption | decide | exact ⟨by assumption, by assumption⟩ | exact ⟨Or.inl (by assumption), by assumption⟩ | omega) | decide | exact ⟨Or.inl (by assumption), by assumption⟩ | exact ⟨by assumption, by assumption⟩ | omega)⟩, (by first | assumption | (simp only [i5, i6, i7, esub, pr_i_0, pr_i_1, pr_i_2, pr_i_3]; first | assumption | decide | exact ⟨by assumption, by assumption⟩ | exact ⟨Or.inl (by assumption), by assumption⟩ | omega) | decide | exact ⟨Or.inl (by assumption), by assumption⟩ | exact ⟨by assumption, by assumption⟩ | omega)⟩, trivial⟩ ?_
            try simp only [i5, i6, i7, esub, pr_i_0, pr_i_1, pr_i_2, pr_i_3]
            refine pr_icT rfl (fun h14 => ?_) (fun h14 => ?_)
            · simp only [ab_cmp, pr_i_0, pr_i_1, pr_i_2, pr_i_3] at h14
              first
              | contradiction
              | exact absurd trivial h14
              | exact absurd h14 (by decide)
              | exact absurd (Classical.not_not.mp h14) (by decide)
              | exact absurd rfl h14
              | skip
                refine pr_seqT (pc' := 37) 6 rfl ⟨⟨⟨⟨⟨⟨trivial, (by first | assumption | (simp only [i5, i6, i7, esub, pr_i_0, pr_i_1, pr_i_2, pr_i_3]; first | assumption | decide | exact ⟨by assumption, by assumption⟩ | exact ⟨Or.inl (by assumption), by assumption⟩ | omega) | decide | exact ⟨Or.inl (by assumption), by assumption⟩ | exact ⟨by assumption, by assumption⟩ | omega)⟩, (by first | assumption | (simp only [i5, i6, i7, esub, pr_i_0, pr_i_1, pr_i_2, pr_i_3]; first | assumption | decide | exact ⟨by assumption, by assumption⟩ | exact ⟨Or.inl (by assumption), by assumption⟩ | omega) | decide | exact ⟨Or.inl (by assumption), by assumption⟩ | exact ⟨by assumption, by assumption⟩ | omega)⟩, (by first | assumption | (simp only [i5, i6, i7, esub, pr_i_0, pr_i_1, pr_i_2, pr_i_3]; first | assumption | decide | exact ⟨by assumption, by assumption⟩ | exact ⟨Or.inl (by assumption), by assumption⟩ | omega) | decide | exact ⟨Or.inl (by assumption), by assumption⟩ | exact ⟨by assumption, by assumption⟩ | omega)⟩, (by first | assumption | (simp only [i5, i6, i7, esub, pr_i_0, pr_i_1, pr_i_2, pr_i_3]; first | assumption | decide | exact ⟨by assumption, by assumption⟩ | exact ⟨Or.inl (by assumption), by assumption⟩ | omega) | decide | exact ⟨Or.inl (by assumption), by assumption⟩ | exact ⟨by assumption, by assumption⟩ | omega)⟩, trivial⟩, trivial⟩ ?_
                try simp only [i5, i6, i7, esub, pr_i_0, pr_i_1, pr_i_2, pr_i_3]
                refine pr_icT rfl (fun h37 => ?_) (fun h37 => ?_)
                · simp only [ab_cmp, pr_i_0, pr_i_1, pr_i_2, pr_i_3] at h37
                  first
                  | contradiction
                  | exact absurd trivial h37
                  | exact absurd h37 (by decide)
                  | exact absurd (Classical.not_not.mp h37) (by decide)
                  | exact absurd rfl h37
                  | skip
                    fail
                · simp only [ab_cmp, pr_i_0, pr_i_1, pr_i_2, pr_i_3] at h37
                  first
                  | contradiction
                  | exact absurd trivial h37
                  | exact absurd h37 (by decide)
                  | exact absurd (Classical.not_not.mp h37) (by decide)
                  | exact absurd rfl h37
                  | skip
                    refine pr_seqT (pc' := 46) 4 rfl ⟨⟨⟨⟨trivial, (by first | assumption | (simp only [i5, i6, i7, esub, pr_i_0, pr_i_1, pr_i_2, pr_i_3]; first | assumption | decide | exact ⟨by assumption, by assumption⟩ | exact ⟨Or.inl (by assumption), by assumption⟩ | omega) | decide | exact ⟨Or.inl (by assumption), by assumption⟩ | exact ⟨by assumption, by assumption⟩ | omega)⟩, trivial⟩, (by first | assumption | (simp only [i5, i6, i7, esub, pr_i_0, pr_i_1, pr_i_2, pr_i_3]; first | assumption | decide | exact ⟨by assumption, by assumption⟩ | exact ⟨Or.inl (by assumption), by assumption⟩ | omega) | decide | exact ⟨Or.inl (by assumption), by assumption⟩ | exact ⟨by assumption, by assumption⟩ | omega)⟩, (by first | assumption | (simp only [i5, i6, i7, esub, pr_i_0, pr_i_1, pr_i_2, pr_i_3]; first | assumption | decide | exact ⟨by assumption, by assumption⟩ | exact ⟨Or.inl (by assumption), by assumption⟩ | omega) | decide | exact ⟨Or.inl (by assumption), by assumption⟩ | exact ⟨by assumption, by assumption⟩ | omega)⟩ ?_
                    try simp only [i5, i6, i7, esub, pr_i_0, pr_i_1, pr_i_2, pr_i_3]
                    refine pr_cvT [_, _] rfl rfl rfl rfl rfl (Nat.le_of_ble_eq_true rfl) (by first | assumption | (simp only [i5, i6, i7, esub, pr_i_0, pr_i_1, pr_i_2, pr_i_3]; first | assumption | decide | exact ⟨by assumption, by assumption⟩ | exact ⟨Or.inl (by assumption), by assumption⟩ | omega) | decide | exact ⟨Or.inl (by assumption), by assumption⟩ | exact ⟨by assumption, by assumption⟩ | omega) (Nat.le_of_ble_eq_true rfl) (c_refuse 3 (nI s) h (I1, M.2) k4) ?_
                    refine pr_ifT rfl (fun h49 => ?_) (fun h49 => ?_)
                    · simp only [ab_cmp, pr_i_0, pr_i_1, pr_i_2, pr_i_3] at h49
                      first
                      | contradiction
                      | exact absurd trivial h49
                      | exact absurd h49 (by decide)
                      | exact absurd (Classical.not_not.mp h49) (by decide)
                      | exact absurd rfl h49
                      | skip
                        refine pr_seqT (pc' := 57) 1 rfl ⟨trivial, trivial⟩ ?_
                        try simp only [i5, i6, i7, esub, pr_i_0, pr_i_1, pr_i_2, pr_i_3]
                        exact pr_irT rfl (by first | exact Or.inl rfl | exact Or.inr rfl | exact pr_b01 _ | assumption) (by exact tk_ref (c := 3) f1)
                    · simp only [ab_cmp, pr_i_0, pr_i_1, pr_i_2, pr_i_3] at h49
                      first
                      | contradiction
                      | exact absurd trivial h49
                      | exact absurd h49 (by decide)
                      | exact absurd (Classical.not_not.mp h49) (by decide)
                      | exact absurd rfl h49
                      | skip
                        fail
            · simp only [ab_cmp, pr_i_0, pr_i_1, pr_i_2, pr_i_3] at h14
              first
              | contradiction
              | exact absurd trivial h14
              | exact absurd h14 (by decide)
              | exact absurd (Classical.not_not.mp h14) (by decide)
              | exact absurd rfl h14
              | skip
                fail
        · simp only [ab_cmp, pr_i_0, pr_i_1, pr_i_2, pr_i_3] at h4
          first
          | contradiction
          | exact absurd trivial h4
          | exact absurd h4 (by decide)
          | exact absurd (Classical.not_not.mp h4) (by decide)
          | exact absurd rfl h4
          | skip
            fail
    · rw [if_neg c2]
      have c2' : ¬ nI k = 1 := nI_ne (b := 1) c2 (by omega) (by decide)
      refine pr_seqT (pc' := 1) 1 rfl ⟨trivial, (by first | assumption | (simp only [i6, i7, pr_i_0, pr_i_1, pr_i_2, pr_i_3]; first | assumption | decide | exact ⟨by assumption, by assumption⟩ | exact ⟨Or.inl (by assumption), by assumption⟩ | omega) | decide | exact ⟨Or.inl (by assumption), by assumption⟩ | exact ⟨by assumption, by assumption⟩ | omega)⟩ ?_
      try simp only [i6, i7, pr_i_0, pr_i_1, pr_i_2, pr_i_3]
      refine pr_cvX [] rfl rfl rfl rfl rfl (Nat.le_of_ble_eq_true rfl) (by first | assumption | (simp only [i6, i7, pr_i_0, pr_i_1, pr_i_2, pr_i_3]; first | assumption | decide | exact ⟨by assumption, by assumption⟩ | exact ⟨Or.inl (by assumption), by assumption⟩ | omega) | decide | exact ⟨Or.inl (by assumption), by assumption⟩ | exact ⟨by assumption, by assumption⟩ | omega) (Nat.le_of_ble_eq_true rfl) (hadv) (fun v1 M1 q1 => ?_)
      obtain ⟨e2, f1, rfl, hf4, hn⟩ := q1
      obtain ⟨I1, Z1⟩ := M1
      dsimp only at e2 f1 hf4 hn
      subst e2
      obtain ⟨i5, i6, i7, i8, i3, i4, i9⟩ := hn c4
      refine pr_ifT rfl (fun h4 => ?_) (fun h4 => ?_)
      · simp only [ab_cmp, pr_i_0, pr_i_1, pr_i_2, pr_i_3] at h4
        first
        | contradiction
        | exact absurd trivial h4
        | exact absurd h4 (by decide)
        | exact absurd (Classical.not_not.mp h4) (by decide)
        | skip
          refine pr_seqT (pc' := 14) 3 rfl ⟨⟨⟨trivial, (by first | assumption | (simp only [i6, i7, pr_i_0, pr_i_1, pr_i_2, pr_i_3]; first | assumption | decide | exact ⟨by assumption, by assumption⟩ | exact ⟨Or.inl (by assumption), by assumption⟩ | omega) | decide | exact ⟨Or.inl (by assumption), by assumption⟩ | exact ⟨by assumption, by assumption⟩ | omega)⟩, (by first | assumption | (simp only [i6, i7, pr_i_0, pr_i_1, pr_i_2, pr_i_3]; first | assumption | decide | exact ⟨by assumption, by assumption⟩ | exact ⟨Or.inl (by assumption), by assumption⟩ | omega) | decide | exact ⟨Or.inl (by assumption), by assumption⟩ | exact ⟨by assumption, by assumption⟩ | omega)⟩, trivial⟩ ?_
          try simp only [i6, i7, pr_i_0, pr_i_1, pr_i_2, pr_i_3]
          refine pr_icT rfl (fun h14 => ?_) (fun h14 => ?_)
          · simp only [ab_cmp, pr_i_0, pr_i_1, pr_i_2, pr_i_3] at h14
            first
            | contradiction
            | exact absurd trivial h14
            | exact absurd h14 (by decide)
            | exact absurd (Classical.not_not.mp h14) (by decide)
            | skip
              fail
          · simp only [ab_cmp, pr_i_0, pr_i_1, pr_i_2, pr_i_3] at h14
            first
            | contradiction
            | exact absurd trivial h14
            | exact absurd h14 (by decide)
            | exact absurd (Classical.not_not.mp h14) (by decide)
            | skip
              refine pr_seqT (pc' := 23) 4 rfl ⟨⟨⟨⟨trivial, (by first | assumption | (simp only [i6, i7, pr_i_0, pr_i_1, pr_i_2, pr_i_3]; first | assumption | decide | exact ⟨by assumption, by assumption⟩ | exact ⟨Or.inl (by assumption), by assumption⟩ | omega) | decide | exact ⟨Or.inl (by assumption), by assumption⟩ | exact ⟨by assumption, by assumption⟩ | omega)⟩, trivial⟩, (by first | assumption | (simp only [i6, i7, pr_i_0, pr_i_1, pr_i_2, pr_i_3]; first | assumption | decide | exact ⟨by assumption, by assumption⟩ | exact ⟨Or.inl (by assumption), by assumption⟩ | omega) | decide | exact ⟨Or.inl (by assumption), by assumption⟩ | exact ⟨by assumption, by assumption⟩ | omega)⟩, (by first | assumption | (simp only [i6, i7, pr_i_0, pr_i_1, pr_i_2, pr_i_3]; first | assumption | decide | exact ⟨by assumption, by assumption⟩ | exact ⟨Or.inl (by assumption), by assumption⟩ | omega) | decide | exact ⟨Or.inl (by assumption), by assumption⟩ | exact ⟨by assumption, by assumption⟩ | omega)⟩ ?_
              try simp only [i6, i7, pr_i_0, pr_i_1, pr_i_2, pr_i_3]
              refine pr_cvT [_, _] rfl rfl rfl rfl rfl (Nat.le_of_ble_eq_true rfl) (by first | assumption | (simp only [i6, i7, pr_i_0, pr_i_1, pr_i_2, pr_i_3]; first | assumption | decide | exact ⟨by assumption, by assumption⟩ | exact ⟨Or.inl (by assumption), by assumption⟩ | omega) | decide | exact ⟨Or.inl (by assumption), by assumption⟩ | exact ⟨by assumption, by assumption⟩ | omega) (Nat.le_of_ble_eq_true rfl) (c_refuse 2 (nI s) h (I1, M.2) k4) ?_
              exact pr_irT rfl (by first | exact Or.inl rfl | exact Or.inr rfl | exact pr_b01 _ | assumption) (by exact tk_ref (c := 2) f1)
      · simp only [ab_cmp, pr_i_0, pr_i_1, pr_i_2, pr_i_3] at h4
        first
        | contradiction
        | exact absurd trivial h4
        | exact absurd h4 (by decide)
        | exact absurd (Classical.not_not.mp h4) (by decide)
        | skip
          fail
theorem c_takeSemi {t p : Nat} {w : List Nat} (h : ab_H) (M : ab_M) (hr : pr_Rd h M.2.2 t) (hw : tp_v M.1 w) (h5 : M.1 4 5 = nI p) (hp : p ≤ w.length) : pr_X pX6_takeSemicolon [.ref 4] h M (tk_p (fun q I => I 4 5 = nI q) M (tSemi w p)) := by
  have k4 := hr.1
  have n4 : (4 : Nat) ≠ 0 := by decide
  have hadv := c_advance h M hr hw h5 hp
  have hle := tok_le hp
  have hw2 := hw.2.1
  unfold adv_p at hadv
  unfold tSemi
  generalize tok w p = q at *
  obtain ⟨k, s, e, v⟩ := q
  dsimp only at *
  by_cases c4 : k = 4
  · rw [if_pos c4]
    rw [decide_eq_false (fun z => z c4)] at hadv
    refine pr_seqT (pc' := 1) 1 rfl ⟨trivial, (by first | assumption | decide | exact ⟨Or.inl (by assumption), by assumption⟩ | exact ⟨by assumption, by assumption⟩ | omega)⟩ ?_
    refine pr_cvX [] rfl rfl rfl rfl rfl (Nat.le_of_ble_eq_true rfl) (by first | assumption | decide | exact ⟨Or.inl (by assumption), by assumption⟩ | exact ⟨by assumption, by assumption⟩ | omega) (Nat.le_of_ble_eq_true rfl) (hadv) (fun v1 M1 q1 => ?_)
    obtain ⟨e2, f1, rfl, hf4, hn⟩ := q1
    obtain ⟨I1, Z1⟩ := M1
    dsimp only at e2 f1 hf4 hn
    subst e2
    refine pr_ifT rfl (fun h4 => ?_) (fun h4 => ?_)
    · simp only [ab_cmp, pr_i_0, pr_i_1, pr_i_2, pr_i_3] at h4
      first
      | contradiction
      | exact absurd trivial h4
      | exact absurd h4 (by decide)
      | exact absurd (Classical.not_not.mp h4) (by decide)
      | skip
        fail
    · simp only [ab_cmp, pr_i_0, pr_i_1, pr_i_2, pr_i_3] at h4
      first
      | contradiction
      | exact absurd trivial h4
      | exact absurd h4 (by decide)
      | exact absurd (Classical.not_not.mp h4) (by decide)
      | skip
        refine pr_seqT (pc' := 8) 1 rfl ⟨trivial, trivial⟩ ?_
        exact pr_irT rfl (by first | exact Or.inl rfl | exact Or.inr rfl | exact pr_b01 _ | assumption) (by exact ⟨rfl, f1, rfl, (hf4 c4).1, (hf4 c4).2⟩)
  · rw [if_neg c4]
    rw [decide_eq_true c4] at hadv
    by_cases c2 : k = 3
    · rw [if_pos c2]
      refine pr_seqT (pc' := 1) 1 rfl ⟨trivial, (by first | assumption | (simp only [i5, i6, pr_i_0, pr_i_1, pr_i_2, pr_i_3]; first | assumption | decide | exact ⟨by assumption, by assumption⟩ | exact ⟨Or.inl (by assumption), by assumption⟩ | omega) | decide | exact ⟨Or.inl (by assumption), by assumption⟩ | exact ⟨by assumption, by assumption⟩ | omega)⟩ ?_
      try simp only [i5, i6, pr_i_0, pr_i_1, pr_i_2, pr_i_3]
      refine pr_cvX [] rfl rfl rfl rfl rfl (Nat.le_of_ble_eq_true rfl) (by first | assumption | (simp only [i5, i6, pr_i_0, pr_i_1, pr_i_2, pr_i_3]; first | assumption | decide | exact ⟨by assumption, by assumption⟩ | exact ⟨Or.inl (by assumption), by assumption⟩ | omega) | decide | exact ⟨Or.inl (by assumption), by assumption⟩ | exact ⟨by assumption, by assumption⟩ | omega) (Nat.le_of_ble_eq_true rfl) (hadv) (fun v1 M1 q1 => ?_)
      obtain ⟨e2, f1, rfl, hf4, hn⟩ := q1
      obtain ⟨I1, Z1⟩ := M1
      dsimp only at e2 f1 hf4 hn
      subst e2
      obtain ⟨i5, i6, i7, i8, i3, i4, i9⟩ := hn c4
      rw [c2] at i6
      have i6 : I1 4 6 = 3 := i6
      refine pr_ifT rfl (fun h4 => ?_) (fun h4 => ?_)
      · simp only [ab_cmp, pr_i_0, pr_i_1, pr_i_2, pr_i_3] at h4
        first
        | contradiction
        | exact absurd trivial h4
        | exact absurd h4 (by decide)
        | exact absurd (Classical.not_not.mp h4) (by decide)
        | exact absurd rfl h4
        | skip
          refine pr_seqT (pc' := 14) 3 rfl ⟨⟨⟨trivial, (by first | assumption | (simp only [i5, i6, pr_i_0, pr_i_1, pr_i_2, pr_i_3]; first | assumption | decide | exact ⟨by assumption, by assumption⟩ | exact ⟨Or.inl (by assumption), by assumption⟩ | omega) | decide | exact ⟨Or.inl (by assumption), by assumption⟩ | exact ⟨by assumption, by assumption⟩ | omega)⟩, (by first | assumption | (simp only [i5, i6, pr_i_0, pr_i_1, pr_i_2, pr_i_3]; first | assumption | decide | exact ⟨by assumption, by assumption⟩ | exact ⟨Or.inl (by assumption), by assumption⟩ | omega) | decide | exact ⟨Or.inl (by assumption), by assumption⟩ | exact ⟨by assumption, by assumption⟩ | omega)⟩, trivial⟩ ?_
          try simp only [i5, i6, pr_i_0, pr_i_1, pr_i_2, pr_i_3]
          refine pr_icT rfl (fun h14 => ?_) (fun h14 => ?_)
          · simp only [ab_cmp, pr_i_0, pr_i_1, pr_i_2, pr_i_3] at h14
            first
            | contradiction
            | exact absurd trivial h14
            | exact absurd h14 (by decide)
            | exact absurd (Classical.not_not.mp h14) (by decide)
            | exact absurd rfl h14
            | skip
              refine pr_seqT (pc' := 34) 2 rfl ⟨⟨trivial, trivial⟩, trivial⟩ ?_
              try simp only [i5, i6, pr_i_0, pr_i_1, pr_i_2, pr_i_3]
              exact pr_irT rfl (by first | exact Or.inl rfl | exact Or.inr rfl | exact pr_b01 _ | assumption) (by exact ⟨rfl, f1, rfl, i3, i4, i9, i5⟩)
          · simp only [ab_cmp, pr_i_0, pr_i_1, pr_i_2, pr_i_3] at h14
            first
            | contradiction
            | exact absurd trivial h14
            | exact absurd h14 (by decide)
            | exact absurd (Classical.not_not.mp h14) (by decide)
            | exact absurd rfl h14
            | skip
              fail
      · simp only [ab_cmp, pr_i_0, pr_i_1, pr_i_2, pr_i_3] at h4
        first
        | contradiction
        | exact absurd trivial h4
        | exact absurd h4 (by decide)
        | exact absurd (Classical.not_not.mp h4) (by decide)
        | exact absurd rfl h4
        | skip
          fail
    · rw [if_neg c2]
      have c2' : ¬ nI k = 3 := nI_ne (b := 3) c2 (by omega) (by decide)
      refine pr_seqT (pc' := 1) 1 rfl ⟨trivial, (by first | assumption | (simp only [i6, i7, pr_i_0, pr_i_1, pr_i_2, pr_i_3]; first | assumption | decide | exact ⟨by assumption, by assumption⟩ | exact ⟨Or.inl (by assumption), by assumption⟩ | omega) | decide | exact ⟨Or.inl (by assumption), by assumption⟩ | exact ⟨by assumption, by assumption⟩ | omega)⟩ ?_
      try simp only [i6, i7, pr_i_0, pr_i_1, pr_i_2, pr_i_3]
      refine pr_cvX [] rfl rfl rfl rfl rfl (Nat.le_of_ble_eq_true rfl) (by first | assumption | (simp only [i6, i7, pr_i_0, pr_i_1, pr_i_2, pr_i_3]; first | assumption | decide | exact ⟨by assumption, by assumption⟩ | exact ⟨Or.inl (by assumption), by assumption⟩ | omega) | decide | exact ⟨Or.inl (by assumption), by assumption⟩ | exact ⟨by assumption, by assumption⟩ | omega) (Nat.le_of_ble_eq_true rfl) (hadv) (fun v1 M1 q1 => ?_)
      obtain ⟨e2, f1, rfl, hf4, hn⟩ := q1
      obtain ⟨I1, Z1⟩ := M1
      dsimp only at e2 f1 hf4 hn
      subst e2
      obtain ⟨i5, i6, i7, i8, i3, i4, i9⟩ := hn c4
      refine pr_ifT rfl (fun h4 => ?_) (fun h4 => ?_)
      · simp only [ab_cmp, pr_i_0, pr_i_1, pr_i_2, pr_i_3] at h4
        first
        | contradiction
        | exact absurd trivial h4
        | exact absurd h4 (by decide)
        | exact absurd (Classical.not_not.mp h4) (by decide)
        | skip
          refine pr_seqT (pc' := 14) 3 rfl ⟨⟨⟨trivial, (by first | assumption | (simp only [i6, i7, pr_i_0, pr_i_1, pr_i_2, pr_i_3]; first | assumption | decide | exact ⟨by assumption, by assumption⟩ | exact ⟨Or.inl (by assumption), by assumption⟩ | omega) | decide | exact ⟨Or.inl (by assumption), by assumption⟩ | exact ⟨by assumption, by assumption⟩ | omega)⟩, (by first | assumption | (simp only [i6, i7, pr_i_0, pr_i_1, pr_i_2, pr_i_3]; first | assumption | decide | exact ⟨by assumption, by assumption⟩ | exact ⟨Or.inl (by assumption), by assumption⟩ | omega) | decide | exact ⟨Or.inl (by assumption), by assumption⟩ | exact ⟨by assumption, by assumption⟩ | omega)⟩, trivial⟩ ?_
          try simp only [i6, i7, pr_i_0, pr_i_1, pr_i_2, pr_i_3]
          refine pr_icT rfl (fun h14 => ?_) (fun h14 => ?_)
          · simp only [ab_cmp, pr_i_0, pr_i_1, pr_i_2, pr_i_3] at h14
            first
            | contradiction
            | exact absurd trivial h14
            | exact absurd h14 (by decide)
            | exact absurd (Classical.not_not.mp h14) (by decide)
            | skip
              fail
          · simp only [ab_cmp, pr_i_0, pr_i_1, pr_i_2, pr_i_3] at h14
            first
            | contradiction
            | exact absurd trivial h14
            | exact absurd h14 (by decide)
            | exact absurd (Classical.not_not.mp h14) (by decide)
            | skip
              refine pr_seqT (pc' := 23) 4 rfl ⟨⟨⟨⟨trivial, (by first | assumption | (simp only [i6, i7, pr_i_0, pr_i_1, pr_i_2, pr_i_3]; first | assumption | decide | exact ⟨by assumption, by assumption⟩ | exact ⟨Or.inl (by assumption), by assumption⟩ | omega) | decide | exact ⟨Or.inl (by assumption), by assumption⟩ | exact ⟨by assumption, by assumption⟩ | omega)⟩, trivial⟩, (by first | assumption | (simp only [i6, i7, pr_i_0, pr_i_1, pr_i_2, pr_i_3]; first | assumption | decide | exact ⟨by assumption, by assumption⟩ | exact ⟨Or.inl (by assumption), by assumption⟩ | omega) | decide | exact ⟨Or.inl (by assumption), by assumption⟩ | exact ⟨by assumption, by assumption⟩ | omega)⟩, (by first | assumption | (simp only [i6, i7, pr_i_0, pr_i_1, pr_i_2, pr_i_3]; first | assumption | decide | exact ⟨by assumption, by assumption⟩ | exact ⟨Or.inl (by assumption), by assumption⟩ | omega) | decide | exact ⟨Or.inl (by assumption), by assumption⟩ | exact ⟨by assumption, by assumption⟩ | omega)⟩ ?_
              try simp only [i6, i7, pr_i_0, pr_i_1, pr_i_2, pr_i_3]
              refine pr_cvT [_, _] rfl rfl rfl rfl rfl (Nat.le_of_ble_eq_true rfl) (by first | assumption | (simp only [i6, i7, pr_i_0, pr_i_1, pr_i_2, pr_i_3]; first | assumption | decide | exact ⟨by assumption, by assumption⟩ | exact ⟨Or.inl (by assumption), by assumption⟩ | omega) | decide | exact ⟨Or.inl (by assumption), by assumption⟩ | exact ⟨by assumption, by assumption⟩ | omega) (Nat.le_of_ble_eq_true rfl) (c_refuse 2 (nI s) h (I1, M.2) k4) ?_
              refine pr_ifT rfl (fun h26 => ?_) (fun h26 => ?_)
              · simp only [ab_cmp, pr_i_0, pr_i_1, pr_i_2, pr_i_3] at h26
                first
                | contradiction
                | exact absurd trivial h26
                | exact absurd h26 (by decide)
                | exact absurd (Classical.not_not.mp h26) (by decide)
                | skip
                  refine pr_seqT (pc' := 34) 1 rfl ⟨trivial, trivial⟩ ?_
                  try simp only [i6, i7, pr_i_0, pr_i_1, pr_i_2, pr_i_3]
                  exact pr_irT rfl (by first | exact Or.inl rfl | exact Or.inr rfl | exact pr_b01 _ | assumption) (by exact tk_ref (c := 2) f1)
              · simp only [ab_cmp, pr_i_0, pr_i_1, pr_i_2, pr_i_3] at h26
                first
                | contradiction
                | exact absurd trivial h26
                | exact absurd h26 (by decide)
                | exact absurd (Classical.not_not.mp h26) (by decide)
                | skip
                  fail
      · simp only [ab_cmp, pr_i_0, pr_i_1, pr_i_2, pr_i_3] at h4
        first
        | contradiction
        | exact absurd trivial h4
        | exact absurd h4 (by decide)
        | exact absurd (Classical.not_not.mp h4) (by decide)
        | skip
          fail
