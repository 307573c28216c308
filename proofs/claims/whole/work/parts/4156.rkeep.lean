
/-! ===== the reference: what is known, images, sheets, the tape, counts ===== -/
theorem gdp_l {L : List (Nat × Nat)} {q : Nat × Nat} {i : Nat} (h : i < L.length) : (L ++ [q]).getD i (0, 0) = L.getD i (0, 0) := by
  rw [List.getD_eq_getElem?_getD, List.getD_eq_getElem?_getD, List.getElem?_append_left h]
theorem gdp_r {L : List (Nat × Nat)} {q : Nat × Nat} : (L ++ [q]).getD L.length (0, 0) = q := by
  rw [List.getD_eq_getElem?_getD, List.getElem?_append_right (Nat.le_refl _), Nat.sub_self]
  rfl
theorem gdp_t {L : List (Nat × Nat)} {i n : Nat} (h : i < n) : (L.take n).getD i (0, 0) = L.getD i (0, 0) := by
  rw [List.getD_eq_getElem?_getD, List.getD_eq_getElem?_getD, List.getElem?_take, if_pos h]
theorem gdn_t {L : List Nat} {i n : Nat} (h : i < n) : (L.take n).getD i 0 = L.getD i 0 := by
  rw [List.getD_eq_getElem?_getD, List.getD_eq_getElem?_getD, List.getElem?_take, if_pos h]
theorem rv_known {I I' : Nat → Nat → Int32} {X : St} {K : List (Nat × Nat)} (hv : rv I X) (h : ∀ a, 172 < a → a ≠ 175 → I' a = I a) (h2 : ∀ j, j ≠ 4 → I' 172 j = I 172 j) (hk : I' 172 4 = nI K.length ∧ K.length ≤ 6 ∧ kn_r (I' 175) X.1.2.1.length K) : rv I' ((X.1.1, X.1.2.1, K), X.2) := by
  obtain ⟨v1, ⟨v2, v3, v4⟩, ⟨v5, v6, v7⟩, v8, v9, v10, v11, v12, v13⟩ := hv
  refine ⟨by rw [h 173 (by decide) (by decide)]; exact v1, ⟨by rw [h2 2 (by decide)]; exact v2, v3, ?_⟩, hk, fun k hk => im_cong (by rw [h 184 (by decide) (by decide)]) (fun j x1 x2 => by rw [h 173 (by decide) (by decide)]) (v8 k hk), fun k hk => sr_cong (h 185 (by decide) (by decide)) (h 186 (by decide) (by decide)) (h 187 (by decide) (by decide)) (v9 k hk), tr_cong (h2 14 (by decide)) (h 179 (by decide) (by decide)) v10, by rw [h2 15 (by decide)]; exact v11, by rw [h2 30 (by decide)]; exact v12, cr_cong (h 180 (by decide) (by decide)) (h 181 (by decide) (by decide)) v13⟩
  show ls_r (I' 174) X.1.2.1
  rw [h 174 (by decide) (by decide)]; exact v4
theorem rv_tape {I I' : Nat → Nat → Int32} {X : St} {w : List Nat} (hv : rv I X) (h : ∀ a, 172 < a → a ≠ 179 → I' a = I a) (h2 : ∀ j, j ≠ 14 → I' 172 j = I 172 j) (ht : tp_r I' w) : rv I' (X.1, X.2.1, X.2.2.1, w, X.2.2.2.2) := by
  obtain ⟨v1, ⟨v2, v3, v4⟩, ⟨v5, v6, v7⟩, v8, v9, v10, v11, v12, v13⟩ := hv
  refine ⟨by rw [h 173 (by decide) (by decide)]; exact v1, ⟨by rw [h2 2 (by decide)]; exact v2, v3, ?_⟩, ⟨by rw [h2 4 (by decide)]; exact v5, v6, ?_⟩, fun k hk => im_cong (by rw [h 184 (by decide) (by decide)]) (fun j x1 x2 => by rw [h 173 (by decide) (by decide)]) (v8 k hk), fun k hk => sr_cong (h 185 (by decide) (by decide)) (h 186 (by decide) (by decide)) (h 187 (by decide) (by decide)) (v9 k hk), ht, by rw [h2 15 (by decide)]; exact v11, by rw [h2 30 (by decide)]; exact v12, cr_cong (h 180 (by decide) (by decide)) (h 181 (by decide) (by decide)) v13⟩
  · show ls_r (I' 174) X.1.2.1
    rw [h 174 (by decide) (by decide)]; exact v4
  · show kn_r (I' 175) X.1.2.1.length X.1.2.2
    rw [h 175 (by decide) (by decide)]; exact v7
theorem rv_img {I I' : Nat → Nat → Int32} {X : St} {k : Nat} {o : Option Ld} (hv : rv I X) (hk : k < 2) (h : ∀ a, 172 ≤ a → a ≠ 173 → a ≠ 184 → I' a = I a) (h3 : ∀ j, (j < 221 * (k + 1) ∨ 221 * (k + 1) + 221 ≤ j) → I' 173 j = I 173 j) (h4 : ∀ j, j ≠ k → I' 184 j = I 184 j) (ho : im_r I' k o) : rv I' (X.1, va_up X.2.1 k o, X.2.2) := by
  obtain ⟨v1, ⟨v2, v3, v4⟩, ⟨v5, v6, v7⟩, v8, v9, v10, v11, v12, v13⟩ := hv
  have e2 := h 172 (by decide) (by decide) (by decide)
  refine ⟨pg_cong (fun j hj => h3 j (by omega)) v1, ⟨by rw [e2]; exact v2, v3, ?_⟩, ⟨by rw [e2]; exact v5, v6, ?_⟩, fun k' hk' => ?_, fun k hk => sr_cong (h 185 (by decide) (by decide) (by decide)) (h 186 (by decide) (by decide) (by decide)) (h 187 (by decide) (by decide) (by decide)) (v9 k hk), tr_cong (by rw [e2]) (h 179 (by decide) (by decide) (by decide)) v10, by rw [e2]; exact v11, by rw [e2]; exact v12, cr_cong (h 180 (by decide) (by decide) (by decide)) (h 181 (by decide) (by decide) (by decide)) v13⟩
  · show ls_r (I' 174) X.1.2.1
    rw [h 174 (by decide) (by decide) (by decide)]; exact v4
  · show kn_r (I' 175) X.1.2.1.length X.1.2.2
    rw [h 175 (by decide) (by decide) (by decide)]; exact v7
  · show im_r I' k' (va_up X.2.1 k o k')
    by_cases e : k' = k
    · subst e; rw [va_up_at]; exact ho
    · rw [va_up_n e]; exact im_cong (h4 k' e) (fun j x1 x2 => h3 j (by omega)) (v8 k' hk')
theorem rv_sh {I I' : Nat → Nat → Int32} {X : St} {k : Nat} {o : Sh1} (hv : rv I X) (hk : k < 4) (h : ∀ a, 172 ≤ a → a < 185 → I' a = I a) (h5 : ∀ j, j ≠ k → I' 185 j = I 185 j) (h6 : ∀ j, j ≠ k → I' 186 j = I 186 j) (h7 : ∀ j, (j < 40 * k ∨ 40 * k + 40 ≤ j) → I' 187 j = I 187 j) (ho : sh_r I' k o) : rv I' (X.1, X.2.1, va_up X.2.2.1 k o, X.2.2.2) := by
  obtain ⟨v1, ⟨v2, v3, v4⟩, ⟨v5, v6, v7⟩, v8, v9, v10, v11, v12, v13⟩ := hv
  have e2 := h 172 (by decide) (by decide)
  refine ⟨by rw [h 173 (by decide) (by decide)]; exact v1, ⟨by rw [e2]; exact v2, v3, ?_⟩, ⟨by rw [e2]; exact v5, v6, ?_⟩, fun k hk => im_cong (by rw [h 184 (by decide) (by decide)]) (fun j x1 x2 => by rw [h 173 (by decide) (by decide)]) (v8 k hk), fun k' hk' => ?_, tr_cong (by rw [e2]) (h 179 (by decide) (by decide)) v10, by rw [e2]; exact v11, by rw [e2]; exact v12, cr_cong (h 180 (by decide) (by decide)) (h 181 (by decide) (by decide)) v13⟩
  · show ls_r (I' 174) X.1.2.1
    rw [h 174 (by decide) (by decide)]; exact v4
  · show kn_r (I' 175) X.1.2.1.length X.1.2.2
    rw [h 175 (by decide) (by decide)]; exact v7
  · show sh_r I' k' (va_up X.2.2.1 k o k')
    by_cases e : k' = k
    · subst e; rw [va_up_at]; exact ho
    · rw [va_up_n e]
      have z := v9 k' hk'
      revert z
      cases X.2.2.1 k' with
      | none => intro z; show I' 185 k' = -4; rw [h5 k' e]; exact z
      | some q =>
        obtain ⟨ln, n, f⟩ := q
        intro ⟨z1, z2, z3, z4, z5⟩
        exact ⟨by rw [h5 k' e]; exact z1, z2, by rw [h6 k' e]; exact z3, z4, fun j hj => by rw [h7 _ (by omega)]; exact z5 j hj⟩
theorem r_know {X : St} (x v : Int32) (h : ab_H) (M : ab_M) (hl : rL h M.2.2) (hv : rv M.1 X) : pr_X pX11_know [.ref 172, .int x, .int v] h M (rp M (f_know X x v)) := by
  obtain ⟨k172, rS, rLs, rKn, rPg, rRl, rRk, rTp, rCu, rLe, rLt, rSm, rIk, rLn, rLg, rCe, ⟨kS, nS⟩, ⟨kLs, nLs⟩, ⟨kKn, nKn⟩, ⟨kPg, nPg⟩, ⟨kRl, nRl⟩, ⟨kRk, nRk⟩, ⟨kTp, nTp⟩, ⟨kCu, nCu⟩, ⟨kLe, nLe⟩, ⟨kLt, nLt⟩, ⟨kSm, nSm⟩, ⟨kIk, nIk⟩, ⟨kLn, nLn⟩, ⟨kLg, nLg⟩, kCe, nCe⟩ := id hl
  obtain ⟨l1, l2, l3⟩ := hv.2.1
  obtain ⟨m1, m2, m3⟩ := hv.2.2.1
  have h1 := q_isListed x h M hl l1 l2
  have h2 := q_in (a := v.toInt64) (b := Int64.ofNat 0) (c := Int64.ofNat 999) v 0 999 h M rfl rfl rfl
  have c6 : (6 : Int32) = nI 6 := rfl
  unfold f_know
  rcases pr_ix x (show X.1.2.1.length ≤ 1000000 by omega) with q | ⟨j, hj, rfl, q⟩
  · rw [show ixb x X.1.2.1.length = false from q] at h1 ⊢
    refine pr_ofC ?_ (rp_s hv)
    refine pr_seq (pc' := 2) 2 rfl ⟨⟨trivial, (by first | assumption | decide | exact ⟨Or.inl (by assumption), by assumption⟩ | exact ⟨by assumption, by assumption⟩ | omega)⟩, trivial⟩ ?_
    refine pr_cv [_] rfl rfl rfl rfl rfl (Nat.le_of_ble_eq_true rfl) (by first | assumption | decide | exact ⟨Or.inl (by assumption), by assumption⟩ | exact ⟨by assumption, by assumption⟩ | omega) (Nat.le_of_ble_eq_true rfl) (h1) ?_
    refine pr_if rfl (fun h5 => ?_) (fun h5 => ?_)
    · simp only [ab_cmp, pr_8_6, pr_8_m3, pr_i_1, pr_i_2, pr_i_m1] at h5
      first
      | contradiction
      | exact absurd trivial h5
      | exact absurd h5 (by decide)
      | exact absurd (Classical.not_not.mp h5) (by decide)
      | skip
        refine pr_seq (pc' := 21) 1 rfl ⟨trivial, trivial⟩ ?_
        exact pr_irM rfl (by first | rfl | (simp [pr_b, pr_8_6, pr_8_m3, pr_i_1, pr_i_2, pr_i_m1, *]; done) | (simp_all [pr_b, pr_8_6, pr_8_m3, pr_i_1, pr_i_2, pr_i_m1]; done)) trivial (by rfl)
    · simp only [ab_cmp, pr_8_6, pr_8_m3, pr_i_1, pr_i_2, pr_i_m1] at h5
      exact absurd rfl h5
  · rw [show ixb (nI j) X.1.2.1.length = true from q] at h1 ⊢
    rcases pr_rg v 999 999 rfl (by decide) with q2 | ⟨k, hk, rfl, q2⟩
    · rw [q2] at h2 ⊢
      refine pr_ofC ?_ (rp_s hv)
      refine pr_seq (pc' := 2) 2 rfl ⟨⟨trivial, (by first | assumption | decide | exact ⟨Or.inl (by assumption), by assumption⟩ | exact ⟨by assumption, by assumption⟩ | omega)⟩, trivial⟩ ?_
      refine pr_cv [_] rfl rfl rfl rfl rfl (Nat.le_of_ble_eq_true rfl) (by first | assumption | decide | exact ⟨Or.inl (by assumption), by assumption⟩ | exact ⟨by assumption, by assumption⟩ | omega) (Nat.le_of_ble_eq_true rfl) (h1) ?_
      refine pr_if rfl (fun h5 => ?_) (fun h5 => ?_)
      · simp only [ab_cmp, pr_8_6, pr_8_m3, pr_i_1, pr_i_2, pr_i_m1] at h5
        exact absurd h5 (by decide)
      · simp only [ab_cmp, pr_8_6, pr_8_m3, pr_i_1, pr_i_2, pr_i_m1] at h5
        first
        | contradiction
        | exact absurd trivial h5
        | exact absurd h5 (by decide)
        | exact absurd (Classical.not_not.mp h5) (by decide)
        | skip
          refine pr_seq (pc' := 14) 4 rfl ⟨⟨⟨⟨trivial, trivial⟩, trivial⟩, trivial⟩, trivial⟩ ?_
          refine pr_cs [_, _, _] rfl rfl rfl rfl rfl (Nat.le_of_ble_eq_true rfl) (Nat.le_of_ble_eq_true rfl) (h2) ?_
          refine pr_if rfl (fun h17 => ?_) (fun h17 => ?_)
          · simp only [ab_cmp, pr_8_6, pr_8_m3, pr_i_1, pr_i_2, pr_i_m1] at h17
            exact absurd rfl h17
          · simp only [ab_cmp, pr_8_6, pr_8_m3, pr_i_1, pr_i_2, pr_i_m1] at h17
            first
            | contradiction
            | exact absurd trivial h17
            | exact absurd h17 (by decide)
            | exact absurd (Classical.not_not.mp h17) (by decide)
            | skip
              refine pr_seq (pc' := 21) 1 rfl ⟨trivial, trivial⟩ ?_
              exact pr_irM rfl (by first | rfl | (simp [pr_b, pr_8_6, pr_8_m3, pr_i_1, pr_i_2, pr_i_m1, *]; done) | (simp_all [pr_b, pr_8_6, pr_8_m3, pr_i_1, pr_i_2, pr_i_m1]; done)) trivial (by rfl)
    · rw [q2] at h2 ⊢
      rw [if_pos (show (true && true) = true from rfl), nI_clamp (by omega), nI_clamp (by omega)]
      by_cases c : X.1.2.2.length < 6
      · rw [if_pos c]
        have e1 : ¬ nI X.1.2.2.length = nI 6 := nI_ne (by omega) (by omega) (by decide)
        have m1a : ab_u M.1 175 (2 * X.1.2.2.length) (nI j) 172 4 = nI X.1.2.2.length := by rw [ab_u_ne (by decide)]; exact m1
        have m1b : ab_u (ab_u M.1 175 (2 * X.1.2.2.length) (nI j)) 175 (2 * X.1.2.2.length + 1) (nI k) 172 4 = nI X.1.2.2.length := by rw [ab_u_ne (by decide)]; exact m1a
        have hlen : (X.1.2.2 ++ [(j, k)]).length = X.1.2.2.length + 1 := by rw [List.length_append]; rfl
        refine pr_seqT (pc' := 2) 2 rfl ⟨⟨trivial, (by first | decide | assumption)⟩, trivial⟩ ?_
        try simp (disch := omega) only [c6, c2, m1, m1a, m1b, ab_u_at, rKn, rI_mul, nI_add, nI_1, nI_clamp, pr_8_6, pr_8_m3, pr_i_1, pr_i_2, pr_i_m1]
        refine pr_cvT [_] rfl rfl rfl rfl rfl (Nat.le_of_ble_eq_true rfl) (by first | assumption | decide | (simp (disch := omega) only [c6, c2, m1, m1a, m1b, ab_u_at, rKn, rI_mul, nI_add, nI_1, nI_clamp, pr_8_6, pr_8_m3, pr_i_1, pr_i_2, pr_i_m1]; first | assumption | exact ⟨Or.inl (by assumption), rvin (by assumption) (by omega) (by decide)⟩ | exact ⟨by assumption, rvin (by assumption) (by omega) (by decide)⟩ | exact ⟨⟨by omega, by omega⟩, rvin (by assumption) (by omega) (by decide)⟩ | exact ⟨Or.inr (by assumption), rvin (by assumption) (by omega) (by decide)⟩ | exact ⟨Or.inr ⟨by assumption, (by first | exact Or.inl rfl | exact Or.inr rfl | exact pr_b01 _)⟩, rvin (by assumption) (by omega) (by decide)⟩ | exact ⟨by assumption, by assumption⟩ | decide | omega)) (Nat.le_of_ble_eq_true rfl) (h1) ?_
        refine pr_ifT rfl (fun h5 => ?_) (fun h5 => ?_)
        · simp only [ab_cmp, pr_8_6, pr_8_m3, pr_i_1, pr_i_2, pr_i_m1] at h5
          exact absurd h5 (by decide)
        · simp only [ab_cmp, pr_8_6, pr_8_m3, pr_i_1, pr_i_2, pr_i_m1] at h5
          first
          | contradiction
          | exact absurd trivial h5
          | exact absurd h5 (by decide)
          | exact absurd (Classical.not_not.mp h5) (by decide)
          | skip
            refine pr_seqT (pc' := 14) 4 rfl ⟨⟨⟨⟨trivial, trivial⟩, trivial⟩, trivial⟩, trivial⟩ ?_
            try simp (disch := omega) only [c6, c2, m1, m1a, m1b, ab_u_at, rKn, rI_mul, nI_add, nI_1, nI_clamp, pr_8_6, pr_8_m3, pr_i_1, pr_i_2, pr_i_m1]
            refine pr_csT [_, _, _] rfl rfl rfl rfl rfl (Nat.le_of_ble_eq_true rfl) (Nat.le_of_ble_eq_true rfl) (h2) ?_
            refine pr_ifT rfl (fun h17 => ?_) (fun h17 => ?_)
            · simp only [ab_cmp, pr_8_6, pr_8_m3, pr_i_1, pr_i_2, pr_i_m1] at h17
              first
              | contradiction
              | exact absurd trivial h17
              | exact absurd h17 (by decide)
              | exact absurd (Classical.not_not.mp h17) (by decide)
              | skip
                refine pr_seqT (pc' := 28) 3 rfl ⟨⟨⟨trivial, (by first | decide | assumption)⟩, (by assumption)⟩, trivial⟩ ?_
                try simp (disch := omega) only [c6, c2, m1, m1a, m1b, ab_u_at, rKn, rI_mul, nI_add, nI_1, nI_clamp, pr_8_6, pr_8_m3, pr_i_1, pr_i_2, pr_i_m1]
                refine pr_icT rfl (fun h28 => ?_) (fun h28 => ?_)
                · simp only [ab_cmp, pr_8_6, pr_8_m3, pr_i_1, pr_i_2, pr_i_m1] at h28
                  first
                  | contradiction
                  | exact absurd trivial h28
                  | exact absurd h28 (by decide)
                  | exact absurd (Classical.not_not.mp h28) (by decide)
                  | skip
                    refine pr_seqT (pc' := 74) 26 rfl ⟨⟨⟨⟨⟨⟨⟨⟨⟨⟨⟨⟨⟨⟨⟨⟨⟨⟨⟨⟨⟨⟨⟨⟨⟨⟨trivial, (by first | decide | assumption)⟩, (by assumption)⟩, trivial⟩, (by first | decide | assumption)⟩, (by assumption)⟩, trivial⟩, trivial⟩, (by simp (disch := omega) only [c6, c2, m1, m1a, m1b, ab_u_at, rKn, rI_mul, nI_add, nI_1, nI_clamp, pr_8_6, pr_8_m3, pr_i_1, pr_i_2, pr_i_m1]; exact ⟨by assumption, rvin (by assumption) (by omega) (by decide)⟩)⟩, (by first | decide | assumption)⟩, (by assumption)⟩, trivial⟩, (by first | decide | assumption)⟩, (by assumption)⟩, trivial⟩, trivial⟩, trivial⟩, trivial⟩, (by simp (disch := omega) only [c6, c2, m1, m1a, m1b, ab_u_at, rKn, rI_mul, nI_add, nI_1, nI_clamp, pr_8_6, pr_8_m3, pr_i_1, pr_i_2, pr_i_m1]; exact ⟨by assumption, rvin (by assumption) (by omega) (by decide)⟩)⟩, (by first | decide | assumption)⟩, trivial⟩, (by assumption)⟩, trivial⟩, trivial⟩, (by first | assumption | exact ⟨by assumption, by decide⟩ | exact ⟨by assumption, pr_b01 _⟩)⟩, (by first | decide | assumption)⟩, (by assumption)⟩ ?_
                    try simp (disch := omega) only [c6, c2, m1, m1a, m1b, ab_u_at, rKn, rI_mul, nI_add, nI_1, nI_clamp, pr_8_6, pr_8_m3, pr_i_1, pr_i_2, pr_i_m1]
                    refine pr_irT rfl trivial (rp_I (rv_known hv (fun a a1 a2 => by rw [ab_u_ne (by omega), ab_u_ne a2, ab_u_ne a2]) (fun i hi => by rw [ab_u_j hi, ab_u_ne (by decide), ab_u_ne (by decide)]) ⟨by rw [ab_u_at, hlen], by omega, fun i hi => ?_⟩) (fun a ha => by rw [ab_u_ne (by omega), ab_u_ne (by omega), ab_u_ne (by omega)]))
                    rw [ab_u_ne (show (175 : Nat) ≠ 172 by decide)]
                    by_cases e : i = X.1.2.2.length
                    · rw [e, gdp_r]; exact ⟨by rw [ab_u_j (by omega), ab_u_at], by rw [ab_u_at], hj, hk⟩
                    · rw [gdp_l (by omega), ab_u_j (by omega), ab_u_j (by omega), ab_u_j (by omega), ab_u_j (by omega)]; exact m3 i (by omega)
                · simp only [ab_cmp, pr_8_6, pr_8_m3, pr_i_1, pr_i_2, pr_i_m1] at h28
                  exact absurd (Classical.not_not.mp h28) e1
            · simp only [ab_cmp, pr_8_6, pr_8_m3, pr_i_1, pr_i_2, pr_i_m1] at h17
              exact absurd (Classical.not_not.mp h17) (by decide)
      · rw [if_neg c]
        have e1 : nI X.1.2.2.length = nI 6 := by rw [show X.1.2.2.length = 6 by omega]
        refine pr_ofC ?_ (rp_s hv)
        refine pr_seq (pc' := 2) 2 rfl ⟨⟨trivial, (by first | decide | assumption)⟩, trivial⟩ ?_
        try simp (disch := omega) only [c6, m1, rKn, rI_mul, nI_add, nI_1, nI_clamp, pr_8_6, pr_8_m3, pr_i_1, pr_i_2, pr_i_m1]
        refine pr_cv [_] rfl rfl rfl rfl rfl (Nat.le_of_ble_eq_true rfl) (by first | assumption | decide | (simp (disch := omega) only [c6, m1, rKn, rI_mul, nI_add, nI_1, nI_clamp, pr_8_6, pr_8_m3, pr_i_1, pr_i_2, pr_i_m1]; first | assumption | exact ⟨Or.inl (by assumption), rvin (by assumption) (by omega) (by decide)⟩ | exact ⟨by assumption, rvin (by assumption) (by omega) (by decide)⟩ | exact ⟨⟨by omega, by omega⟩, rvin (by assumption) (by omega) (by decide)⟩ | exact ⟨Or.inr (by assumption), rvin (by assumption) (by omega) (by decide)⟩ | exact ⟨Or.inr ⟨by assumption, (by first | exact Or.inl rfl | exact Or.inr rfl | exact pr_b01 _)⟩, rvin (by assumption) (by omega) (by decide)⟩ | exact ⟨by assumption, by assumption⟩ | decide | omega)) (Nat.le_of_ble_eq_true rfl) (h1) ?_
        refine pr_if rfl (fun h5 => ?_) (fun h5 => ?_)
        · simp only [ab_cmp, pr_8_6, pr_8_m3, pr_i_1, pr_i_2, pr_i_m1] at h5
          exact absurd h5 (by decide)
        · simp only [ab_cmp, pr_8_6, pr_8_m3, pr_i_1, pr_i_2, pr_i_m1] at h5
          first
          | contradiction
          | exact absurd trivial h5
          | exact absurd h5 (by decide)
          | exact absurd (Classical.not_not.mp h5) (by decide)
          | skip
            refine pr_seq (pc' := 14) 4 rfl ⟨⟨⟨⟨trivial, trivial⟩, trivial⟩, trivial⟩, trivial⟩ ?_
            try simp (disch := omega) only [c6, m1, rKn, rI_mul, nI_add, nI_1, nI_clamp, pr_8_6, pr_8_m3, pr_i_1, pr_i_2, pr_i_m1]
            refine pr_cs [_, _, _] rfl rfl rfl rfl rfl (Nat.le_of_ble_eq_true rfl) (Nat.le_of_ble_eq_true rfl) (h2) ?_
            refine pr_if rfl (fun h17 => ?_) (fun h17 => ?_)
            · simp only [ab_cmp, pr_8_6, pr_8_m3, pr_i_1, pr_i_2, pr_i_m1] at h17
              first
              | contradiction
              | exact absurd trivial h17
              | exact absurd h17 (by decide)
              | exact absurd (Classical.not_not.mp h17) (by decide)
              | skip
                refine pr_seq (pc' := 28) 3 rfl ⟨⟨⟨trivial, (by first | decide | assumption)⟩, (by assumption)⟩, trivial⟩ ?_
                try simp (disch := omega) only [c6, m1, rKn, rI_mul, nI_add, nI_1, nI_clamp, pr_8_6, pr_8_m3, pr_i_1, pr_i_2, pr_i_m1]
                refine pr_ic rfl (fun h28 => ?_) (fun h28 => ?_)
                · simp only [ab_cmp, pr_8_6, pr_8_m3, pr_i_1, pr_i_2, pr_i_m1] at h28
                  exact absurd e1 h28
                · simp only [ab_cmp, pr_8_6, pr_8_m3, pr_i_1, pr_i_2, pr_i_m1] at h28
                  first
                  | contradiction
                  | exact absurd trivial h28
                  | exact absurd h28 (by decide)
                  | exact absurd (Classical.not_not.mp h28) (by decide)
                  | skip
                    refine pr_seq (pc' := 33) 1 rfl ⟨trivial, trivial⟩ ?_
                    try simp (disch := omega) only [c6, m1, rKn, rI_mul, nI_add, nI_1, nI_clamp, pr_8_6, pr_8_m3, pr_i_1, pr_i_2, pr_i_m1]
                    exact pr_irM rfl (by first | rfl | (simp (disch := omega) only [c6, m1, rKn, rI_mul, nI_add, nI_1, nI_clamp, pr_8_6, pr_8_m3, pr_i_1, pr_i_2, pr_i_m1]; done) | (simp [pr_b, pr_8_6, pr_8_m3, pr_i_1, pr_i_2, pr_i_m1, *]; done) | (simp_all [pr_b, pr_8_6, pr_8_m3, pr_i_1, pr_i_2, pr_i_m1]; done)) trivial (by rfl)
            · simp only [ab_cmp, pr_8_6, pr_8_m3, pr_i_1, pr_i_2, pr_i_m1] at h17
              exact absurd (Classical.not_not.mp h17) (by decide)
theorem r_forget {X : St} (v : Int32) (h : ab_H) (M : ab_M) (hl : rL h M.2.2) (hv : rv M.1 X) : pr_X pX11_forget [.ref 172, .int v] h M (rp M (f_forget X v)) := by
  obtain ⟨k172, rS, rLs, rKn, rPg, rRl, rRk, rTp, rCu, rLe, rLt, rSm, rIk, rLn, rLg, rCe, ⟨kS, nS⟩, ⟨kLs, nLs⟩, ⟨kKn, nKn⟩, ⟨kPg, nPg⟩, ⟨kRl, nRl⟩, ⟨kRk, nRk⟩, ⟨kTp, nTp⟩, ⟨kCu, nCu⟩, ⟨kLe, nLe⟩, ⟨kLt, nLt⟩, ⟨kSm, nSm⟩, ⟨kIk, nIk⟩, ⟨kLn, nLn⟩, ⟨kLg, nLg⟩, kCe, nCe⟩ := id hl
  obtain ⟨m1, m2, m3⟩ := hv.2.2.1
  have h1 := q_in (a := v.toInt64) (b := Int64.ofNat 0) (c := (nI X.1.2.2.length).toInt64) v 0 (nI X.1.2.2.length) h M rfl rfl rfl
  unfold f_forget
  rcases pr_rg v (nI X.1.2.2.length) X.1.2.2.length rfl (by omega) with q | ⟨j, hj, rfl, q⟩
  · rw [q] at h1 ⊢
    refine pr_ofC ?_ (rp_s hv)
    refine pr_seq (pc' := 8) 6 rfl ⟨⟨⟨⟨⟨⟨trivial, trivial⟩, trivial⟩, trivial⟩, (by first | decide | assumption)⟩, (by assumption)⟩, trivial⟩ ?_
    try simp (disch := omega) only [m1, rI_mul, nI_add, nI_1, nI_clamp, pr_i_m1]
    refine pr_cs [_, _, _] rfl rfl rfl rfl rfl (Nat.le_of_ble_eq_true rfl) (Nat.le_of_ble_eq_true rfl) (h1) ?_
    refine pr_if rfl (fun h11 => ?_) (fun h11 => ?_)
    · simp only [ab_cmp, pr_i_m1] at h11
      exact absurd rfl h11
    · simp only [ab_cmp, pr_i_m1] at h11
      first
      | contradiction
      | exact absurd trivial h11
      | exact absurd h11 (by decide)
      | exact absurd (Classical.not_not.mp h11) (by decide)
      | skip
        refine pr_seq (pc' := 15) 1 rfl ⟨trivial, trivial⟩ ?_
        try simp (disch := omega) only [m1, rI_mul, nI_add, nI_1, nI_clamp, pr_i_m1]
        exact pr_irM rfl (by first | rfl | (simp (disch := omega) only [m1, rI_mul, nI_add, nI_1, nI_clamp, pr_i_m1]; done) | (simp [pr_b, pr_i_m1, *]; done) | (simp_all [pr_b, pr_i_m1]; done)) trivial (by rfl)
  · rw [q] at h1 ⊢
    rw [if_pos rfl, nI_clamp (by omega)]
    have hlen : (X.1.2.2.take j).length = j := by rw [List.length_take]; omega
    refine pr_seqT (pc' := 8) 6 rfl ⟨⟨⟨⟨⟨⟨trivial, trivial⟩, trivial⟩, trivial⟩, (by first | decide | assumption)⟩, (by assumption)⟩, trivial⟩ ?_
    try simp (disch := omega) only [m1, rI_mul, nI_add, nI_1, nI_clamp, pr_i_m1]
    refine pr_csT [_, _, _] rfl rfl rfl rfl rfl (Nat.le_of_ble_eq_true rfl) (Nat.le_of_ble_eq_true rfl) (h1) ?_
    refine pr_ifT rfl (fun h11 => ?_) (fun h11 => ?_)
    · simp only [ab_cmp, pr_i_m1] at h11
      first
      | contradiction
      | exact absurd trivial h11
      | exact absurd h11 (by decide)
      | exact absurd (Classical.not_not.mp h11) (by decide)
      | skip
        refine pr_seqT (pc' := 27) 7 rfl ⟨⟨⟨⟨⟨⟨⟨trivial, (by first | decide | assumption)⟩, (by assumption)⟩, trivial⟩, (by first | decide | assumption)⟩, trivial⟩, (by first | assumption | exact ⟨by assumption, by decide⟩ | exact ⟨by assumption, pr_b01 _⟩)⟩, trivial⟩ ?_
        try simp (disch := omega) only [m1, rI_mul, nI_add, nI_1, nI_clamp, pr_i_m1]
        exact pr_irT rfl trivial (by exact rp_I (rv_known hv (fun a a1 a2 => ab_u_ne (by omega)) (fun i hi => ab_u_j hi) ⟨by rw [ab_u_at, hlen], by omega, fun i hi => by rw [ab_u_ne (show (175 : Nat) ≠ 172 by decide), gdp_t (by omega)]; exact m3 i (by omega)⟩) (fun a ha => ab_u_ne (by omega)))
    · simp only [ab_cmp, pr_i_m1] at h11
      exact absurd (Classical.not_not.mp h11) (by decide)
theorem r_end {X : St} (v : Int32) (h : ab_H) (M : ab_M) (hl : rL h M.2.2) (hv : rv M.1 X) : pr_X pX11_end [.ref 172, .int v] h M (rp M (f_end X v)) := by
  obtain ⟨k172, rS, rLs, rKn, rPg, rRl, rRk, rTp, rCu, rLe, rLt, rSm, rIk, rLn, rLg, rCe, ⟨kS, nS⟩, ⟨kLs, nLs⟩, ⟨kKn, nKn⟩, ⟨kPg, nPg⟩, ⟨kRl, nRl⟩, ⟨kRk, nRk⟩, ⟨kTp, nTp⟩, ⟨kCu, nCu⟩, ⟨kLe, nLe⟩, ⟨kLt, nLt⟩, ⟨kSm, nSm⟩, ⟨kIk, nIk⟩, ⟨kLn, nLn⟩, ⟨kLg, nLg⟩, kCe, nCe⟩ := id hl
  obtain ⟨m1, m2, m3⟩ := hv.2.2.2.2.2.1
  have h1 := q_in (a := v.toInt64) (b := Int64.ofNat 0) (c := (nI X.2.2.2.1.length).toInt64) v 0 (nI X.2.2.2.1.length) h M rfl rfl rfl
  unfold f_end
  rcases pr_rg v (nI X.2.2.2.1.length) X.2.2.2.1.length rfl (by omega) with q | ⟨j, hj, rfl, q⟩
  · rw [q] at h1 ⊢
    refine pr_ofC ?_ (rp_s hv)
    refine pr_seq (pc' := 8) 6 rfl ⟨⟨⟨⟨⟨⟨trivial, trivial⟩, trivial⟩, trivial⟩, (by first | decide | assumption)⟩, (by assumption)⟩, trivial⟩ ?_
    try simp (disch := omega) only [m1, rI_mul, nI_add, nI_1, nI_clamp, pr_i_m1]
    refine pr_cs [_, _, _] rfl rfl rfl rfl rfl (Nat.le_of_ble_eq_true rfl) (Nat.le_of_ble_eq_true rfl) (h1) ?_
    refine pr_if rfl (fun h11 => ?_) (fun h11 => ?_)
    · simp only [ab_cmp, pr_i_m1] at h11
      exact absurd rfl h11
    · simp only [ab_cmp, pr_i_m1] at h11
      first
      | contradiction
      | exact absurd trivial h11
      | exact absurd h11 (by decide)
      | exact absurd (Classical.not_not.mp h11) (by decide)
      | skip
        refine pr_seq (pc' := 15) 1 rfl ⟨trivial, trivial⟩ ?_
        try simp (disch := omega) only [m1, rI_mul, nI_add, nI_1, nI_clamp, pr_i_m1]
        exact pr_irM rfl (by first | rfl | (simp (disch := omega) only [m1, rI_mul, nI_add, nI_1, nI_clamp, pr_i_m1]; done) | (simp [pr_b, pr_i_m1, *]; done) | (simp_all [pr_b, pr_i_m1]; done)) trivial (by rfl)
  · rw [q] at h1 ⊢
    rw [if_pos rfl, nI_clamp (by omega)]
    have hlen : (X.2.2.2.1.take j).length = j := by rw [List.length_take]; omega
    refine pr_seqT (pc' := 8) 6 rfl ⟨⟨⟨⟨⟨⟨trivial, trivial⟩, trivial⟩, trivial⟩, (by first | decide | assumption)⟩, (by assumption)⟩, trivial⟩ ?_
    try simp (disch := omega) only [m1, rI_mul, nI_add, nI_1, nI_clamp, pr_i_m1]
    refine pr_csT [_, _, _] rfl rfl rfl rfl rfl (Nat.le_of_ble_eq_true rfl) (Nat.le_of_ble_eq_true rfl) (h1) ?_
    refine pr_ifT rfl (fun h11 => ?_) (fun h11 => ?_)
    · simp only [ab_cmp, pr_i_m1] at h11
      first
      | contradiction
      | exact absurd trivial h11
      | exact absurd h11 (by decide)
      | exact absurd (Classical.not_not.mp h11) (by decide)
      | skip
        refine pr_seqT (pc' := 27) 7 rfl ⟨⟨⟨⟨⟨⟨⟨trivial, (by first | decide | assumption)⟩, (by assumption)⟩, trivial⟩, (by first | decide | assumption)⟩, trivial⟩, (by first | assumption | exact ⟨by assumption, by decide⟩ | exact ⟨by assumption, pr_b01 _⟩)⟩, trivial⟩ ?_
        try simp (disch := omega) only [m1, rI_mul, nI_add, nI_1, nI_clamp, pr_i_m1]
        exact pr_irT rfl trivial (by exact rp_I (rv_tape hv (fun a a1 a2 => ab_u_ne (by omega)) (fun i hi => ab_u_j hi) ⟨by rw [ab_u_at, hlen], by omega, fun i hi => by rw [ab_u_ne (show (179 : Nat) ≠ 172 by decide), gdn_t (by omega)]; exact m3 i (by omega)⟩) (fun a ha => ab_u_ne (by omega)))
    · simp only [ab_cmp, pr_i_m1] at h11
      exact absurd (Classical.not_not.mp h11) (by decide)
/-- a page copied, its first k cells -/
def cpy (I : Nat → Nat → Int32) (f t k : Nat) : Nat → Nat → Int32 := fun a j => if a = 173 ∧ t ≤ j ∧ j < t + k then I 173 (f + (j - t)) else I a j
theorem cpy_0 {I : Nat → Nat → Int32} {f t : Nat} : cpy I f t 0 = I := by
  funext a j
  unfold cpy
  rw [if_neg (by omega)]
theorem cpy_s {I : Nat → Nat → Int32} {f t k : Nat} : ab_u (cpy I f t k) 173 (t + k) (I 173 (f + k)) = cpy I f t (k + 1) := by
  funext a j
  unfold ab_u cpy
  by_cases e : a = 173 ∧ j = t + k
  · rw [if_pos e, if_pos (by omega), show j - t = k by omega]
  · rw [if_neg e]
    by_cases e2 : a = 173 ∧ t ≤ j ∧ j < t + k
    · rw [if_pos e2, if_pos (by omega)]
    · rw [if_neg e2, if_neg (by omega)]
theorem cpy_ne {I : Nat → Nat → Int32} {f t k a : Nat} (h : a ≠ 173) : cpy I f t k a = I a := by
  funext j
  unfold cpy
  rw [if_neg (by omega)]
theorem cpy_o {I : Nat → Nat → Int32} {f t k j : Nat} (h : j < t ∨ t + k ≤ j) : cpy I f t k 173 j = I 173 j := by
  unfold cpy
  rw [if_neg (by omega)]
theorem cpy_i {I : Nat → Nat → Int32} {f t k j : Nat} (h : j < k) : cpy I f t k 173 (t + j) = I 173 (f + j) := by
  unfold cpy
  rw [if_pos (by omega), show t + j - t = j by omega]
theorem q_copies {f t : Nat} (h : ab_H) (M : ab_M) (hl : rL h M.2.2) (hf : f + 221 ≤ 884) (ht : t + 221 ≤ 884) (hft : f + 221 ≤ t ∨ t + 221 ≤ f) : pr_C pX11_copies [.ref 172, .int (nI f), .int (nI t)] h M none h (cpy M.1 f t 221, M.2.1, M.2.2) := by
  obtain ⟨k172, rS, rLs, rKn, rPg, rRl, rRk, rTp, rCu, rLe, rLt, rSm, rIk, rLn, rLg, rCe, ⟨kS, nS⟩, ⟨kLs, nLs⟩, ⟨kKn, nKn⟩, ⟨kPg, nPg⟩, ⟨kRl, nRl⟩, ⟨kRk, nRk⟩, ⟨kTp, nTp⟩, ⟨kCu, nCu⟩, ⟨kLe, nLe⟩, ⟨kLt, nLt⟩, ⟨kSm, nSm⟩, ⟨kIk, nIk⟩, ⟨kLn, nLn⟩, ⟨kLg, nLg⟩, kCe, nCe⟩ := id hl
  have loop : ∀ dd k, k + dd = 221 → pr_E pX11_copies 2 [some (.ref 172), some (.int (nI f)), some (.int (nI t)), some (.int (nI k))] [] h (cpy M.1 f t k, M.2.1, M.2.2) none h (cpy M.1 f t 221, M.2.1, M.2.2) := by
    intro dd
    induction dd with
    | zero =>
      intro k hk
      obtain rfl : k = 221 := by omega
      have e1 : nI 221 ≤ nI 221 := nI_le (Nat.le_refl _) (by decide)
      refine pr_seq (pc' := 6) 2 rfl ⟨⟨trivial, trivial⟩, trivial⟩ ?_
      try simp (disch := omega) only [rS, rI_mul, nI_add, nI_1, nI_clamp, c221, pr_16_221, pr_i_0, pr_i_1]
      refine pr_ic rfl (fun h6 => ?_) (fun h6 => ?_)
      · simp only [ab_cmp, pr_16_221, pr_i_0, pr_i_1] at h6
        first
        | contradiction
        | exact absurd trivial h6
        | exact absurd h6 (by decide)
        | exact absurd (Classical.not_not.mp h6) (by decide)
        | skip
          exact pr_vrM rfl rfl rfl (by rfl)
      · simp only [ab_cmp, pr_16_221, pr_i_0, pr_i_1] at h6
        exact absurd e1 h6
    | succ dd ih =>
      intro k hk
      have e1 : ¬ nI 221 ≤ nI k := nI_ge (by omega) (by decide)
      have hh := ih (k + 1) (by omega)
      have z : cpy M.1 f t k 173 (f + k) = M.1 173 (f + k) := cpy_o (by omega)
      rw [← cpy_s] at hh
      refine pr_seq (pc' := 6) 2 rfl ⟨⟨trivial, trivial⟩, trivial⟩ ?_
      try simp (disch := omega) only [z, rS, rI_mul, nI_add, nI_1, nI_clamp, c221, pr_16_221, pr_i_0, pr_i_1]
      refine pr_ic rfl (fun h6 => ?_) (fun h6 => ?_)
      · simp only [ab_cmp, pr_16_221, pr_i_0, pr_i_1] at h6
        exact absurd h6 e1
      · simp only [ab_cmp, pr_16_221, pr_i_0, pr_i_1] at h6
        first
        | contradiction
        | exact absurd trivial h6
        | exact absurd h6 (by decide)
        | exact absurd (Classical.not_not.mp h6) (by decide)
        | skip
          refine pr_seq (pc' := 2) 14 rfl ⟨⟨⟨⟨⟨⟨⟨⟨⟨⟨⟨⟨⟨⟨trivial, (by first | decide | assumption)⟩, (by assumption)⟩, trivial⟩, trivial⟩, trivial⟩, (by first | decide | assumption)⟩, (by assumption)⟩, trivial⟩, trivial⟩, trivial⟩, (by simp (disch := omega) only [z, rS, rI_mul, nI_add, nI_1, nI_clamp, c221, pr_16_221, pr_i_0, pr_i_1]; exact ⟨Or.inl (by assumption), rvin (by assumption) (by omega) (by decide)⟩)⟩, (by simp (disch := omega) only [z, rS, rI_mul, nI_add, nI_1, nI_clamp, c221, pr_16_221, pr_i_0, pr_i_1]; exact ⟨by assumption, rvin (by assumption) (by omega) (by decide)⟩)⟩, trivial⟩, trivial⟩ ?_
          try simp (disch := omega) only [z, rS, rI_mul, nI_add, nI_1, nI_clamp, c221, pr_16_221, pr_i_0, pr_i_1]
          exact hh
  have h0 := loop 221 0 (by omega)
  rw [cpy_0] at h0
  refine pr_seq (pc' := 2) 2 rfl ⟨⟨trivial, trivial⟩, trivial⟩ ?_
  exact h0
theorem imr_b {I : Nat → Nat → Int32} {k : Nat} {o : Option Ld} (h : im_r I k o) : I 184 k = pr_b o.isSome := by
  cases o with
  | none => exact h
  | some d => exact h.1
theorem r_keep {X : St} (v : Int32) (h : ab_H) (M : ab_M) (hl : rL h M.2.2) (hv : rv M.1 X) : pr_X pX11_keep [.ref 172, .int v] h M (rp M (f_keep X v)) := by
  obtain ⟨k172, rS, rLs, rKn, rPg, rRl, rRk, rTp, rCu, rLe, rLt, rSm, rIk, rLn, rLg, rCe, ⟨kS, nS⟩, ⟨kLs, nLs⟩, ⟨kKn, nKn⟩, ⟨kPg, nPg⟩, ⟨kRl, nRl⟩, ⟨kRk, nRk⟩, ⟨kTp, nTp⟩, ⟨kCu, nCu⟩, ⟨kLe, nLe⟩, ⟨kLt, nLt⟩, ⟨kSm, nSm⟩, ⟨kIk, nIk⟩, ⟨kLn, nLn⟩, ⟨kLg, nLg⟩, kCe, nCe⟩ := id hl
  have h1 := q_in (a := v.toInt64) (b := Int64.ofNat 0) (c := Int64.ofNat 1) v 0 1 h M rfl rfl rfl
  unfold f_keep
  rcases pr_rg v 1 1 rfl (by decide) with q | ⟨j, hj, rfl, q⟩
  · rw [q] at h1 ⊢
    refine pr_ofC ?_ (rp_s hv)
    refine pr_seq (pc' := 4) 4 rfl ⟨⟨⟨⟨trivial, trivial⟩, trivial⟩, trivial⟩, trivial⟩ ?_
    refine pr_cs [_, _, _] rfl rfl rfl rfl rfl (Nat.le_of_ble_eq_true rfl) (Nat.le_of_ble_eq_true rfl) (h1) ?_
    refine pr_if rfl (fun h7 => ?_) (fun h7 => ?_)
    · simp only [ab_cmp, pr_16_221, pr_i_0, pr_i_1, pr_i_m1] at h7
      exact absurd rfl h7
    · simp only [ab_cmp, pr_16_221, pr_i_0, pr_i_1, pr_i_m1] at h7
      first
      | contradiction
      | exact absurd trivial h7
      | exact absurd h7 (by decide)
      | exact absurd (Classical.not_not.mp h7) (by decide)
      | skip
        refine pr_seq (pc' := 11) 1 rfl ⟨trivial, trivial⟩ ?_
        exact pr_irM rfl (by first | rfl | (simp [pr_b, pr_16_221, pr_i_0, pr_i_1, pr_i_m1, *]; done) | (simp_all [pr_b, pr_16_221, pr_i_0, pr_i_1, pr_i_m1]; done)) trivial (by rfl)
  · rw [q] at h1 ⊢
    rw [if_pos rfl, nI_clamp (by omega)]
    have hc := q_copies (f := 0) (t := 221 * (j + 1)) h M hl (by decide) (by omega) (by omega)
    have b0 := imr_b (hv.2.2.2.1 j (by omega))
    have b1 : cpy M.1 0 (221 * (j + 1)) 221 184 j = pr_b (X.2.1 j).isSome := by rw [cpy_ne (by decide)]; exact b0
    have n1 : (1 : Int32).toInt8.toInt32 = 1 := by decide
    have fin : rv (ab_u (cpy M.1 0 (221 * (j + 1)) 221) 184 j 1) (X.1, va_up X.2.1 j (some X.1.1), X.2.2) := rv_img hv (by omega) (fun a a1 a2 a3 => by rw [ab_u_ne a3, cpy_ne a2]) (fun i hi => by rw [ab_u_ne (by decide), cpy_o (by omega)]) (fun i hi => by rw [ab_u_j hi, cpy_ne (by decide)]) ⟨ab_u_at, pg_cong (F := M.1 173) (fun i hi => by rw [ab_u_ne (by decide), cpy_i (by omega), Nat.zero_add]) hv.1⟩
    have far : ∀ a, (a < 172 ∨ 187 < a) → ab_u (cpy M.1 0 (221 * (j + 1)) 221) 184 j 1 a = M.1 a := fun a ha => by rw [ab_u_ne (by omega), cpy_ne (by omega)]
    cases c : (X.2.1 j).isSome with
    | true =>
      rw [c] at b1
      refine pr_seqT (pc' := 4) 4 rfl ⟨⟨⟨⟨trivial, trivial⟩, trivial⟩, trivial⟩, trivial⟩ ?_
      try simp (disch := omega) only [b1, n1, rIk, rI_mul, nI_add, nI_1, nI_clamp, c221, pr_16_221, pr_i_0, pr_i_1, pr_i_m1]
      refine pr_csT [_, _, _] rfl rfl rfl rfl rfl (Nat.le_of_ble_eq_true rfl) (Nat.le_of_ble_eq_true rfl) (h1) ?_
      refine pr_ifT rfl (fun h7 => ?_) (fun h7 => ?_)
      · simp only [ab_cmp, pr_16_221, pr_i_0, pr_i_1, pr_i_m1] at h7
        first
        | contradiction
        | exact absurd trivial h7
        | exact absurd h7 (by decide)
        | exact absurd (Classical.not_not.mp h7) (by decide)
        | skip
          refine pr_seqT (pc' := 21) 7 rfl ⟨⟨⟨⟨⟨⟨⟨trivial, (by first | decide | assumption)⟩, trivial⟩, trivial⟩, trivial⟩, trivial⟩, trivial⟩, trivial⟩ ?_
          try simp (disch := omega) only [b1, n1, rIk, rI_mul, nI_add, nI_1, nI_clamp, c221, pr_16_221, pr_i_0, pr_i_1, pr_i_m1]
          refine pr_cvT [_, _] rfl rfl rfl rfl rfl (Nat.le_of_ble_eq_true rfl) (by first | assumption | decide | (simp (disch := omega) only [b1, n1, rIk, rI_mul, nI_add, nI_1, nI_clamp, c221, pr_16_221, pr_i_0, pr_i_1, pr_i_m1]; first | assumption | exact ⟨Or.inl (by assumption), rvin (by assumption) (by omega) (by decide)⟩ | exact ⟨by assumption, rvin (by assumption) (by omega) (by decide)⟩ | exact ⟨⟨by omega, by omega⟩, rvin (by assumption) (by omega) (by decide)⟩ | exact ⟨Or.inr (by assumption), rvin (by assumption) (by omega) (by decide)⟩ | exact ⟨Or.inr ⟨by assumption, (by first | exact Or.inl rfl | exact Or.inr rfl | exact pr_b01 _)⟩, rvin (by assumption) (by omega) (by decide)⟩ | exact ⟨by assumption, by assumption⟩ | decide | omega)) (Nat.le_of_ble_eq_true rfl) (hc) ?_
          refine pr_seqT (pc' := 30) 4 rfl ⟨⟨⟨⟨trivial, (by first | decide | assumption)⟩, (by assumption)⟩, trivial⟩, (by first | assumption | decide | (simp (disch := omega) only [b1, n1, rIk, rI_mul, nI_add, nI_1, nI_clamp, c221, pr_16_221, pr_i_0, pr_i_1, pr_i_m1]; first | assumption | exact ⟨Or.inl (by assumption), rvin (by assumption) (by omega) (by decide)⟩ | exact ⟨by assumption, rvin (by assumption) (by omega) (by decide)⟩ | exact ⟨⟨by omega, by omega⟩, rvin (by assumption) (by omega) (by decide)⟩ | exact ⟨Or.inr (by assumption), rvin (by assumption) (by omega) (by decide)⟩ | exact ⟨Or.inr ⟨by assumption, (by first | exact Or.inl rfl | exact Or.inr rfl | exact pr_b01 _)⟩, rvin (by assumption) (by omega) (by decide)⟩ | exact ⟨by assumption, by assumption⟩ | decide | omega))⟩ ?_
          try simp (disch := omega) only [b1, n1, rIk, rI_mul, nI_add, nI_1, nI_clamp, c221, pr_16_221, pr_i_0, pr_i_1, pr_i_m1]
          refine pr_ifT rfl (fun h30 => ?_) (fun h30 => ?_)
          · simp only [ab_cmp, pr_16_221, pr_i_0, pr_i_1, pr_i_m1] at h30
            exact absurd h30 (by decide)
          · simp only [ab_cmp, pr_16_221, pr_i_0, pr_i_1, pr_i_m1] at h30
            first
            | contradiction
            | exact absurd trivial h30
            | exact absurd h30 (by decide)
            | exact absurd (Classical.not_not.mp h30) (by decide)
            | skip
              refine pr_seqT (pc' := 47) 9 rfl ⟨⟨⟨⟨⟨⟨⟨⟨⟨trivial, trivial⟩, trivial⟩, trivial⟩, (by first | decide | assumption)⟩, (by assumption)⟩, trivial⟩, trivial⟩, (by exact ⟨Or.inr ⟨(by simp (disch := omega) only [b1, n1, rIk, rI_mul, nI_add, nI_1, nI_clamp, c221, pr_16_221, pr_i_0, pr_i_1, pr_i_m1]; assumption), (by first | exact Or.inl rfl | exact Or.inr rfl | exact pr_b01 _)⟩, (by simp (disch := omega) only [b1, n1, rIk, rI_mul, nI_add, nI_1, nI_clamp, c221, pr_16_221, pr_i_0, pr_i_1, pr_i_m1]; exact rvin (by assumption) (by omega) (by decide))⟩)⟩, trivial⟩ ?_
              try simp (disch := omega) only [b1, n1, rIk, rI_mul, nI_add, nI_1, nI_clamp, c221, pr_16_221, pr_i_0, pr_i_1, pr_i_m1]
              exact pr_irT rfl trivial (by exact rp_I fin far)
      · simp only [ab_cmp, pr_16_221, pr_i_0, pr_i_1, pr_i_m1] at h7
        exact absurd (Classical.not_not.mp h7) (by decide)
    | false =>
      rw [c] at b1
      refine pr_seqT (pc' := 4) 4 rfl ⟨⟨⟨⟨trivial, trivial⟩, trivial⟩, trivial⟩, trivial⟩ ?_
      try simp (disch := omega) only [b1, n1, rIk, rI_mul, nI_add, nI_1, nI_clamp, c221, pr_16_221, pr_i_0, pr_i_1, pr_i_m1]
      refine pr_csT [_, _, _] rfl rfl rfl rfl rfl (Nat.le_of_ble_eq_true rfl) (Nat.le_of_ble_eq_true rfl) (h1) ?_
      refine pr_ifT rfl (fun h7 => ?_) (fun h7 => ?_)
      · simp only [ab_cmp, pr_16_221, pr_i_0, pr_i_1, pr_i_m1] at h7
        first
        | contradiction
        | exact absurd trivial h7
        | exact absurd h7 (by decide)
        | exact absurd (Classical.not_not.mp h7) (by decide)
        | skip
          refine pr_seqT (pc' := 21) 7 rfl ⟨⟨⟨⟨⟨⟨⟨trivial, (by first | decide | assumption)⟩, trivial⟩, trivial⟩, trivial⟩, trivial⟩, trivial⟩, trivial⟩ ?_
          try simp (disch := omega) only [b1, n1, rIk, rI_mul, nI_add, nI_1, nI_clamp, c221, pr_16_221, pr_i_0, pr_i_1, pr_i_m1]
          refine pr_cvT [_, _] rfl rfl rfl rfl rfl (Nat.le_of_ble_eq_true rfl) (by first | assumption | decide | (simp (disch := omega) only [b1, n1, rIk, rI_mul, nI_add, nI_1, nI_clamp, c221, pr_16_221, pr_i_0, pr_i_1, pr_i_m1]; first | assumption | exact ⟨Or.inl (by assumption), rvin (by assumption) (by omega) (by decide)⟩ | exact ⟨by assumption, rvin (by assumption) (by omega) (by decide)⟩ | exact ⟨⟨by omega, by omega⟩, rvin (by assumption) (by omega) (by decide)⟩ | exact ⟨Or.inr (by assumption), rvin (by assumption) (by omega) (by decide)⟩ | exact ⟨Or.inr ⟨by assumption, (by first | exact Or.inl rfl | exact Or.inr rfl | exact pr_b01 _)⟩, rvin (by assumption) (by omega) (by decide)⟩ | exact ⟨by assumption, by assumption⟩ | decide | omega)) (Nat.le_of_ble_eq_true rfl) (hc) ?_
          refine pr_seqT (pc' := 30) 4 rfl ⟨⟨⟨⟨trivial, (by first | decide | assumption)⟩, (by assumption)⟩, trivial⟩, (by first | assumption | decide | (simp (disch := omega) only [b1, n1, rIk, rI_mul, nI_add, nI_1, nI_clamp, c221, pr_16_221, pr_i_0, pr_i_1, pr_i_m1]; first | assumption | exact ⟨Or.inl (by assumption), rvin (by assumption) (by omega) (by decide)⟩ | exact ⟨by assumption, rvin (by assumption) (by omega) (by decide)⟩ | exact ⟨⟨by omega, by omega⟩, rvin (by assumption) (by omega) (by decide)⟩ | exact ⟨Or.inr (by assumption), rvin (by assumption) (by omega) (by decide)⟩ | exact ⟨Or.inr ⟨by assumption, (by first | exact Or.inl rfl | exact Or.inr rfl | exact pr_b01 _)⟩, rvin (by assumption) (by omega) (by decide)⟩ | exact ⟨by assumption, by assumption⟩ | decide | omega))⟩ ?_
          try simp (disch := omega) only [b1, n1, rIk, rI_mul, nI_add, nI_1, nI_clamp, c221, pr_16_221, pr_i_0, pr_i_1, pr_i_m1]
          refine pr_ifT rfl (fun h30 => ?_) (fun h30 => ?_)
          · simp only [ab_cmp, pr_16_221, pr_i_0, pr_i_1, pr_i_m1] at h30
            first
            | contradiction
            | exact absurd trivial h30
            | exact absurd h30 (by decide)
            | exact absurd (Classical.not_not.mp h30) (by decide)
            | skip
              refine pr_seqT (pc' := 47) 8 rfl ⟨⟨⟨⟨⟨⟨⟨⟨trivial, trivial⟩, trivial⟩, (by first | decide | assumption)⟩, (by assumption)⟩, trivial⟩, trivial⟩, (by exact ⟨Or.inr ⟨(by simp (disch := omega) only [b1, n1, rIk, rI_mul, nI_add, nI_1, nI_clamp, c221, pr_16_221, pr_i_0, pr_i_1, pr_i_m1]; assumption), (by first | exact Or.inl rfl | exact Or.inr rfl | exact pr_b01 _)⟩, (by simp (disch := omega) only [b1, n1, rIk, rI_mul, nI_add, nI_1, nI_clamp, c221, pr_16_221, pr_i_0, pr_i_1, pr_i_m1]; exact rvin (by assumption) (by omega) (by decide))⟩)⟩, trivial⟩ ?_
              try simp (disch := omega) only [b1, n1, rIk, rI_mul, nI_add, nI_1, nI_clamp, c221, pr_16_221, pr_i_0, pr_i_1, pr_i_m1]
              exact pr_irT rfl trivial (by exact rp_I fin far)
          · simp only [ab_cmp, pr_16_221, pr_i_0, pr_i_1, pr_i_m1] at h30
            exact absurd rfl h30
      · simp only [ab_cmp, pr_16_221, pr_i_0, pr_i_1, pr_i_m1] at h7
        exact absurd (Classical.not_not.mp h7) (by decide)
theorem r_back {X : St} (v : Int32) (h : ab_H) (M : ab_M) (hl : rL h M.2.2) (hv : rv M.1 X) : pr_X pX11_back [.ref 172, .int v] h M (rp M (f_back X v)) := by
  obtain ⟨k172, rS, rLs, rKn, rPg, rRl, rRk, rTp, rCu, rLe, rLt, rSm, rIk, rLn, rLg, rCe, ⟨kS, nS⟩, ⟨kLs, nLs⟩, ⟨kKn, nKn⟩, ⟨kPg, nPg⟩, ⟨kRl, nRl⟩, ⟨kRk, nRk⟩, ⟨kTp, nTp⟩, ⟨kCu, nCu⟩, ⟨kLe, nLe⟩, ⟨kLt, nLt⟩, ⟨kSm, nSm⟩, ⟨kIk, nIk⟩, ⟨kLn, nLn⟩, ⟨kLg, nLg⟩, kCe, nCe⟩ := id hl
  have h1 := q_in (a := v.toInt64) (b := Int64.ofNat 0) (c := Int64.ofNat 1) v 0 1 h M rfl rfl rfl
  unfold f_back
  rcases pr_rg v 1 1 rfl (by decide) with q | ⟨j, hj, rfl, q⟩
  · rw [q] at h1 ⊢
    refine pr_ofC ?_ (rp_s hv)
    refine pr_seq (pc' := 4) 4 rfl ⟨⟨⟨⟨trivial, trivial⟩, trivial⟩, trivial⟩, trivial⟩ ?_
    refine pr_cs [_, _, _] rfl rfl rfl rfl rfl (Nat.le_of_ble_eq_true rfl) (Nat.le_of_ble_eq_true rfl) (h1) ?_
    refine pr_if rfl (fun h7 => ?_) (fun h7 => ?_)
    · simp only [ab_cmp, pr_16_221, pr_8_m2, pr_i_0, pr_i_1, pr_i_m1] at h7
      exact absurd rfl h7
    · simp only [ab_cmp, pr_16_221, pr_8_m2, pr_i_0, pr_i_1, pr_i_m1] at h7
      first
      | contradiction
      | exact absurd trivial h7
      | exact absurd h7 (by decide)
      | exact absurd (Classical.not_not.mp h7) (by decide)
      | skip
        refine pr_seq (pc' := 11) 1 rfl ⟨trivial, trivial⟩ ?_
        exact pr_irM rfl (by first | rfl | (simp [pr_b, pr_16_221, pr_8_m2, pr_i_0, pr_i_1, pr_i_m1, *]; done) | (simp_all [pr_b, pr_16_221, pr_8_m2, pr_i_0, pr_i_1, pr_i_m1]; done)) trivial (by rfl)
  · rw [q] at h1 ⊢
    rw [if_pos rfl, nI_clamp (by omega)]
    have hc := q_copies (f := 221 * (j + 1)) (t := 0) h M hl (by omega) (by decide) (by omega)
    have z := hv.2.2.2.1 j (by omega)
    cases c : X.2.1 j with
    | none =>
      rw [c] at z
      have z : M.1 184 j = 0 := z
      refine pr_ofC ?_ (rp_s hv)
      refine pr_seq (pc' := 4) 4 rfl ⟨⟨⟨⟨trivial, trivial⟩, trivial⟩, trivial⟩, trivial⟩ ?_
      try simp (disch := omega) only [z, rIk, rI_mul, nI_add, nI_1, nI_clamp, c221, pr_16_221, pr_8_m2, pr_i_0, pr_i_1, pr_i_m1]
      refine pr_cs [_, _, _] rfl rfl rfl rfl rfl (Nat.le_of_ble_eq_true rfl) (Nat.le_of_ble_eq_true rfl) (h1) ?_
      refine pr_if rfl (fun h7 => ?_) (fun h7 => ?_)
      · simp only [ab_cmp, pr_16_221, pr_8_m2, pr_i_0, pr_i_1, pr_i_m1] at h7
        first
        | contradiction
        | exact absurd trivial h7
        | exact absurd h7 (by decide)
        | exact absurd (Classical.not_not.mp h7) (by decide)
        | skip
          refine pr_seq (pc' := 18) 4 rfl ⟨⟨⟨⟨trivial, (by first | decide | assumption)⟩, (by assumption)⟩, trivial⟩, (by first | assumption | decide | (simp (disch := omega) only [z, rIk, rI_mul, nI_add, nI_1, nI_clamp, c221, pr_16_221, pr_8_m2, pr_i_0, pr_i_1, pr_i_m1]; first | assumption | exact ⟨Or.inl (by assumption), rvin (by assumption) (by omega) (by decide)⟩ | exact ⟨by assumption, rvin (by assumption) (by omega) (by decide)⟩ | exact ⟨⟨by omega, by omega⟩, rvin (by assumption) (by omega) (by decide)⟩ | exact ⟨Or.inr (by assumption), rvin (by assumption) (by omega) (by decide)⟩ | exact ⟨Or.inr ⟨by assumption, (by first | exact Or.inl rfl | exact Or.inr rfl | exact pr_b01 _)⟩, rvin (by assumption) (by omega) (by decide)⟩ | exact ⟨by assumption, by assumption⟩ | decide | omega))⟩ ?_
          try simp (disch := omega) only [z, rIk, rI_mul, nI_add, nI_1, nI_clamp, c221, pr_16_221, pr_8_m2, pr_i_0, pr_i_1, pr_i_m1]
          refine pr_if rfl (fun h18 => ?_) (fun h18 => ?_)
          · simp only [ab_cmp, pr_16_221, pr_8_m2, pr_i_0, pr_i_1, pr_i_m1] at h18
            exact absurd trivial h18
          · simp only [ab_cmp, pr_16_221, pr_8_m2, pr_i_0, pr_i_1, pr_i_m1] at h18
            first
            | contradiction
            | exact absurd trivial h18
            | exact absurd h18 (by decide)
            | exact absurd (Classical.not_not.mp h18) (by decide)
            | skip
              refine pr_seq (pc' := 23) 1 rfl ⟨trivial, trivial⟩ ?_
              try simp (disch := omega) only [z, rIk, rI_mul, nI_add, nI_1, nI_clamp, c221, pr_16_221, pr_8_m2, pr_i_0, pr_i_1, pr_i_m1]
              exact pr_irM rfl (by first | rfl | (simp (disch := omega) only [z, rIk, rI_mul, nI_add, nI_1, nI_clamp, c221, pr_16_221, pr_8_m2, pr_i_0, pr_i_1, pr_i_m1]; done) | (simp [pr_b, pr_16_221, pr_8_m2, pr_i_0, pr_i_1, pr_i_m1, *]; done) | (simp_all [pr_b, pr_16_221, pr_8_m2, pr_i_0, pr_i_1, pr_i_m1]; done)) trivial (by rfl)
      · simp only [ab_cmp, pr_16_221, pr_8_m2, pr_i_0, pr_i_1, pr_i_m1] at h7
        exact absurd (Classical.not_not.mp h7) (by decide)
    | some d =>
      rw [c] at z
      obtain ⟨z1, z2⟩ := z
      have hpg : pg_r (cpy M.1 (221 * (j + 1)) 0 221 173) d := pg_cong (fun i hi => by rw [show cpy M.1 (221 * (j + 1)) 0 221 173 i = cpy M.1 (221 * (j + 1)) 0 221 173 (0 + i) by rw [Nat.zero_add], cpy_i hi]) z2
      have hpe := q_people h (cpy M.1 (221 * (j + 1)) 0 221, M.2) hl hpg
      refine pr_seqT (pc' := 4) 4 rfl ⟨⟨⟨⟨trivial, trivial⟩, trivial⟩, trivial⟩, trivial⟩ ?_
      try simp (disch := omega) only [z1, rIk, rI_mul, nI_add, nI_1, nI_clamp, c221, pr_16_221, pr_8_m2, pr_i_0, pr_i_1, pr_i_m1]
      refine pr_csT [_, _, _] rfl rfl rfl rfl rfl (Nat.le_of_ble_eq_true rfl) (Nat.le_of_ble_eq_true rfl) (h1) ?_
      refine pr_ifT rfl (fun h7 => ?_) (fun h7 => ?_)
      · simp only [ab_cmp, pr_16_221, pr_8_m2, pr_i_0, pr_i_1, pr_i_m1] at h7
        first
        | contradiction
        | exact absurd trivial h7
        | exact absurd h7 (by decide)
        | exact absurd (Classical.not_not.mp h7) (by decide)
        | skip
          refine pr_seqT (pc' := 18) 4 rfl ⟨⟨⟨⟨trivial, (by first | decide | assumption)⟩, (by assumption)⟩, trivial⟩, (by first | assumption | decide | (simp (disch := omega) only [z1, rIk, rI_mul, nI_add, nI_1, nI_clamp, c221, pr_16_221, pr_8_m2, pr_i_0, pr_i_1, pr_i_m1]; first | assumption | exact ⟨Or.inl (by assumption), rvin (by assumption) (by omega) (by decide)⟩ | exact ⟨by assumption, rvin (by assumption) (by omega) (by decide)⟩ | exact ⟨⟨by omega, by omega⟩, rvin (by assumption) (by omega) (by decide)⟩ | exact ⟨Or.inr (by assumption), rvin (by assumption) (by omega) (by decide)⟩ | exact ⟨Or.inr ⟨by assumption, (by first | exact Or.inl rfl | exact Or.inr rfl | exact pr_b01 _)⟩, rvin (by assumption) (by omega) (by decide)⟩ | exact ⟨by assumption, by assumption⟩ | decide | omega))⟩ ?_
          try simp (disch := omega) only [z1, rIk, rI_mul, nI_add, nI_1, nI_clamp, c221, pr_16_221, pr_8_m2, pr_i_0, pr_i_1, pr_i_m1]
          refine pr_ifT rfl (fun h18 => ?_) (fun h18 => ?_)
          · simp only [ab_cmp, pr_16_221, pr_8_m2, pr_i_0, pr_i_1, pr_i_m1] at h18
            first
            | contradiction
            | exact absurd trivial h18
            | exact absurd h18 (by decide)
            | exact absurd (Classical.not_not.mp h18) (by decide)
            | skip
              refine pr_seqT (pc' := 33) 7 rfl ⟨⟨⟨⟨⟨⟨⟨trivial, (by first | decide | assumption)⟩, trivial⟩, trivial⟩, trivial⟩, trivial⟩, trivial⟩, trivial⟩ ?_
              try simp (disch := omega) only [z1, rIk, rI_mul, nI_add, nI_1, nI_clamp, c221, pr_16_221, pr_8_m2, pr_i_0, pr_i_1, pr_i_m1]
              refine pr_cvT [_, _] rfl rfl rfl rfl rfl (Nat.le_of_ble_eq_true rfl) (by first | assumption | decide | (simp (disch := omega) only [z1, rIk, rI_mul, nI_add, nI_1, nI_clamp, c221, pr_16_221, pr_8_m2, pr_i_0, pr_i_1, pr_i_m1]; first | assumption | exact ⟨Or.inl (by assumption), rvin (by assumption) (by omega) (by decide)⟩ | exact ⟨by assumption, rvin (by assumption) (by omega) (by decide)⟩ | exact ⟨⟨by omega, by omega⟩, rvin (by assumption) (by omega) (by decide)⟩ | exact ⟨Or.inr (by assumption), rvin (by assumption) (by omega) (by decide)⟩ | exact ⟨Or.inr ⟨by assumption, (by first | exact Or.inl rfl | exact Or.inr rfl | exact pr_b01 _)⟩, rvin (by assumption) (by omega) (by decide)⟩ | exact ⟨by assumption, by assumption⟩ | decide | omega)) (Nat.le_of_ble_eq_true rfl) (hc) ?_
              refine pr_seqT (pc' := 37) 1 rfl ⟨trivial, (by first | decide | assumption)⟩ ?_
              try simp (disch := omega) only [z1, rIk, rI_mul, nI_add, nI_1, nI_clamp, c221, pr_16_221, pr_8_m2, pr_i_0, pr_i_1, pr_i_m1]
              refine pr_cvT [] rfl rfl rfl rfl rfl (Nat.le_of_ble_eq_true rfl) (by first | assumption | decide | (simp (disch := omega) only [z1, rIk, rI_mul, nI_add, nI_1, nI_clamp, c221, pr_16_221, pr_8_m2, pr_i_0, pr_i_1, pr_i_m1]; first | assumption | exact ⟨Or.inl (by assumption), rvin (by assumption) (by omega) (by decide)⟩ | exact ⟨by assumption, rvin (by assumption) (by omega) (by decide)⟩ | exact ⟨⟨by omega, by omega⟩, rvin (by assumption) (by omega) (by decide)⟩ | exact ⟨Or.inr (by assumption), rvin (by assumption) (by omega) (by decide)⟩ | exact ⟨Or.inr ⟨by assumption, (by first | exact Or.inl rfl | exact Or.inr rfl | exact pr_b01 _)⟩, rvin (by assumption) (by omega) (by decide)⟩ | exact ⟨by assumption, by assumption⟩ | decide | omega)) (Nat.le_of_ble_eq_true rfl) (hpe) ?_
              exact pr_irT rfl trivial (by exact rp_I (rv_land hv (fun a a1 a2 _ _ => cpy_ne a2) hpg (fun i i1 i2 => cpy_o (by omega))) (fun a ha => cpy_ne (by omega)))
          · simp only [ab_cmp, pr_16_221, pr_8_m2, pr_i_0, pr_i_1, pr_i_m1] at h18
            exact absurd (Classical.not_not.mp h18) (by decide)
      · simp only [ab_cmp, pr_16_221, pr_8_m2, pr_i_0, pr_i_1, pr_i_m1] at h7
        exact absurd (Classical.not_not.mp h7) (by decide)
