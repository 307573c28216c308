
/-! ===== the reference: birth, weddings, what is known, images ===== -/
theorem d_pn_push {d : Ld} {p : Nat} {q : Pn} (hp : p < d.2.1.length + 1) : d_pn (d.1, d.2.1 ++ [q], d.2.2) p = if p = d.2.1.length then q else d_pn d p := by
  unfold d_pn
  rw [List.getD_eq_getElem?_getD, List.getD_eq_getElem?_getD]
  show ((d.2.1 ++ [q])[p]?).getD _ = _
  by_cases e : p = d.2.1.length
  · subst e
    rw [if_pos rfl, List.getElem?_append_right (Nat.le_refl _), Nat.sub_self]
    rfl
  · rw [if_neg e, List.getElem?_append_left (by omega)]
theorem pg_push {F F' : Nat → Int32} {d : Ld} {q : Pn} (hv : pg_r F d) (h8 : d.2.1.length < 8) (hf : ∀ j, j < 221 → (j < 24 * d.2.1.length ∨ 24 * d.2.1.length + 24 ≤ j) → j ≠ 192 → F' j = F j) (h2 : F' 192 = nI (d.2.1.length + 1)) (hq : pn_r F' (24 * d.2.1.length) q) : pg_r F' (d.1, d.2.1 ++ [q], d.2.2) := by
  obtain ⟨g1, g2, g3, g4, g5, g6, g7, g8⟩ := hv
  have hlen : (d.2.1 ++ [q]).length = d.2.1.length + 1 := by rw [List.length_append]; rfl
  refine ⟨by show F' 192 = nI (d.2.1 ++ [q]).length; rw [hlen]; exact h2, by show (d.2.1 ++ [q]).length ≤ 8; omega, by rw [hf _ (by omega) (by omega) (by omega)]; exact g3, g4, by rw [hf _ (by omega) (by omega) (by omega)]; exact g5, g6, fun l hl => by rw [hf _ (by omega) (by omega) (by omega)]; exact g7 l hl, fun p hp => ?_⟩
  have hp : p < d.2.1.length + 1 := by rw [← hlen]; exact hp
  rw [d_pn_push hp]
  by_cases e : p = d.2.1.length
  · rw [if_pos e, e]; exact hq
  · rw [if_neg e]
    exact pn_cong (fun j x1 x2 => hf j (by omega) (by omega) (by omega)) (g8 p (by omega))
theorem r_bear {X : St} (x : Int32) (h : ab_H) (M : ab_M) (hl : rL h M.2.2) (hv : rv M.1 X) : pr_X pX11_bear [.ref 172, .int x] h M (rp M (f_bear X x)) := by
  obtain ⟨k172, rS, rLs, rKn, rPg, rRl, rRk, rTp, rCu, rLe, rLt, rSm, rIk, rLn, rLg, rCe, ⟨kS, nS⟩, ⟨kLs, nLs⟩, ⟨kKn, nKn⟩, ⟨kPg, nPg⟩, ⟨kRl, nRl⟩, ⟨kRk, nRk⟩, ⟨kTp, nTp⟩, ⟨kCu, nCu⟩, ⟨kLe, nLe⟩, ⟨kLt, nLt⟩, ⟨kSm, nSm⟩, ⟨kIk, nIk⟩, ⟨kLn, nLn⟩, ⟨kLg, nLg⟩, kCe, nCe⟩ := id hl
  obtain ⟨l1, l2, l3⟩ := hv.2.1
  have g1 : M.1 173 192 = nI (x_n X) := hv.1.1
  have h8 : x_n X ≤ 8 := hv.1.2.1
  have hi := q_isListed x h M hl l1 l2
  have hpe : pr_C pX11_people [.ref 172] h M (some (.int (nI (x_n X)))) h M := q_people h M hl hv.1
  unfold f_bear
  rcases pr_ix x (show X.1.2.1.length ≤ 1000000 by omega) with q | ⟨j, hj, rfl, q⟩
  · rw [show ixb x X.1.2.1.length = false from q] at hi ⊢
    refine pr_ofC ?_ (rp_s hv)
    refine pr_seq (pc' := 2) 2 rfl ⟨⟨trivial, (by first | decide | assumption)⟩, trivial⟩ ?_
    try simp (disch := omega) only [rS, rLs, rI_mul, nI_add, nI_1, nI_clamp, c24, c11, c192, pr_16_192, pr_8_11, pr_8_24, pr_8_8, pr_8_m3, pr_i_0, pr_i_1, pr_i_2, pr_i_3, pr_i_4, pr_i_m1]
    refine pr_cv [_] rfl rfl rfl rfl rfl (Nat.le_of_ble_eq_true rfl) (by first | assumption | decide | (simp (disch := omega) only [rS, rLs, rI_mul, nI_add, nI_1, nI_clamp, c24, c11, c192, pr_16_192, pr_8_11, pr_8_24, pr_8_8, pr_8_m3, pr_i_0, pr_i_1, pr_i_2, pr_i_3, pr_i_4, pr_i_m1]; first | assumption | exact ⟨Or.inl (by assumption), rvin (by assumption) (by omega) (by decide)⟩ | exact ⟨by assumption, rvin (by assumption) (by omega) (by decide)⟩ | exact ⟨⟨by omega, by omega⟩, rvin (by assumption) (by omega) (by decide)⟩ | exact ⟨Or.inr (by assumption), rvin (by assumption) (by omega) (by decide)⟩ | exact ⟨Or.inr ⟨by assumption, (by first | exact Or.inl rfl | exact Or.inr rfl | exact pr_b01 _)⟩, rvin (by assumption) (by omega) (by decide)⟩ | exact ⟨by assumption, by assumption⟩ | decide | omega)) (Nat.le_of_ble_eq_true rfl) (hi) ?_
    refine pr_if rfl (fun h5 => ?_) (fun h5 => ?_)
    · simp only [ab_cmp, pr_16_192, pr_8_11, pr_8_24, pr_8_8, pr_8_m3, pr_i_0, pr_i_1, pr_i_2, pr_i_3, pr_i_4, pr_i_m1] at h5
      exact absurd rfl h5
    · simp only [ab_cmp, pr_16_192, pr_8_11, pr_8_24, pr_8_8, pr_8_m3, pr_i_0, pr_i_1, pr_i_2, pr_i_3, pr_i_4, pr_i_m1] at h5
      first
      | contradiction
      | exact absurd trivial h5
      | exact absurd h5 (by decide)
      | exact absurd (Classical.not_not.mp h5) (by decide)
      | skip
        refine pr_seq (pc' := 9) 1 rfl ⟨trivial, trivial⟩ ?_
        try simp (disch := omega) only [rS, rLs, rI_mul, nI_add, nI_1, nI_clamp, c24, c11, c192, pr_16_192, pr_8_11, pr_8_24, pr_8_8, pr_8_m3, pr_i_0, pr_i_1, pr_i_2, pr_i_3, pr_i_4, pr_i_m1]
        exact pr_irM rfl (by first | rfl | (simp (disch := omega) only [rS, rLs, rI_mul, nI_add, nI_1, nI_clamp, c24, c11, c192, pr_16_192, pr_8_11, pr_8_24, pr_8_8, pr_8_m3, pr_i_0, pr_i_1, pr_i_2, pr_i_3, pr_i_4, pr_i_m1]; done) | (simp [pr_b, pr_16_192, pr_8_11, pr_8_24, pr_8_8, pr_8_m3, pr_i_0, pr_i_1, pr_i_2, pr_i_3, pr_i_4, pr_i_m1, *]; done) | (simp_all [pr_b, pr_16_192, pr_8_11, pr_8_24, pr_8_8, pr_8_m3, pr_i_0, pr_i_1, pr_i_2, pr_i_3, pr_i_4, pr_i_m1]; done)) trivial (by rfl)
  · rw [show ixb (nI j) X.1.2.1.length = true from q] at hi ⊢
    rw [if_pos rfl, nI_clamp (by omega)]
    obtain ⟨y1, y2, y9⟩ := l3 j hj
    unfold x_ln
    generalize X.1.2.1.getD j [] = u at *
    by_cases c8 : x_n X < 8
    · rw [if_pos c8]
      have e8 : ¬ nI (x_n X) = nI 8 := nI_ne (by omega) (by omega) (by decide)
      have hn : X.1.1.2.1.length = x_n X := rfl
      generalize hN : x_n X = n at *
      have loop : ∀ dd k, k + dd = u.length → ∀ I : Nat → Nat → Int32, (∀ a, a ≠ 173 → I a = M.1 a) → (∀ i, (i < 24 * n ∨ 24 * n + 24 ≤ i) → I 173 i = M.1 173 i) → I 173 (24 * n) = 0 → I 173 (24 * n + 1) = 0 → I 173 (24 * n + 2) = 0 → I 173 (24 * n + 3) = nI u.length → (∀ i, i < k → I 173 (24 * n + 4 + i) = nI (u.getD i 0)) → pr_T pX11_bear 74 [some (.ref 172), some (.int (nI j)), some (.int (nI (24 * n))), some (.int (nI k))] [] h (I, M.2) (rp M (nI n, wLd X (X.1.1.1, X.1.1.2.1 ++ [(0, 0, 0, u)], X.1.1.2.2))) := by
        intro dd
        induction dd with
        | zero =>
          intro k hk I f1 f2 i0 i1 i2 i3 i4
          obtain rfl : k = u.length := by omega
          have e1 : nI u.length ≤ nI u.length := nI_le (Nat.le_refl _) (by omega)
          have z1 : I 174 (11 * j) = nI u.length := by rw [f1 174 (by decide)]; exact y1
          have z2 : I 173 192 = nI n := by rw [f2 192 (by omega)]; exact g1
          have hpg : pg_r (ab_u I 173 192 (nI (n + 1)) 173) (X.1.1.1, X.1.1.2.1 ++ [(0, 0, 0, u)], X.1.1.2.2) := by
            rw [ab_u_r]
            refine pg_push hv.1 (by rw [hn]; exact c8) (fun i x1 x2 x3 => by rw [va_up_n x3]; exact f2 i (by rw [← hn]; omega)) (by rw [va_up_at, hn]) ?_
            rw [hn]
            exact ⟨by rw [va_up_n (by omega)]; exact i0, Nat.zero_le _, by rw [va_up_n (by omega)]; exact i1, Nat.zero_le _, by rw [va_up_n (by omega)]; exact i2, Nat.zero_le _, by rw [va_up_n (by omega)]; exact i3, by show u.length ≤ 20; omega, fun i hi => by have hi : i < u.length := hi; rw [va_up_n (by omega)]; exact ⟨i4 i hi, (y9 i hi).2⟩⟩
          have hpe2 := q_people h (ab_u I 173 192 (nI (n + 1)), M.2) hl hpg
          have hln : (X.1.1.2.1 ++ [((0, 0, 0, u) : Pn)]).length = n + 1 := by rw [List.length_append, hn]; rfl
          rw [show (((X.1.1.1, X.1.1.2.1 ++ [(0, 0, 0, u)], X.1.1.2.2) : Ld)).2.1.length = n + 1 from hln] at hpe2
          refine pr_seqT (pc' := 84) 7 rfl ⟨⟨⟨⟨⟨⟨⟨trivial, trivial⟩, (by first | decide | assumption)⟩, (by assumption)⟩, trivial⟩, trivial⟩, trivial⟩, (by simp (disch := omega) only [z1, z2, nI_pred, rS, rLs, rI_mul, nI_add, nI_1, nI_clamp, c24, c11, c192, pr_16_192, pr_8_11, pr_8_24, pr_8_8, pr_8_m3, pr_i_0, pr_i_1, pr_i_2, pr_i_3, pr_i_4, pr_i_m1]; exact ⟨Or.inl (by assumption), rvin (by assumption) (by omega) (by decide)⟩)⟩ ?_
          try simp (disch := omega) only [z1, z2, nI_pred, rS, rLs, rI_mul, nI_add, nI_1, nI_clamp, c24, c11, c192, pr_16_192, pr_8_11, pr_8_24, pr_8_8, pr_8_m3, pr_i_0, pr_i_1, pr_i_2, pr_i_3, pr_i_4, pr_i_m1]
          refine pr_icT rfl (fun h84 => ?_) (fun h84 => ?_)
          · simp only [ab_cmp, pr_16_192, pr_8_11, pr_8_24, pr_8_8, pr_8_m3, pr_i_0, pr_i_1, pr_i_2, pr_i_3, pr_i_4, pr_i_m1] at h84
            first
            | contradiction
            | exact absurd trivial h84
            | exact absurd h84 (by decide)
            | exact absurd (Classical.not_not.mp h84) (by decide)
            | skip
              refine pr_seqT (pc' := 129) 9 rfl ⟨⟨⟨⟨⟨⟨⟨⟨⟨trivial, (by first | decide | assumption)⟩, (by assumption)⟩, trivial⟩, trivial⟩, (by simp (disch := omega) only [z1, z2, nI_pred, rS, rLs, rI_mul, nI_add, nI_1, nI_clamp, c24, c11, c192, pr_16_192, pr_8_11, pr_8_24, pr_8_8, pr_8_m3, pr_i_0, pr_i_1, pr_i_2, pr_i_3, pr_i_4, pr_i_m1]; exact ⟨Or.inl (by assumption), rvin (by assumption) (by omega) (by decide)⟩)⟩, trivial⟩, trivial⟩, (by simp (disch := omega) only [z1, z2, nI_pred, rS, rLs, rI_mul, nI_add, nI_1, nI_clamp, c24, c11, c192, pr_16_192, pr_8_11, pr_8_24, pr_8_8, pr_8_m3, pr_i_0, pr_i_1, pr_i_2, pr_i_3, pr_i_4, pr_i_m1]; exact ⟨by assumption, rvin (by assumption) (by omega) (by decide)⟩)⟩, (by first | decide | assumption)⟩ ?_
              try simp (disch := omega) only [z1, z2, nI_pred, rS, rLs, rI_mul, nI_add, nI_1, nI_clamp, c24, c11, c192, pr_16_192, pr_8_11, pr_8_24, pr_8_8, pr_8_m3, pr_i_0, pr_i_1, pr_i_2, pr_i_3, pr_i_4, pr_i_m1]
              refine pr_cvT [] rfl rfl rfl rfl rfl (Nat.le_of_ble_eq_true rfl) (by first | assumption | decide | (simp (disch := omega) only [z1, z2, nI_pred, rS, rLs, rI_mul, nI_add, nI_1, nI_clamp, c24, c11, c192, pr_16_192, pr_8_11, pr_8_24, pr_8_8, pr_8_m3, pr_i_0, pr_i_1, pr_i_2, pr_i_3, pr_i_4, pr_i_m1]; first | assumption | exact ⟨Or.inl (by assumption), rvin (by assumption) (by omega) (by decide)⟩ | exact ⟨by assumption, rvin (by assumption) (by omega) (by decide)⟩ | exact ⟨⟨by omega, by omega⟩, rvin (by assumption) (by omega) (by decide)⟩ | exact ⟨Or.inr (by assumption), rvin (by assumption) (by omega) (by decide)⟩ | exact ⟨Or.inr ⟨by assumption, (by first | exact Or.inl rfl | exact Or.inr rfl | exact pr_b01 _)⟩, rvin (by assumption) (by omega) (by decide)⟩ | exact ⟨by assumption, by assumption⟩ | decide | omega)) (Nat.le_of_ble_eq_true rfl) (hpe2) ?_
              refine pr_seqT (pc' := 134) 2 rfl ⟨⟨trivial, trivial⟩, trivial⟩ ?_
              try simp (disch := omega) only [z1, z2, nI_pred, rS, rLs, rI_mul, nI_add, nI_1, nI_clamp, c24, c11, c192, pr_16_192, pr_8_11, pr_8_24, pr_8_8, pr_8_m3, pr_i_0, pr_i_1, pr_i_2, pr_i_3, pr_i_4, pr_i_m1]
              exact pr_irT rfl trivial (by exact rp_I (rv_land hv (fun a a1 a2 _ _ => by rw [ab_u_ne a2]; exact f1 a a2) hpg (fun i i1 i2 => by rw [ab_u_j (by omega)]; exact f2 i (by omega))) (fun a ha => by rw [ab_u_ne (by omega)]; exact f1 a (by omega)))
          · simp only [ab_cmp, pr_16_192, pr_8_11, pr_8_24, pr_8_8, pr_8_m3, pr_i_0, pr_i_1, pr_i_2, pr_i_3, pr_i_4, pr_i_m1] at h84
            exact absurd e1 h84
        | succ dd ih =>
          intro k hk I f1 f2 i0 i1 i2 i3 i4
          have e1 : ¬ nI u.length ≤ nI k := nI_ge (by omega) (by omega)
          have z1 : I 174 (11 * j) = nI u.length := by rw [f1 174 (by decide)]; exact y1
          have z3 : I 174 (11 * j + 1 + k) = nI (u.getD k 0) := by rw [f1 174 (by decide)]; exact (y9 k (by omega)).1
          have hh := ih (k + 1) (by omega) (ab_u I 173 (24 * n + 4 + k) (nI (u.getD k 0))) (fun a ha => by rw [ab_u_ne ha]; exact f1 a ha) (fun i hi => by rw [ab_u_j (by omega)]; exact f2 i hi) (by rw [ab_u_j (by omega)]; exact i0) (by rw [ab_u_j (by omega)]; exact i1) (by rw [ab_u_j (by omega)]; exact i2) (by rw [ab_u_j (by omega)]; exact i3) (fun i hi => by
            by_cases e : i = k
            · rw [e, ab_u_at]
            · rw [ab_u_j (by omega)]; exact i4 i (by omega))
          refine pr_seqT (pc' := 84) 7 rfl ⟨⟨⟨⟨⟨⟨⟨trivial, trivial⟩, (by first | decide | assumption)⟩, (by assumption)⟩, trivial⟩, trivial⟩, trivial⟩, (by simp (disch := omega) only [c4, z1, z3, rS, rLs, rI_mul, nI_add, nI_1, nI_clamp, c24, c11, c192, pr_16_192, pr_8_11, pr_8_24, pr_8_8, pr_8_m3, pr_i_0, pr_i_1, pr_i_2, pr_i_3, pr_i_4, pr_i_m1]; exact ⟨Or.inl (by assumption), rvin (by assumption) (by omega) (by decide)⟩)⟩ ?_
          try simp (disch := omega) only [c4, z1, z3, rS, rLs, rI_mul, nI_add, nI_1, nI_clamp, c24, c11, c192, pr_16_192, pr_8_11, pr_8_24, pr_8_8, pr_8_m3, pr_i_0, pr_i_1, pr_i_2, pr_i_3, pr_i_4, pr_i_m1]
          refine pr_icT rfl (fun h84 => ?_) (fun h84 => ?_)
          · simp only [ab_cmp, pr_16_192, pr_8_11, pr_8_24, pr_8_8, pr_8_m3, pr_i_0, pr_i_1, pr_i_2, pr_i_3, pr_i_4, pr_i_m1] at h84
            exact absurd h84 e1
          · simp only [ab_cmp, pr_16_192, pr_8_11, pr_8_24, pr_8_8, pr_8_m3, pr_i_0, pr_i_1, pr_i_2, pr_i_3, pr_i_4, pr_i_m1] at h84
            first
            | contradiction
            | exact absurd trivial h84
            | exact absurd h84 (by decide)
            | exact absurd (Classical.not_not.mp h84) (by decide)
            | skip
              refine pr_seqT (pc' := 74) 20 rfl ⟨⟨⟨⟨⟨⟨⟨⟨⟨⟨⟨⟨⟨⟨⟨⟨⟨⟨⟨⟨trivial, (by first | decide | assumption)⟩, (by assumption)⟩, trivial⟩, trivial⟩, trivial⟩, trivial⟩, trivial⟩, (by first | decide | assumption)⟩, (by assumption)⟩, trivial⟩, trivial⟩, trivial⟩, trivial⟩, trivial⟩, trivial⟩, trivial⟩, (by simp (disch := omega) only [c4, z1, z3, rS, rLs, rI_mul, nI_add, nI_1, nI_clamp, c24, c11, c192, pr_16_192, pr_8_11, pr_8_24, pr_8_8, pr_8_m3, pr_i_0, pr_i_1, pr_i_2, pr_i_3, pr_i_4, pr_i_m1]; exact ⟨Or.inl (by assumption), rvin (by assumption) (by omega) (by decide)⟩)⟩, (by simp (disch := omega) only [c4, z1, z3, rS, rLs, rI_mul, nI_add, nI_1, nI_clamp, c24, c11, c192, pr_16_192, pr_8_11, pr_8_24, pr_8_8, pr_8_m3, pr_i_0, pr_i_1, pr_i_2, pr_i_3, pr_i_4, pr_i_m1]; exact ⟨by assumption, rvin (by assumption) (by omega) (by decide)⟩)⟩, trivial⟩, trivial⟩ ?_
              try simp (disch := omega) only [c4, z1, z3, rS, rLs, rI_mul, nI_add, nI_1, nI_clamp, c24, c11, c192, pr_16_192, pr_8_11, pr_8_24, pr_8_8, pr_8_m3, pr_i_0, pr_i_1, pr_i_2, pr_i_3, pr_i_4, pr_i_m1]
              exact hh
      have h0 := loop u.length 0 (by omega) (ab_u (ab_u (ab_u (ab_u M.1 173 (24 * n) 0) 173 (24 * n + 1) 0) 173 (24 * n + 2) 0) 173 (24 * n + 3) (nI u.length)) (fun a ha => by rw [ab_u_ne ha, ab_u_ne ha, ab_u_ne ha, ab_u_ne ha]) (fun i hi => by rw [ab_u_j (by omega), ab_u_j (by omega), ab_u_j (by omega), ab_u_j (by omega)]) (by rw [ab_u_j (by omega), ab_u_j (by omega), ab_u_j (by omega), ab_u_at]) (by rw [ab_u_j (by omega), ab_u_j (by omega), ab_u_at]) (by rw [ab_u_j (by omega), ab_u_at]) ab_u_at (fun i hi => absurd hi (by omega))
      have y1' : ab_u (ab_u (ab_u M.1 173 (24 * n) 0) 173 (24 * n + 1) 0) 173 (24 * n + 2) 0 174 (11 * j) = nI u.length := by rw [ab_u_ne (by decide), ab_u_ne (by decide), ab_u_ne (by decide)]; exact y1
      refine pr_seqT (pc' := 2) 2 rfl ⟨⟨trivial, (by first | decide | assumption)⟩, trivial⟩ ?_
      try simp (disch := omega) only [c8, c2, c3, y1', rS, rLs, rI_mul, nI_add, nI_1, nI_clamp, c24, c11, c192, pr_16_192, pr_8_11, pr_8_24, pr_8_8, pr_8_m3, pr_i_0, pr_i_1, pr_i_2, pr_i_3, pr_i_4, pr_i_m1]
      refine pr_cvT [_] rfl rfl rfl rfl rfl (Nat.le_of_ble_eq_true rfl) (by first | assumption | decide | (simp (disch := omega) only [c8, c2, c3, y1', rS, rLs, rI_mul, nI_add, nI_1, nI_clamp, c24, c11, c192, pr_16_192, pr_8_11, pr_8_24, pr_8_8, pr_8_m3, pr_i_0, pr_i_1, pr_i_2, pr_i_3, pr_i_4, pr_i_m1]; first | assumption | exact ⟨Or.inl (by assumption), rvin (by assumption) (by omega) (by decide)⟩ | exact ⟨by assumption, rvin (by assumption) (by omega) (by decide)⟩ | exact ⟨⟨by omega, by omega⟩, rvin (by assumption) (by omega) (by decide)⟩ | exact ⟨Or.inr (by assumption), rvin (by assumption) (by omega) (by decide)⟩ | exact ⟨Or.inr ⟨by assumption, (by first | exact Or.inl rfl | exact Or.inr rfl | exact pr_b01 _)⟩, rvin (by assumption) (by omega) (by decide)⟩ | exact ⟨by assumption, by assumption⟩ | decide | omega)) (Nat.le_of_ble_eq_true rfl) (hi) ?_
      refine pr_ifT rfl (fun h5 => ?_) (fun h5 => ?_)
      · simp only [ab_cmp, pr_16_192, pr_8_11, pr_8_24, pr_8_8, pr_8_m3, pr_i_0, pr_i_1, pr_i_2, pr_i_3, pr_i_4, pr_i_m1] at h5
        first
        | contradiction
        | exact absurd trivial h5
        | exact absurd h5 (by decide)
        | exact absurd (Classical.not_not.mp h5) (by decide)
        | skip
          refine pr_seqT (pc' := 11) 1 rfl ⟨trivial, (by first | decide | assumption)⟩ ?_
          try simp (disch := omega) only [c8, c2, c3, y1', rS, rLs, rI_mul, nI_add, nI_1, nI_clamp, c24, c11, c192, pr_16_192, pr_8_11, pr_8_24, pr_8_8, pr_8_m3, pr_i_0, pr_i_1, pr_i_2, pr_i_3, pr_i_4, pr_i_m1]
          refine pr_cvT [] rfl rfl rfl rfl rfl (Nat.le_of_ble_eq_true rfl) (by first | assumption | decide | (simp (disch := omega) only [c8, c2, c3, y1', rS, rLs, rI_mul, nI_add, nI_1, nI_clamp, c24, c11, c192, pr_16_192, pr_8_11, pr_8_24, pr_8_8, pr_8_m3, pr_i_0, pr_i_1, pr_i_2, pr_i_3, pr_i_4, pr_i_m1]; first | assumption | exact ⟨Or.inl (by assumption), rvin (by assumption) (by omega) (by decide)⟩ | exact ⟨by assumption, rvin (by assumption) (by omega) (by decide)⟩ | exact ⟨⟨by omega, by omega⟩, rvin (by assumption) (by omega) (by decide)⟩ | exact ⟨Or.inr (by assumption), rvin (by assumption) (by omega) (by decide)⟩ | exact ⟨Or.inr ⟨by assumption, (by first | exact Or.inl rfl | exact Or.inr rfl | exact pr_b01 _)⟩, rvin (by assumption) (by omega) (by decide)⟩ | exact ⟨by assumption, by assumption⟩ | decide | omega)) (Nat.le_of_ble_eq_true rfl) (hpe) ?_
          refine pr_seqT (pc' := 16) 1 rfl ⟨trivial, trivial⟩ ?_
          try simp (disch := omega) only [c8, c2, c3, y1', rS, rLs, rI_mul, nI_add, nI_1, nI_clamp, c24, c11, c192, pr_16_192, pr_8_11, pr_8_24, pr_8_8, pr_8_m3, pr_i_0, pr_i_1, pr_i_2, pr_i_3, pr_i_4, pr_i_m1]
          refine pr_icT rfl (fun h16 => ?_) (fun h16 => ?_)
          · simp only [ab_cmp, pr_16_192, pr_8_11, pr_8_24, pr_8_8, pr_8_m3, pr_i_0, pr_i_1, pr_i_2, pr_i_3, pr_i_4, pr_i_m1] at h16
            first
            | contradiction
            | exact absurd trivial h16
            | exact absurd h16 (by decide)
            | exact absurd (Classical.not_not.mp h16) (by decide)
            | skip
              refine pr_seqT (pc' := 25) 2 rfl ⟨⟨trivial, trivial⟩, (by first | decide | assumption)⟩ ?_
              try simp (disch := omega) only [c8, c2, c3, y1', rS, rLs, rI_mul, nI_add, nI_1, nI_clamp, c24, c11, c192, pr_16_192, pr_8_11, pr_8_24, pr_8_8, pr_8_m3, pr_i_0, pr_i_1, pr_i_2, pr_i_3, pr_i_4, pr_i_m1]
              refine pr_cvT [] rfl rfl rfl rfl rfl (Nat.le_of_ble_eq_true rfl) (by first | assumption | decide | (simp (disch := omega) only [c8, c2, c3, y1', rS, rLs, rI_mul, nI_add, nI_1, nI_clamp, c24, c11, c192, pr_16_192, pr_8_11, pr_8_24, pr_8_8, pr_8_m3, pr_i_0, pr_i_1, pr_i_2, pr_i_3, pr_i_4, pr_i_m1]; first | assumption | exact ⟨Or.inl (by assumption), rvin (by assumption) (by omega) (by decide)⟩ | exact ⟨by assumption, rvin (by assumption) (by omega) (by decide)⟩ | exact ⟨⟨by omega, by omega⟩, rvin (by assumption) (by omega) (by decide)⟩ | exact ⟨Or.inr (by assumption), rvin (by assumption) (by omega) (by decide)⟩ | exact ⟨Or.inr ⟨by assumption, (by first | exact Or.inl rfl | exact Or.inr rfl | exact pr_b01 _)⟩, rvin (by assumption) (by omega) (by decide)⟩ | exact ⟨by assumption, by assumption⟩ | decide | omega)) (Nat.le_of_ble_eq_true rfl) (hpe) ?_
              refine pr_seqT (pc' := 74) 35 rfl ⟨⟨⟨⟨⟨⟨⟨⟨⟨⟨⟨⟨⟨⟨⟨⟨⟨⟨⟨⟨⟨⟨⟨⟨⟨⟨⟨⟨⟨⟨⟨⟨⟨⟨⟨trivial, trivial⟩, trivial⟩, (by first | decide | assumption)⟩, (by assumption)⟩, trivial⟩, trivial⟩, (by simp (disch := omega) only [c8, c2, c3, y1', rS, rLs, rI_mul, nI_add, nI_1, nI_clamp, c24, c11, c192, pr_16_192, pr_8_11, pr_8_24, pr_8_8, pr_8_m3, pr_i_0, pr_i_1, pr_i_2, pr_i_3, pr_i_4, pr_i_m1]; exact ⟨by assumption, rvin (by assumption) (by omega) (by decide)⟩)⟩, (by first | decide | assumption)⟩, (by assumption)⟩, trivial⟩, trivial⟩, trivial⟩, trivial⟩, (by simp (disch := omega) only [c8, c2, c3, y1', rS, rLs, rI_mul, nI_add, nI_1, nI_clamp, c24, c11, c192, pr_16_192, pr_8_11, pr_8_24, pr_8_8, pr_8_m3, pr_i_0, pr_i_1, pr_i_2, pr_i_3, pr_i_4, pr_i_m1]; exact ⟨by assumption, rvin (by assumption) (by omega) (by decide)⟩)⟩, (by first | decide | assumption)⟩, (by assumption)⟩, trivial⟩, trivial⟩, trivial⟩, trivial⟩, (by simp (disch := omega) only [c8, c2, c3, y1', rS, rLs, rI_mul, nI_add, nI_1, nI_clamp, c24, c11, c192, pr_16_192, pr_8_11, pr_8_24, pr_8_8, pr_8_m3, pr_i_0, pr_i_1, pr_i_2, pr_i_3, pr_i_4, pr_i_m1]; exact ⟨by assumption, rvin (by assumption) (by omega) (by decide)⟩)⟩, (by first | decide | assumption)⟩, (by assumption)⟩, trivial⟩, trivial⟩, trivial⟩, (by first | decide | assumption)⟩, (by assumption)⟩, trivial⟩, trivial⟩, trivial⟩, (by simp (disch := omega) only [c8, c2, c3, y1', rS, rLs, rI_mul, nI_add, nI_1, nI_clamp, c24, c11, c192, pr_16_192, pr_8_11, pr_8_24, pr_8_8, pr_8_m3, pr_i_0, pr_i_1, pr_i_2, pr_i_3, pr_i_4, pr_i_m1]; exact ⟨Or.inl (by assumption), rvin (by assumption) (by omega) (by decide)⟩)⟩, (by simp (disch := omega) only [c8, c2, c3, y1', rS, rLs, rI_mul, nI_add, nI_1, nI_clamp, c24, c11, c192, pr_16_192, pr_8_11, pr_8_24, pr_8_8, pr_8_m3, pr_i_0, pr_i_1, pr_i_2, pr_i_3, pr_i_4, pr_i_m1]; exact ⟨by assumption, rvin (by assumption) (by omega) (by decide)⟩)⟩, trivial⟩, trivial⟩ ?_
              try simp (disch := omega) only [c8, c2, c3, y1', rS, rLs, rI_mul, nI_add, nI_1, nI_clamp, c24, c11, c192, pr_16_192, pr_8_11, pr_8_24, pr_8_8, pr_8_m3, pr_i_0, pr_i_1, pr_i_2, pr_i_3, pr_i_4, pr_i_m1]
              exact h0
          · simp only [ab_cmp, pr_16_192, pr_8_11, pr_8_24, pr_8_8, pr_8_m3, pr_i_0, pr_i_1, pr_i_2, pr_i_3, pr_i_4, pr_i_m1] at h16
            exact absurd (Classical.not_not.mp h16) e8
      · simp only [ab_cmp, pr_16_192, pr_8_11, pr_8_24, pr_8_8, pr_8_m3, pr_i_0, pr_i_1, pr_i_2, pr_i_3, pr_i_4, pr_i_m1] at h5
        exact absurd (Classical.not_not.mp h5) (by decide)
    · rw [if_neg c8]
      have e8 : nI (x_n X) = nI 8 := by rw [show x_n X = 8 by omega]
      refine pr_ofC ?_ (rp_s hv)
      refine pr_seq (pc' := 2) 2 rfl ⟨⟨trivial, (by first | decide | assumption)⟩, trivial⟩ ?_
      try simp (disch := omega) only [c8, rS, rLs, rI_mul, nI_add, nI_1, nI_clamp, c24, c11, c192, pr_16_192, pr_8_11, pr_8_24, pr_8_8, pr_8_m3, pr_i_0, pr_i_1, pr_i_2, pr_i_3, pr_i_4, pr_i_m1]
      refine pr_cv [_] rfl rfl rfl rfl rfl (Nat.le_of_ble_eq_true rfl) (by first | assumption | decide | (simp (disch := omega) only [c8, rS, rLs, rI_mul, nI_add, nI_1, nI_clamp, c24, c11, c192, pr_16_192, pr_8_11, pr_8_24, pr_8_8, pr_8_m3, pr_i_0, pr_i_1, pr_i_2, pr_i_3, pr_i_4, pr_i_m1]; first | assumption | exact ⟨Or.inl (by assumption), rvin (by assumption) (by omega) (by decide)⟩ | exact ⟨by assumption, rvin (by assumption) (by omega) (by decide)⟩ | exact ⟨⟨by omega, by omega⟩, rvin (by assumption) (by omega) (by decide)⟩ | exact ⟨Or.inr (by assumption), rvin (by assumption) (by omega) (by decide)⟩ | exact ⟨Or.inr ⟨by assumption, (by first | exact Or.inl rfl | exact Or.inr rfl | exact pr_b01 _)⟩, rvin (by assumption) (by omega) (by decide)⟩ | exact ⟨by assumption, by assumption⟩ | decide | omega)) (Nat.le_of_ble_eq_true rfl) (hi) ?_
      refine pr_if rfl (fun h5 => ?_) (fun h5 => ?_)
      · simp only [ab_cmp, pr_16_192, pr_8_11, pr_8_24, pr_8_8, pr_8_m3, pr_i_0, pr_i_1, pr_i_2, pr_i_3, pr_i_4, pr_i_m1] at h5
        first
        | contradiction
        | exact absurd trivial h5
        | exact absurd h5 (by decide)
        | exact absurd (Classical.not_not.mp h5) (by decide)
        | skip
          refine pr_seq (pc' := 11) 1 rfl ⟨trivial, (by first | decide | assumption)⟩ ?_
          try simp (disch := omega) only [c8, rS, rLs, rI_mul, nI_add, nI_1, nI_clamp, c24, c11, c192, pr_16_192, pr_8_11, pr_8_24, pr_8_8, pr_8_m3, pr_i_0, pr_i_1, pr_i_2, pr_i_3, pr_i_4, pr_i_m1]
          refine pr_cv [] rfl rfl rfl rfl rfl (Nat.le_of_ble_eq_true rfl) (by first | assumption | decide | (simp (disch := omega) only [c8, rS, rLs, rI_mul, nI_add, nI_1, nI_clamp, c24, c11, c192, pr_16_192, pr_8_11, pr_8_24, pr_8_8, pr_8_m3, pr_i_0, pr_i_1, pr_i_2, pr_i_3, pr_i_4, pr_i_m1]; first | assumption | exact ⟨Or.inl (by assumption), rvin (by assumption) (by omega) (by decide)⟩ | exact ⟨by assumption, rvin (by assumption) (by omega) (by decide)⟩ | exact ⟨⟨by omega, by omega⟩, rvin (by assumption) (by omega) (by decide)⟩ | exact ⟨Or.inr (by assumption), rvin (by assumption) (by omega) (by decide)⟩ | exact ⟨Or.inr ⟨by assumption, (by first | exact Or.inl rfl | exact Or.inr rfl | exact pr_b01 _)⟩, rvin (by assumption) (by omega) (by decide)⟩ | exact ⟨by assumption, by assumption⟩ | decide | omega)) (Nat.le_of_ble_eq_true rfl) (hpe) ?_
          refine pr_seq (pc' := 16) 1 rfl ⟨trivial, trivial⟩ ?_
          try simp (disch := omega) only [c8, rS, rLs, rI_mul, nI_add, nI_1, nI_clamp, c24, c11, c192, pr_16_192, pr_8_11, pr_8_24, pr_8_8, pr_8_m3, pr_i_0, pr_i_1, pr_i_2, pr_i_3, pr_i_4, pr_i_m1]
          refine pr_ic rfl (fun h16 => ?_) (fun h16 => ?_)
          · simp only [ab_cmp, pr_16_192, pr_8_11, pr_8_24, pr_8_8, pr_8_m3, pr_i_0, pr_i_1, pr_i_2, pr_i_3, pr_i_4, pr_i_m1] at h16
            exact absurd e8 h16
          · simp only [ab_cmp, pr_16_192, pr_8_11, pr_8_24, pr_8_8, pr_8_m3, pr_i_0, pr_i_1, pr_i_2, pr_i_3, pr_i_4, pr_i_m1] at h16
            first
            | contradiction
            | exact absurd trivial h16
            | exact absurd h16 (by decide)
            | exact absurd (Classical.not_not.mp h16) (by decide)
            | skip
              refine pr_seq (pc' := 21) 1 rfl ⟨trivial, trivial⟩ ?_
              try simp (disch := omega) only [c8, rS, rLs, rI_mul, nI_add, nI_1, nI_clamp, c24, c11, c192, pr_16_192, pr_8_11, pr_8_24, pr_8_8, pr_8_m3, pr_i_0, pr_i_1, pr_i_2, pr_i_3, pr_i_4, pr_i_m1]
              exact pr_irM rfl (by first | rfl | (simp (disch := omega) only [c8, rS, rLs, rI_mul, nI_add, nI_1, nI_clamp, c24, c11, c192, pr_16_192, pr_8_11, pr_8_24, pr_8_8, pr_8_m3, pr_i_0, pr_i_1, pr_i_2, pr_i_3, pr_i_4, pr_i_m1]; done) | (simp [pr_b, pr_16_192, pr_8_11, pr_8_24, pr_8_8, pr_8_m3, pr_i_0, pr_i_1, pr_i_2, pr_i_3, pr_i_4, pr_i_m1, *]; done) | (simp_all [pr_b, pr_16_192, pr_8_11, pr_8_24, pr_8_8, pr_8_m3, pr_i_0, pr_i_1, pr_i_2, pr_i_3, pr_i_4, pr_i_m1]; done)) trivial (by rfl)
      · simp only [ab_cmp, pr_16_192, pr_8_11, pr_8_24, pr_8_8, pr_8_m3, pr_i_0, pr_i_1, pr_i_2, pr_i_3, pr_i_4, pr_i_m1] at h5
        exact absurd (Classical.not_not.mp h5) (by decide)
/-- the land of a wedding -/
def wedL (d : Ld) (p q : Nat) : Ld := wOne (wOne d p ((d_pn d p).1, (d_pn d p).2.1, (d_pn d p).2.2.1, (d_pn d p).2.2.2 ++ (d_pn d q).2.2.2)) q ((d_pn d q).1, (d_pn d q).2.1, (d_pn d q).2.2.1, (d_pn d p).2.2.2 ++ (d_pn d q).2.2.2)
def wd_p (M : ab_M) (d : Ld) (p q : Nat) (r : Option Value) (M' : ab_M) : Prop := r = none ∧ M'.2 = M.2 ∧ pg_r (M'.1 173) (wedL d p q) ∧ (∀ a, a ≠ 173 → M'.1 a = M.1 a) ∧ ∀ j, 192 ≤ j → M'.1 173 j = M.1 173 j
theorem q_weds {d : Ld} {p q : Nat} (h : ab_H) (M : ab_M) (hl : rL h M.2.2) (hv : pg_r (M.1 173) d) (hp : p < d.2.1.length) (hq : q < d.2.1.length) (hpq : p ≠ q) (h20 : (d_pn d p).2.2.2.length + (d_pn d q).2.2.2.length ≤ 20) : pr_X pX11_weds [.ref 172, .int (nI p), .int (nI q)] h M (wd_p M d p q) := by
  obtain ⟨k172, rS, rLs, rKn, rPg, rRl, rRk, rTp, rCu, rLe, rLt, rSm, rIk, rLn, rLg, rCe, ⟨kS, nS⟩, ⟨kLs, nLs⟩, ⟨kKn, nKn⟩, ⟨kPg, nPg⟩, ⟨kRl, nRl⟩, ⟨kRk, nRk⟩, ⟨kTp, nTp⟩, ⟨kCu, nCu⟩, ⟨kLe, nLe⟩, ⟨kLt, nLt⟩, ⟨kSm, nSm⟩, ⟨kIk, nIk⟩, ⟨kLn, nLn⟩, ⟨kLg, nLg⟩, kCe, nCe⟩ := id hl
  obtain ⟨g1, g2, g3, g4, g5, ⟨g6, g6'⟩, g7, g8⟩ := id hv
  have hlp := q_longOf h M hl hv hp
  have hlq := q_longOf h M hl hv hq
  have hwl : wedL d p q = wOne (wOne d p ((d_pn d p).1, (d_pn d p).2.1, (d_pn d p).2.2.1, (d_pn d p).2.2.2 ++ (d_pn d q).2.2.2)) q ((d_pn d q).1, (d_pn d q).2.1, (d_pn d q).2.2.1, (d_pn d p).2.2.2 ++ (d_pn d q).2.2.2) := rfl
  unfold wd_p
  rw [hwl]
  clear hwl
  obtain ⟨y1, y2, y3, y4, y5, y6, y7, y8, y9⟩ := g8 p hp
  obtain ⟨x1, x2, x3, x4, x5, x6, x7, x8, x9⟩ := g8 q hq
  generalize (d_pn d p).2.2.2 = u at *
  generalize (d_pn d q).2.2.2 = w at *
  have gd : ∀ i, i < u.length + w.length → (u ++ w).getD i 0 < 26 := fun i hi => by
    by_cases e : i < u.length
    · rw [gd_l e]; exact (y9 i e).2
    · rw [gd_r (by omega)]; exact (x9 _ (by omega)).2
  have loop2 : ∀ dd k, k + dd = 21 → ∀ (I : Nat → Nat → Int32) (z5 : Int32), (∀ a, a ≠ 173 → I a = M.1 a) → (∀ i, (i < 24 * p + 3 ∨ 24 * p + 24 ≤ i) → (i < 24 * q + 3 ∨ 24 * q + 24 ≤ i) → I 173 i = M.1 173 i) → I 173 (24 * p + 3) = nI (u.length + w.length) → (∀ i, i < u.length + w.length → I 173 (24 * p + 4 + i) = nI ((u ++ w).getD i 0)) → (∀ i, i < k → I 173 (24 * q + 3 + i) = I 173 (24 * p + 3 + i)) → pr_T pX11_weds 77 [some (.ref 172), some (.int (nI p)), some (.int (nI q)), some (.int (nI u.length)), some (.int (nI w.length)), some (.int (nI k))] [] h (I, M.2) (fun r M' => r = none ∧ M'.2 = M.2 ∧ pg_r (M'.1 173) (wOne (wOne d p ((d_pn d p).1, (d_pn d p).2.1, (d_pn d p).2.2.1, u ++ w)) q ((d_pn d q).1, (d_pn d q).2.1, (d_pn d q).2.2.1, u ++ w)) ∧ (∀ a, a ≠ 173 → M'.1 a = M.1 a) ∧ ∀ j, 192 ≤ j → M'.1 173 j = M.1 173 j) := by
    intro dd
    induction dd with
    | zero =>
      intro k hk I z5 f1 f2 i3 i4 i5
      obtain rfl : k = 21 := by omega
      have e1 : nI 20 < nI 21 := nI_lt (by decide) (by decide)
      have hl2 : (u ++ w).length = u.length + w.length := List.length_append
      have hP : pn_r (I 173) (24 * p) ((d_pn d p).1, (d_pn d p).2.1, (d_pn d p).2.2.1, u ++ w) := ⟨by rw [f2 _ (by omega) (by omega)]; exact y1, y2, by rw [f2 _ (by omega) (by omega)]; exact y3, y4, by rw [f2 _ (by omega) (by omega)]; exact y5, y6, by show I 173 (24 * p + 3) = nI (u ++ w).length; rw [hl2]; exact i3, by show (u ++ w).length ≤ 20; omega, fun i hi => by have hi : i < (u ++ w).length := hi; exact ⟨i4 i (by omega), gd i (by omega)⟩⟩
      have hQ : pn_r (I 173) (24 * q) ((d_pn d q).1, (d_pn d q).2.1, (d_pn d q).2.2.1, u ++ w) := ⟨by rw [f2 _ (by omega) (by omega)]; exact x1, x2, by rw [f2 _ (by omega) (by omega)]; exact x3, x4, by rw [f2 _ (by omega) (by omega)]; exact x5, x6, by show I 173 (24 * q + 3) = nI (u ++ w).length; rw [hl2, ← i3]; exact i5 0 (by decide), by show (u ++ w).length ≤ 20; omega, fun i hi => by
        have hi : i < (u ++ w).length := hi
        have := i5 (i + 1) (by omega)
        rw [show 24 * q + 3 + (i + 1) = 24 * q + 4 + i by omega, show 24 * p + 3 + (i + 1) = 24 * p + 4 + i by omega] at this
        exact ⟨by rw [this]; exact i4 i (by omega), gd i (by omega)⟩⟩
      have hpg : pg_r (I 173) (wOne (wOne d p ((d_pn d p).1, (d_pn d p).2.1, (d_pn d p).2.2.1, u ++ w)) q ((d_pn d q).1, (d_pn d q).2.1, (d_pn d q).2.2.1, u ++ w)) := by
        refine pg_one (F := fun i => if 24 * q ≤ i ∧ i < 24 * q + 24 then M.1 173 i else I 173 i) (pg_one (F := M.1 173) hv hp (fun i b1 b2 => ?_) (pn_cong (fun i b1 b2 => ?_) hP)) (by rw [wOne_len]; exact hq) (fun i b1 b2 => ?_) hQ
        · show (if 24 * q ≤ i ∧ i < 24 * q + 24 then M.1 173 i else I 173 i) = _
          by_cases e : 24 * q ≤ i ∧ i < 24 * q + 24
          · rw [if_pos e]
          · rw [if_neg e]; exact f2 i (by omega) (by omega)
        · show (if 24 * q ≤ i ∧ i < 24 * q + 24 then M.1 173 i else I 173 i) = _
          rw [if_neg (by omega)]
        · show _ = (if 24 * q ≤ i ∧ i < 24 * q + 24 then M.1 173 i else I 173 i)
          rw [if_neg (by omega)]
      refine pr_seqT (pc' := 81) 2 rfl ⟨⟨trivial, trivial⟩, trivial⟩ ?_
      try simp (disch := omega) only [c20, rS, rI_mul, nI_add, nI_1, nI_clamp, c24, pr_8_20, pr_8_24, pr_i_0, pr_i_1, pr_i_3, pr_i_4]
      refine pr_icT rfl (fun h81 => ?_) (fun h81 => ?_)
      · simp only [ab_cmp, pr_8_20, pr_8_24, pr_i_0, pr_i_1, pr_i_3, pr_i_4] at h81
        first
        | contradiction
        | exact absurd trivial h81
        | exact absurd h81 (by decide)
        | exact absurd (Classical.not_not.mp h81) (by decide)
        | skip
          exact pr_vrT rfl rfl (by exact ⟨rfl, rfl, hpg, f1, fun i hi => f2 i (by omega) (by omega)⟩)
      · simp only [ab_cmp, pr_8_20, pr_8_24, pr_i_0, pr_i_1, pr_i_3, pr_i_4] at h81
        exact absurd e1 h81
    | succ dd ih =>
      intro k hk I z5 f1 f2 i3 i4 i5
      have e1 : ¬ nI 20 < nI k := nI_nlt (by omega) (by decide)
      have hh := ih (k + 1) (by omega) (ab_u I 173 (24 * q + 3 + k) (I 173 (24 * p + 3 + k))) z5 (fun a ha => by rw [ab_u_ne ha]; exact f1 a ha) (fun i b1 b2 => by rw [ab_u_j (by omega)]; exact f2 i b1 b2) (by rw [ab_u_j (by omega)]; exact i3) (fun i hi => by rw [ab_u_j (by omega)]; exact i4 i hi) (fun i hi => by
        rw [show ab_u I 173 (24 * q + 3 + k) (I 173 (24 * p + 3 + k)) 173 (24 * p + 3 + i) = I 173 (24 * p + 3 + i) from ab_u_j (by omega)]
        by_cases e : i = k
        · rw [e, ab_u_at]
        · rw [ab_u_j (by omega)]; exact i5 i (by omega))
      refine pr_seqT (pc' := 81) 2 rfl ⟨⟨trivial, trivial⟩, trivial⟩ ?_
      try simp (disch := omega) only [c20, c3, rS, rI_mul, nI_add, nI_1, nI_clamp, c24, pr_8_20, pr_8_24, pr_i_0, pr_i_1, pr_i_3, pr_i_4]
      refine pr_icT rfl (fun h81 => ?_) (fun h81 => ?_)
      · simp only [ab_cmp, pr_8_20, pr_8_24, pr_i_0, pr_i_1, pr_i_3, pr_i_4] at h81
        exact absurd h81 e1
      · simp only [ab_cmp, pr_8_20, pr_8_24, pr_i_0, pr_i_1, pr_i_3, pr_i_4] at h81
        first
        | contradiction
        | exact absurd trivial h81
        | exact absurd h81 (by decide)
        | exact absurd (Classical.not_not.mp h81) (by decide)
        | skip
          refine pr_seqT (pc' := 77) 22 rfl ⟨⟨⟨⟨⟨⟨⟨⟨⟨⟨⟨⟨⟨⟨⟨⟨⟨⟨⟨⟨⟨⟨trivial, (by first | decide | assumption)⟩, (by assumption)⟩, trivial⟩, trivial⟩, trivial⟩, trivial⟩, trivial⟩, trivial⟩, trivial⟩, (by first | decide | assumption)⟩, (by assumption)⟩, trivial⟩, trivial⟩, trivial⟩, trivial⟩, trivial⟩, trivial⟩, trivial⟩, (by simp (disch := omega) only [c20, c3, rS, rI_mul, nI_add, nI_1, nI_clamp, c24, pr_8_20, pr_8_24, pr_i_0, pr_i_1, pr_i_3, pr_i_4]; exact ⟨Or.inl (by assumption), rvin (by assumption) (by omega) (by decide)⟩)⟩, (by simp (disch := omega) only [c20, c3, rS, rI_mul, nI_add, nI_1, nI_clamp, c24, pr_8_20, pr_8_24, pr_i_0, pr_i_1, pr_i_3, pr_i_4]; exact ⟨by assumption, rvin (by assumption) (by omega) (by decide)⟩)⟩, trivial⟩, trivial⟩ ?_
          try simp (disch := omega) only [c20, c3, rS, rI_mul, nI_add, nI_1, nI_clamp, c24, pr_8_20, pr_8_24, pr_i_0, pr_i_1, pr_i_3, pr_i_4]
          exact hh
  have loop1 : ∀ dd k, k + dd = w.length → ∀ (I : Nat → Nat → Int32), (∀ a, a ≠ 173 → I a = M.1 a) → (∀ i, (i < 24 * p + 4 + u.length ∨ 24 * p + 24 ≤ i) → I 173 i = M.1 173 i) → (∀ i, i < k → I 173 (24 * p + 4 + u.length + i) = nI (w.getD i 0)) → pr_T pX11_weds 16 [some (.ref 172), some (.int (nI p)), some (.int (nI q)), some (.int (nI u.length)), some (.int (nI w.length)), some (.int (nI k))] [] h (I, M.2) (fun r M' => r = none ∧ M'.2 = M.2 ∧ pg_r (M'.1 173) (wOne (wOne d p ((d_pn d p).1, (d_pn d p).2.1, (d_pn d p).2.2.1, u ++ w)) q ((d_pn d q).1, (d_pn d q).2.1, (d_pn d q).2.2.1, u ++ w)) ∧ (∀ a, a ≠ 173 → M'.1 a = M.1 a) ∧ ∀ j, 192 ≤ j → M'.1 173 j = M.1 173 j) := by
    intro dd
    induction dd with
    | zero =>
      intro k hk I f1 f2 i4
      obtain rfl : k = w.length := by omega
      have e1 : nI w.length ≤ nI w.length := nI_le (Nat.le_refl _) (by omega)
      have h0 := loop2 21 0 (by omega) (ab_u I 173 (24 * p + 3) (nI (u.length + w.length))) 0 (fun a ha => by rw [ab_u_ne ha]; exact f1 a ha) (fun i b1 b2 => by rw [ab_u_j (by omega)]; exact f2 i (by omega)) ab_u_at (fun i hi => by
        rw [ab_u_j (by omega)]
        by_cases e : i < u.length
        · rw [f2 _ (by omega), gd_l e]; exact (y9 i e).1
        · have := i4 (i - u.length) (by omega)
          rw [show 24 * p + 4 + u.length + (i - u.length) = 24 * p + 4 + i by omega] at this
          rw [gd_r (by omega)]; exact this) (fun i hi => absurd hi (by omega))
      refine pr_seqT (pc' := 20) 2 rfl ⟨⟨trivial, trivial⟩, trivial⟩ ?_
      try simp (disch := omega) only [c3, rS, rI_mul, nI_add, nI_1, nI_clamp, c24, pr_8_20, pr_8_24, pr_i_0, pr_i_1, pr_i_3, pr_i_4]
      refine pr_icT rfl (fun h20 => ?_) (fun h20 => ?_)
      · simp only [ab_cmp, pr_8_20, pr_8_24, pr_i_0, pr_i_1, pr_i_3, pr_i_4] at h20
        first
        | contradiction
        | exact absurd trivial h20
        | exact absurd h20 (by decide)
        | exact absurd (Classical.not_not.mp h20) (by decide)
        | skip
          refine pr_seqT (pc' := 77) 13 rfl ⟨⟨⟨⟨⟨⟨⟨⟨⟨⟨⟨⟨⟨trivial, (by first | decide | assumption)⟩, (by assumption)⟩, trivial⟩, trivial⟩, trivial⟩, trivial⟩, trivial⟩, trivial⟩, trivial⟩, trivial⟩, (by simp (disch := omega) only [c3, rS, rI_mul, nI_add, nI_1, nI_clamp, c24, pr_8_20, pr_8_24, pr_i_0, pr_i_1, pr_i_3, pr_i_4]; exact ⟨by assumption, rvin (by assumption) (by omega) (by decide)⟩)⟩, trivial⟩, trivial⟩ ?_
          try simp (disch := omega) only [c3, rS, rI_mul, nI_add, nI_1, nI_clamp, c24, pr_8_20, pr_8_24, pr_i_0, pr_i_1, pr_i_3, pr_i_4]
          exact h0
      · simp only [ab_cmp, pr_8_20, pr_8_24, pr_i_0, pr_i_1, pr_i_3, pr_i_4] at h20
        exact absurd e1 h20
    | succ dd ih =>
      intro k hk I f1 f2 i4
      have e1 : ¬ nI w.length ≤ nI k := nI_ge (by omega) (by omega)
      have z : I 173 (24 * q + 4 + k) = nI (w.getD k 0) := by rw [f2 _ (by omega)]; exact (x9 k (by omega)).1
      have hh := ih (k + 1) (by omega) (ab_u I 173 (24 * p + 4 + u.length + k) (nI (w.getD k 0))) (fun a ha => by rw [ab_u_ne ha]; exact f1 a ha) (fun i b1 => by rw [ab_u_j (by omega)]; exact f2 i b1) (fun i hi => by
        by_cases e : i = k
        · rw [e, ab_u_at]
        · rw [ab_u_j (by omega)]; exact i4 i (by omega))
      refine pr_seqT (pc' := 20) 2 rfl ⟨⟨trivial, trivial⟩, trivial⟩ ?_
      try simp (disch := omega) only [c4, z, rS, rI_mul, nI_add, nI_1, nI_clamp, c24, pr_8_20, pr_8_24, pr_i_0, pr_i_1, pr_i_3, pr_i_4]
      refine pr_icT rfl (fun h20 => ?_) (fun h20 => ?_)
      · simp only [ab_cmp, pr_8_20, pr_8_24, pr_i_0, pr_i_1, pr_i_3, pr_i_4] at h20
        exact absurd h20 e1
      · simp only [ab_cmp, pr_8_20, pr_8_24, pr_i_0, pr_i_1, pr_i_3, pr_i_4] at h20
        first
        | contradiction
        | exact absurd trivial h20
        | exact absurd h20 (by decide)
        | exact absurd (Classical.not_not.mp h20) (by decide)
        | skip
          refine pr_seqT (pc' := 16) 24 rfl ⟨⟨⟨⟨⟨⟨⟨⟨⟨⟨⟨⟨⟨⟨⟨⟨⟨⟨⟨⟨⟨⟨⟨⟨trivial, (by first | decide | assumption)⟩, (by assumption)⟩, trivial⟩, trivial⟩, trivial⟩, trivial⟩, trivial⟩, trivial⟩, trivial⟩, trivial⟩, trivial⟩, (by first | decide | assumption)⟩, (by assumption)⟩, trivial⟩, trivial⟩, trivial⟩, trivial⟩, trivial⟩, trivial⟩, trivial⟩, (by simp (disch := omega) only [c4, z, rS, rI_mul, nI_add, nI_1, nI_clamp, c24, pr_8_20, pr_8_24, pr_i_0, pr_i_1, pr_i_3, pr_i_4]; exact ⟨Or.inl (by assumption), rvin (by assumption) (by omega) (by decide)⟩)⟩, (by simp (disch := omega) only [c4, z, rS, rI_mul, nI_add, nI_1, nI_clamp, c24, pr_8_20, pr_8_24, pr_i_0, pr_i_1, pr_i_3, pr_i_4]; exact ⟨by assumption, rvin (by assumption) (by omega) (by decide)⟩)⟩, trivial⟩, trivial⟩ ?_
          try simp (disch := omega) only [c4, z, rS, rI_mul, nI_add, nI_1, nI_clamp, c24, pr_8_20, pr_8_24, pr_i_0, pr_i_1, pr_i_3, pr_i_4]
          exact hh
  refine pr_seqT (pc' := 2) 2 rfl ⟨⟨trivial, (by first | decide | assumption)⟩, trivial⟩ ?_
  try simp (disch := omega) only [rS, rI_mul, nI_add, nI_1, nI_clamp, c24, pr_8_20, pr_8_24, pr_i_0, pr_i_1, pr_i_3, pr_i_4]
  refine pr_cvT [_] rfl rfl rfl rfl rfl (Nat.le_of_ble_eq_true rfl) (by first | assumption | decide | (simp (disch := omega) only [rS, rI_mul, nI_add, nI_1, nI_clamp, c24, pr_8_20, pr_8_24, pr_i_0, pr_i_1, pr_i_3, pr_i_4]; first | assumption | exact ⟨Or.inl (by assumption), rvin (by assumption) (by omega) (by decide)⟩ | exact ⟨by assumption, rvin (by assumption) (by omega) (by decide)⟩ | exact ⟨⟨by omega, by omega⟩, rvin (by assumption) (by omega) (by decide)⟩ | exact ⟨Or.inr (by assumption), rvin (by assumption) (by omega) (by decide)⟩ | exact ⟨Or.inr ⟨by assumption, (by first | exact Or.inl rfl | exact Or.inr rfl | exact pr_b01 _)⟩, rvin (by assumption) (by omega) (by decide)⟩ | exact ⟨by assumption, by assumption⟩ | decide | omega)) (Nat.le_of_ble_eq_true rfl) (hlp) ?_
  refine pr_seqT (pc' := 8) 3 rfl ⟨⟨⟨trivial, trivial⟩, (by first | decide | assumption)⟩, trivial⟩ ?_
  try simp (disch := omega) only [rS, rI_mul, nI_add, nI_1, nI_clamp, c24, pr_8_20, pr_8_24, pr_i_0, pr_i_1, pr_i_3, pr_i_4]
  refine pr_cvT [_] rfl rfl rfl rfl rfl (Nat.le_of_ble_eq_true rfl) (by first | assumption | decide | (simp (disch := omega) only [rS, rI_mul, nI_add, nI_1, nI_clamp, c24, pr_8_20, pr_8_24, pr_i_0, pr_i_1, pr_i_3, pr_i_4]; first | assumption | exact ⟨Or.inl (by assumption), rvin (by assumption) (by omega) (by decide)⟩ | exact ⟨by assumption, rvin (by assumption) (by omega) (by decide)⟩ | exact ⟨⟨by omega, by omega⟩, rvin (by assumption) (by omega) (by decide)⟩ | exact ⟨Or.inr (by assumption), rvin (by assumption) (by omega) (by decide)⟩ | exact ⟨Or.inr ⟨by assumption, (by first | exact Or.inl rfl | exact Or.inr rfl | exact pr_b01 _)⟩, rvin (by assumption) (by omega) (by decide)⟩ | exact ⟨by assumption, by assumption⟩ | decide | omega)) (Nat.le_of_ble_eq_true rfl) (hlq) ?_
  refine pr_seqT (pc' := 16) 3 rfl ⟨⟨⟨trivial, trivial⟩, trivial⟩, trivial⟩ ?_
  try simp (disch := omega) only [rS, rI_mul, nI_add, nI_1, nI_clamp, c24, pr_8_20, pr_8_24, pr_i_0, pr_i_1, pr_i_3, pr_i_4]
  exact loop1 w.length 0 (by omega) M.1 (fun _ _ => rfl) (fun _ _ => rfl) (fun i hi => absurd hi (by omega))
theorem r_wed {X : St} (x y : Int32) (h : ab_H) (M : ab_M) (hl : rL h M.2.2) (hv : rv M.1 X) : pr_X pX11_wed [.ref 172, .int x, .int y] h M (rp M (f_wed X x y)) := by
  obtain ⟨k172, rS, rLs, rKn, rPg, rRl, rRk, rTp, rCu, rLe, rLt, rSm, rIk, rLn, rLg, rCe, ⟨kS, nS⟩, ⟨kLs, nLs⟩, ⟨kKn, nKn⟩, ⟨kPg, nPg⟩, ⟨kRl, nRl⟩, ⟨kRk, nRk⟩, ⟨kTp, nTp⟩, ⟨kCu, nCu⟩, ⟨kLe, nLe⟩, ⟨kLt, nLt⟩, ⟨kSm, nSm⟩, ⟨kIk, nIk⟩, ⟨kLn, nLn⟩, ⟨kLg, nLg⟩, kCe, nCe⟩ := id hl
  have h8 : x_n X ≤ 8 := hv.1.2.1
  have h1 := q_isOne x h M hl hv.1
  have h2 := q_isOne y h M hl hv.1
  unfold f_wed
  rcases pr_ix x (show x_n X ≤ 1000000 by omega) with q | ⟨j, hj, rfl, q⟩
  · rw [show ixb x (x_n X) = false from q] at h1 ⊢
    refine pr_ofC ?_ (rp_s hv)
    refine pr_seq (pc' := 2) 2 rfl ⟨⟨trivial, (by first | assumption | decide | exact ⟨Or.inl (by assumption), by assumption⟩ | exact ⟨by assumption, by assumption⟩ | omega)⟩, trivial⟩ ?_
    refine pr_cv [_] rfl rfl rfl rfl rfl (Nat.le_of_ble_eq_true rfl) (by first | assumption | decide | exact ⟨Or.inl (by assumption), by assumption⟩ | exact ⟨by assumption, by assumption⟩ | omega) (Nat.le_of_ble_eq_true rfl) (h1) ?_
    refine pr_if rfl (fun h5 => ?_) (fun h5 => ?_)
    · simp only [ab_cmp, pr_8_20, pr_8_m2, pr_8_m3, pr_i_1, pr_i_m1] at h5
      first
      | contradiction
      | exact absurd trivial h5
      | exact absurd h5 (by decide)
      | exact absurd (Classical.not_not.mp h5) (by decide)
      | skip
        refine pr_seq (pc' := 22) 1 rfl ⟨trivial, trivial⟩ ?_
        exact pr_irM rfl (by first | rfl | (simp [pr_b, pr_8_20, pr_8_m2, pr_8_m3, pr_i_1, pr_i_m1, *]; done) | (simp_all [pr_b, pr_8_20, pr_8_m2, pr_8_m3, pr_i_1, pr_i_m1]; done)) trivial (by rfl)
    · simp only [ab_cmp, pr_8_20, pr_8_m2, pr_8_m3, pr_i_1, pr_i_m1] at h5
      exact absurd rfl h5
  · rw [show ixb (nI j) (x_n X) = true from q] at h1 ⊢
    rcases pr_ix y (show x_n X ≤ 1000000 by omega) with q2 | ⟨k, hk, rfl, q2⟩
    · rw [show ixb y (x_n X) = false from q2] at h2 ⊢
      refine pr_ofC ?_ (rp_s hv)
      refine pr_seq (pc' := 2) 2 rfl ⟨⟨trivial, (by first | assumption | decide | exact ⟨Or.inl (by assumption), by assumption⟩ | exact ⟨by assumption, by assumption⟩ | omega)⟩, trivial⟩ ?_
      refine pr_cv [_] rfl rfl rfl rfl rfl (Nat.le_of_ble_eq_true rfl) (by first | assumption | decide | exact ⟨Or.inl (by assumption), by assumption⟩ | exact ⟨by assumption, by assumption⟩ | omega) (Nat.le_of_ble_eq_true rfl) (h1) ?_
      refine pr_if rfl (fun h5 => ?_) (fun h5 => ?_)
      · simp only [ab_cmp, pr_8_20, pr_8_m2, pr_8_m3, pr_i_1, pr_i_m1] at h5
        exact absurd h5 (by decide)
      · simp only [ab_cmp, pr_8_20, pr_8_m2, pr_8_m3, pr_i_1, pr_i_m1] at h5
        first
        | contradiction
        | exact absurd trivial h5
        | exact absurd h5 (by decide)
        | exact absurd (Classical.not_not.mp h5) (by decide)
        | skip
          refine pr_seq (pc' := 10) 2 rfl ⟨⟨trivial, (by first | assumption | decide | exact ⟨Or.inl (by assumption), by assumption⟩ | exact ⟨by assumption, by assumption⟩ | omega)⟩, trivial⟩ ?_
          refine pr_cv [_] rfl rfl rfl rfl rfl (Nat.le_of_ble_eq_true rfl) (by first | assumption | decide | exact ⟨Or.inl (by assumption), by assumption⟩ | exact ⟨by assumption, by assumption⟩ | omega) (Nat.le_of_ble_eq_true rfl) (h2) ?_
          refine pr_if rfl (fun h13 => ?_) (fun h13 => ?_)
          · simp only [ab_cmp, pr_8_20, pr_8_m2, pr_8_m3, pr_i_1, pr_i_m1] at h13
            first
            | contradiction
            | exact absurd trivial h13
            | exact absurd h13 (by decide)
            | exact absurd (Classical.not_not.mp h13) (by decide)
            | skip
              refine pr_seq (pc' := 22) 1 rfl ⟨trivial, trivial⟩ ?_
              exact pr_irM rfl (by first | rfl | (simp [pr_b, pr_8_20, pr_8_m2, pr_8_m3, pr_i_1, pr_i_m1, *]; done) | (simp_all [pr_b, pr_8_20, pr_8_m2, pr_8_m3, pr_i_1, pr_i_m1]; done)) trivial (by rfl)
          · simp only [ab_cmp, pr_8_20, pr_8_m2, pr_8_m3, pr_i_1, pr_i_m1] at h13
            exact absurd rfl h13
    · rw [show ixb (nI k) (x_n X) = true from q2] at h2 ⊢
      have hj' : j < X.1.1.2.1.length := hj
      have hk' : k < X.1.1.2.1.length := hk
      by_cases ejk : j = k
      · subst ejk
        rw [if_neg (by simp)]
        refine pr_ofC ?_ (rp_s hv)
        refine pr_seq (pc' := 2) 2 rfl ⟨⟨trivial, (by first | assumption | decide | exact ⟨Or.inl (by assumption), by assumption⟩ | exact ⟨by assumption, by assumption⟩ | omega)⟩, trivial⟩ ?_
        refine pr_cv [_] rfl rfl rfl rfl rfl (Nat.le_of_ble_eq_true rfl) (by first | assumption | decide | exact ⟨Or.inl (by assumption), by assumption⟩ | exact ⟨by assumption, by assumption⟩ | omega) (Nat.le_of_ble_eq_true rfl) (h1) ?_
        refine pr_if rfl (fun h5 => ?_) (fun h5 => ?_)
        · simp only [ab_cmp, pr_8_20, pr_8_m2, pr_8_m3, pr_i_1, pr_i_m1] at h5
          exact absurd h5 (by decide)
        · simp only [ab_cmp, pr_8_20, pr_8_m2, pr_8_m3, pr_i_1, pr_i_m1] at h5
          first
          | contradiction
          | exact absurd trivial h5
          | exact absurd h5 (by decide)
          | exact absurd (Classical.not_not.mp h5) (by decide)
          | skip
            refine pr_seq (pc' := 10) 2 rfl ⟨⟨trivial, (by first | assumption | decide | exact ⟨Or.inl (by assumption), by assumption⟩ | exact ⟨by assumption, by assumption⟩ | omega)⟩, trivial⟩ ?_
            refine pr_cv [_] rfl rfl rfl rfl rfl (Nat.le_of_ble_eq_true rfl) (by first | assumption | decide | exact ⟨Or.inl (by assumption), by assumption⟩ | exact ⟨by assumption, by assumption⟩ | omega) (Nat.le_of_ble_eq_true rfl) (h2) ?_
            refine pr_if rfl (fun h13 => ?_) (fun h13 => ?_)
            · simp only [ab_cmp, pr_8_20, pr_8_m2, pr_8_m3, pr_i_1, pr_i_m1] at h13
              exact absurd h13 (by decide)
            · simp only [ab_cmp, pr_8_20, pr_8_m2, pr_8_m3, pr_i_1, pr_i_m1] at h13
              first
              | contradiction
              | exact absurd trivial h13
              | exact absurd h13 (by decide)
              | exact absurd (Classical.not_not.mp h13) (by decide)
              | skip
                refine pr_seq (pc' := 18) 2 rfl ⟨⟨trivial, trivial⟩, trivial⟩ ?_
                refine pr_ic rfl (fun h18 => ?_) (fun h18 => ?_)
                · simp only [ab_cmp, pr_8_20, pr_8_m2, pr_8_m3, pr_i_1, pr_i_m1] at h18
                  exact absurd trivial h18
                · simp only [ab_cmp, pr_8_20, pr_8_m2, pr_8_m3, pr_i_1, pr_i_m1] at h18
                  first
                  | contradiction
                  | exact absurd trivial h18
                  | exact absurd h18 (by decide)
                  | exact absurd (Classical.not_not.mp h18) (by decide)
                  | skip
                    refine pr_seq (pc' := 22) 1 rfl ⟨trivial, trivial⟩ ?_
                    exact pr_irM rfl (by first | rfl | (simp [pr_b, pr_8_20, pr_8_m2, pr_8_m3, pr_i_1, pr_i_m1, *]; done) | (simp_all [pr_b, pr_8_20, pr_8_m2, pr_8_m3, pr_i_1, pr_i_m1]; done)) trivial (by rfl)
      · have e1 : ¬ nI j = nI k := nI_ne ejk (by omega) (by omega)
        rw [if_pos (by rw [decide_eq_true e1]; rfl), nI_clamp (by omega), nI_clamp (by omega)]
        have b1 := (hv.1.2.2.2.2.2.2.2 j hj').2.1
        have b2 := (hv.1.2.2.2.2.2.2.2 k hk').2.1
        have b3 := (hv.1.2.2.2.2.2.2.2 j hj').2.2.2.2.2.2.2.1
        have b4 := (hv.1.2.2.2.2.2.2.2 k hk').2.2.2.2.2.2.2.1
        have hkj := q_kindOf h M hl hv.1 hj'
        have hkk := q_kindOf h M hl hv.1 hk'
        have hlj := q_longOf h M hl hv.1 hj'
        have hlk := q_longOf h M hl hv.1 hk'
        by_cases kj : (d_pn X.1.1 j).1 = 1
        · rw [if_pos (Or.inl kj)]
          have z : nI (d_pn X.1.1 j).1 = 1 := by rw [kj]; rfl
          refine pr_ofC ?_ (rp_s hv)
          refine pr_seq (pc' := 2) 2 rfl ⟨⟨trivial, (by first | assumption | decide | exact ⟨Or.inl (by assumption), by assumption⟩ | exact ⟨by assumption, by assumption⟩ | omega)⟩, trivial⟩ ?_
          refine pr_cv [_] rfl rfl rfl rfl rfl (Nat.le_of_ble_eq_true rfl) (by first | assumption | decide | exact ⟨Or.inl (by assumption), by assumption⟩ | exact ⟨by assumption, by assumption⟩ | omega) (Nat.le_of_ble_eq_true rfl) (h1) ?_
          refine pr_if rfl (fun h5 => ?_) (fun h5 => ?_)
          · simp only [ab_cmp, pr_8_20, pr_8_m2, pr_8_m3, pr_i_1, pr_i_m1] at h5
            exact absurd h5 (by decide)
          · simp only [ab_cmp, pr_8_20, pr_8_m2, pr_8_m3, pr_i_1, pr_i_m1] at h5
            first
            | contradiction
            | exact absurd trivial h5
            | exact absurd h5 (by decide)
            | exact absurd (Classical.not_not.mp h5) (by decide)
            | skip
              refine pr_seq (pc' := 10) 2 rfl ⟨⟨trivial, (by first | assumption | decide | exact ⟨Or.inl (by assumption), by assumption⟩ | exact ⟨by assumption, by assumption⟩ | omega)⟩, trivial⟩ ?_
              refine pr_cv [_] rfl rfl rfl rfl rfl (Nat.le_of_ble_eq_true rfl) (by first | assumption | decide | exact ⟨Or.inl (by assumption), by assumption⟩ | exact ⟨by assumption, by assumption⟩ | omega) (Nat.le_of_ble_eq_true rfl) (h2) ?_
              refine pr_if rfl (fun h13 => ?_) (fun h13 => ?_)
              · simp only [ab_cmp, pr_8_20, pr_8_m2, pr_8_m3, pr_i_1, pr_i_m1] at h13
                exact absurd h13 (by decide)
              · simp only [ab_cmp, pr_8_20, pr_8_m2, pr_8_m3, pr_i_1, pr_i_m1] at h13
                first
                | contradiction
                | exact absurd trivial h13
                | exact absurd h13 (by decide)
                | exact absurd (Classical.not_not.mp h13) (by decide)
                | skip
                  refine pr_seq (pc' := 18) 2 rfl ⟨⟨trivial, trivial⟩, trivial⟩ ?_
                  refine pr_ic rfl (fun h18 => ?_) (fun h18 => ?_)
                  · simp only [ab_cmp, pr_8_20, pr_8_m2, pr_8_m3, pr_i_1, pr_i_m1] at h18
                    first
                    | contradiction
                    | exact absurd trivial h18
                    | exact absurd h18 (by decide)
                    | exact absurd (Classical.not_not.mp h18) (by decide)
                    | skip
                      refine pr_seq (pc' := 25) 2 rfl ⟨⟨trivial, (by first | assumption | decide | exact ⟨Or.inl (by assumption), by assumption⟩ | exact ⟨by assumption, by assumption⟩ | omega)⟩, trivial⟩ ?_
                      refine pr_cv [_] rfl rfl rfl rfl rfl (Nat.le_of_ble_eq_true rfl) (by first | assumption | decide | exact ⟨Or.inl (by assumption), by assumption⟩ | exact ⟨by assumption, by assumption⟩ | omega) (Nat.le_of_ble_eq_true rfl) (hkj) ?_
                      refine pr_seq (pc' := 29) 1 rfl ⟨trivial, trivial⟩ ?_
                      refine pr_ic rfl (fun h29 => ?_) (fun h29 => ?_)
                      · simp only [ab_cmp, pr_8_20, pr_8_m2, pr_8_m3, pr_i_1, pr_i_m1] at h29
                        first
                        | contradiction
                        | exact absurd trivial h29
                        | exact absurd h29 (by decide)
                        | exact absurd (Classical.not_not.mp h29) (by decide)
                        | skip
                          refine pr_seq (pc' := 43) 1 rfl ⟨trivial, trivial⟩ ?_
                          exact pr_irM rfl (by first | rfl | (simp [pr_b, pr_8_20, pr_8_m2, pr_8_m3, pr_i_1, pr_i_m1, *]; done) | (simp_all [pr_b, pr_8_20, pr_8_m2, pr_8_m3, pr_i_1, pr_i_m1]; done)) trivial (by rfl)
                      · simp only [ab_cmp, pr_8_20, pr_8_m2, pr_8_m3, pr_i_1, pr_i_m1] at h29
                        exact absurd z h29
                  · simp only [ab_cmp, pr_8_20, pr_8_m2, pr_8_m3, pr_i_1, pr_i_m1] at h18
                    exact absurd (Classical.not_not.mp h18) e1
        · have z : ¬ nI (d_pn X.1.1 j).1 = 1 := nI_ne (b := 1) kj (by omega) (by decide)
          by_cases kk : (d_pn X.1.1 k).1 = 1
          · rw [if_pos (Or.inr kk)]
            have z2 : nI (d_pn X.1.1 k).1 = 1 := by rw [kk]; rfl
            refine pr_ofC ?_ (rp_s hv)
            refine pr_seq (pc' := 2) 2 rfl ⟨⟨trivial, (by first | assumption | decide | exact ⟨Or.inl (by assumption), by assumption⟩ | exact ⟨by assumption, by assumption⟩ | omega)⟩, trivial⟩ ?_
            refine pr_cv [_] rfl rfl rfl rfl rfl (Nat.le_of_ble_eq_true rfl) (by first | assumption | decide | exact ⟨Or.inl (by assumption), by assumption⟩ | exact ⟨by assumption, by assumption⟩ | omega) (Nat.le_of_ble_eq_true rfl) (h1) ?_
            refine pr_if rfl (fun h5 => ?_) (fun h5 => ?_)
            · simp only [ab_cmp, pr_8_20, pr_8_m2, pr_8_m3, pr_i_1, pr_i_m1] at h5
              exact absurd h5 (by decide)
            · simp only [ab_cmp, pr_8_20, pr_8_m2, pr_8_m3, pr_i_1, pr_i_m1] at h5
              first
              | contradiction
              | exact absurd trivial h5
              | exact absurd h5 (by decide)
              | exact absurd (Classical.not_not.mp h5) (by decide)
              | skip
                refine pr_seq (pc' := 10) 2 rfl ⟨⟨trivial, (by first | assumption | decide | exact ⟨Or.inl (by assumption), by assumption⟩ | exact ⟨by assumption, by assumption⟩ | omega)⟩, trivial⟩ ?_
                refine pr_cv [_] rfl rfl rfl rfl rfl (Nat.le_of_ble_eq_true rfl) (by first | assumption | decide | exact ⟨Or.inl (by assumption), by assumption⟩ | exact ⟨by assumption, by assumption⟩ | omega) (Nat.le_of_ble_eq_true rfl) (h2) ?_
                refine pr_if rfl (fun h13 => ?_) (fun h13 => ?_)
                · simp only [ab_cmp, pr_8_20, pr_8_m2, pr_8_m3, pr_i_1, pr_i_m1] at h13
                  exact absurd h13 (by decide)
                · simp only [ab_cmp, pr_8_20, pr_8_m2, pr_8_m3, pr_i_1, pr_i_m1] at h13
                  first
                  | contradiction
                  | exact absurd trivial h13
                  | exact absurd h13 (by decide)
                  | exact absurd (Classical.not_not.mp h13) (by decide)
                  | skip
                    refine pr_seq (pc' := 18) 2 rfl ⟨⟨trivial, trivial⟩, trivial⟩ ?_
                    refine pr_ic rfl (fun h18 => ?_) (fun h18 => ?_)
                    · simp only [ab_cmp, pr_8_20, pr_8_m2, pr_8_m3, pr_i_1, pr_i_m1] at h18
                      first
                      | contradiction
                      | exact absurd trivial h18
                      | exact absurd h18 (by decide)
                      | exact absurd (Classical.not_not.mp h18) (by decide)
                      | skip
                        refine pr_seq (pc' := 25) 2 rfl ⟨⟨trivial, (by first | assumption | decide | exact ⟨Or.inl (by assumption), by assumption⟩ | exact ⟨by assumption, by assumption⟩ | omega)⟩, trivial⟩ ?_
                        refine pr_cv [_] rfl rfl rfl rfl rfl (Nat.le_of_ble_eq_true rfl) (by first | assumption | decide | exact ⟨Or.inl (by assumption), by assumption⟩ | exact ⟨by assumption, by assumption⟩ | omega) (Nat.le_of_ble_eq_true rfl) (hkj) ?_
                        refine pr_seq (pc' := 29) 1 rfl ⟨trivial, trivial⟩ ?_
                        refine pr_ic rfl (fun h29 => ?_) (fun h29 => ?_)
                        · simp only [ab_cmp, pr_8_20, pr_8_m2, pr_8_m3, pr_i_1, pr_i_m1] at h29
                          exact absurd h29 z
                        · simp only [ab_cmp, pr_8_20, pr_8_m2, pr_8_m3, pr_i_1, pr_i_m1] at h29
                          first
                          | contradiction
                          | exact absurd trivial h29
                          | exact absurd h29 (by decide)
                          | exact absurd (Classical.not_not.mp h29) (by decide)
                          | skip
                            refine pr_seq (pc' := 34) 2 rfl ⟨⟨trivial, (by first | assumption | decide | exact ⟨Or.inl (by assumption), by assumption⟩ | exact ⟨by assumption, by assumption⟩ | omega)⟩, trivial⟩ ?_
                            refine pr_cv [_] rfl rfl rfl rfl rfl (Nat.le_of_ble_eq_true rfl) (by first | assumption | decide | exact ⟨Or.inl (by assumption), by assumption⟩ | exact ⟨by assumption, by assumption⟩ | omega) (Nat.le_of_ble_eq_true rfl) (hkk) ?_
                            refine pr_seq (pc' := 38) 1 rfl ⟨trivial, trivial⟩ ?_
                            refine pr_ic rfl (fun h38 => ?_) (fun h38 => ?_)
                            · simp only [ab_cmp, pr_8_20, pr_8_m2, pr_8_m3, pr_i_1, pr_i_m1] at h38
                              exact absurd z2 h38
                            · simp only [ab_cmp, pr_8_20, pr_8_m2, pr_8_m3, pr_i_1, pr_i_m1] at h38
                              first
                              | contradiction
                              | exact absurd trivial h38
                              | exact absurd h38 (by decide)
                              | exact absurd (Classical.not_not.mp h38) (by decide)
                              | skip
                                refine pr_seq (pc' := 43) 1 rfl ⟨trivial, trivial⟩ ?_
                                exact pr_irM rfl (by first | rfl | (simp [pr_b, pr_8_20, pr_8_m2, pr_8_m3, pr_i_1, pr_i_m1, *]; done) | (simp_all [pr_b, pr_8_20, pr_8_m2, pr_8_m3, pr_i_1, pr_i_m1]; done)) trivial (by rfl)
                    · simp only [ab_cmp, pr_8_20, pr_8_m2, pr_8_m3, pr_i_1, pr_i_m1] at h18
                      exact absurd (Classical.not_not.mp h18) e1
          · have z2 : ¬ nI (d_pn X.1.1 k).1 = 1 := nI_ne (b := 1) kk (by omega) (by decide)
            rw [if_neg (fun q => q.elim kj kk)]
            by_cases c20 : (d_pn X.1.1 j).2.2.2.length + (d_pn X.1.1 k).2.2.2.length ≤ 20
            · rw [if_pos c20]
              have z3 : nI ((d_pn X.1.1 j).2.2.2.length + (d_pn X.1.1 k).2.2.2.length) ≤ nI 20 := nI_le c20 (by decide)
              have hw := q_weds h M hl hv.1 hj' hk' ejk c20
              have n20 : (20 : Int32) = nI 20 := rfl
              have hS : d_S (wedL X.1.1 j k) j = a_sum X.1.1.1 X.1.1.2.2.1 (x_pn X j).1 ((x_pn X j).2.2.2 ++ (x_pn X k).2.2.2) := by
                unfold d_S wedL
                rw [d_pn_set (by rw [wOne_len]; exact hk'), if_neg (fun q => ejk q.symm), d_pn_set hj', if_pos rfl]
                rfl
              refine pr_seqT (pc' := 2) 2 rfl ⟨⟨trivial, (by first | decide | assumption)⟩, trivial⟩ ?_
              try simp (disch := omega) only [n20, rI_mul, nI_add, nI_1, nI_clamp, pr_8_20, pr_8_m2, pr_8_m3, pr_i_1, pr_i_m1]
              refine pr_cvT [_] rfl rfl rfl rfl rfl (Nat.le_of_ble_eq_true rfl) (by first | assumption | decide | (simp (disch := omega) only [n20, rI_mul, nI_add, nI_1, nI_clamp, pr_8_20, pr_8_m2, pr_8_m3, pr_i_1, pr_i_m1]; first | assumption | exact ⟨Or.inl (by assumption), rvin (by assumption) (by omega) (by decide)⟩ | exact ⟨by assumption, rvin (by assumption) (by omega) (by decide)⟩ | exact ⟨⟨by omega, by omega⟩, rvin (by assumption) (by omega) (by decide)⟩ | exact ⟨Or.inr (by assumption), rvin (by assumption) (by omega) (by decide)⟩ | exact ⟨Or.inr ⟨by assumption, (by first | exact Or.inl rfl | exact Or.inr rfl | exact pr_b01 _)⟩, rvin (by assumption) (by omega) (by decide)⟩ | exact ⟨by assumption, by assumption⟩ | decide | omega)) (Nat.le_of_ble_eq_true rfl) (h1) ?_
              refine pr_ifT rfl (fun h5 => ?_) (fun h5 => ?_)
              · simp only [ab_cmp, pr_8_20, pr_8_m2, pr_8_m3, pr_i_1, pr_i_m1] at h5
                exact absurd h5 (by decide)
              · simp only [ab_cmp, pr_8_20, pr_8_m2, pr_8_m3, pr_i_1, pr_i_m1] at h5
                first
                | contradiction
                | exact absurd trivial h5
                | exact absurd h5 (by decide)
                | exact absurd (Classical.not_not.mp h5) (by decide)
                | skip
                  refine pr_seqT (pc' := 10) 2 rfl ⟨⟨trivial, (by first | decide | assumption)⟩, trivial⟩ ?_
                  try simp (disch := omega) only [n20, rI_mul, nI_add, nI_1, nI_clamp, pr_8_20, pr_8_m2, pr_8_m3, pr_i_1, pr_i_m1]
                  refine pr_cvT [_] rfl rfl rfl rfl rfl (Nat.le_of_ble_eq_true rfl) (by first | assumption | decide | (simp (disch := omega) only [n20, rI_mul, nI_add, nI_1, nI_clamp, pr_8_20, pr_8_m2, pr_8_m3, pr_i_1, pr_i_m1]; first | assumption | exact ⟨Or.inl (by assumption), rvin (by assumption) (by omega) (by decide)⟩ | exact ⟨by assumption, rvin (by assumption) (by omega) (by decide)⟩ | exact ⟨⟨by omega, by omega⟩, rvin (by assumption) (by omega) (by decide)⟩ | exact ⟨Or.inr (by assumption), rvin (by assumption) (by omega) (by decide)⟩ | exact ⟨Or.inr ⟨by assumption, (by first | exact Or.inl rfl | exact Or.inr rfl | exact pr_b01 _)⟩, rvin (by assumption) (by omega) (by decide)⟩ | exact ⟨by assumption, by assumption⟩ | decide | omega)) (Nat.le_of_ble_eq_true rfl) (h2) ?_
                  refine pr_ifT rfl (fun h13 => ?_) (fun h13 => ?_)
                  · simp only [ab_cmp, pr_8_20, pr_8_m2, pr_8_m3, pr_i_1, pr_i_m1] at h13
                    exact absurd h13 (by decide)
                  · simp only [ab_cmp, pr_8_20, pr_8_m2, pr_8_m3, pr_i_1, pr_i_m1] at h13
                    first
                    | contradiction
                    | exact absurd trivial h13
                    | exact absurd h13 (by decide)
                    | exact absurd (Classical.not_not.mp h13) (by decide)
                    | skip
                      refine pr_seqT (pc' := 18) 2 rfl ⟨⟨trivial, trivial⟩, trivial⟩ ?_
                      try simp (disch := omega) only [n20, rI_mul, nI_add, nI_1, nI_clamp, pr_8_20, pr_8_m2, pr_8_m3, pr_i_1, pr_i_m1]
                      refine pr_icT rfl (fun h18 => ?_) (fun h18 => ?_)
                      · simp only [ab_cmp, pr_8_20, pr_8_m2, pr_8_m3, pr_i_1, pr_i_m1] at h18
                        first
                        | contradiction
                        | exact absurd trivial h18
                        | exact absurd h18 (by decide)
                        | exact absurd (Classical.not_not.mp h18) (by decide)
                        | skip
                          refine pr_seqT (pc' := 25) 2 rfl ⟨⟨trivial, (by first | decide | assumption)⟩, trivial⟩ ?_
                          try simp (disch := omega) only [n20, rI_mul, nI_add, nI_1, nI_clamp, pr_8_20, pr_8_m2, pr_8_m3, pr_i_1, pr_i_m1]
                          refine pr_cvT [_] rfl rfl rfl rfl rfl (Nat.le_of_ble_eq_true rfl) (by first | assumption | decide | (simp (disch := omega) only [n20, rI_mul, nI_add, nI_1, nI_clamp, pr_8_20, pr_8_m2, pr_8_m3, pr_i_1, pr_i_m1]; first | assumption | exact ⟨Or.inl (by assumption), rvin (by assumption) (by omega) (by decide)⟩ | exact ⟨by assumption, rvin (by assumption) (by omega) (by decide)⟩ | exact ⟨⟨by omega, by omega⟩, rvin (by assumption) (by omega) (by decide)⟩ | exact ⟨Or.inr (by assumption), rvin (by assumption) (by omega) (by decide)⟩ | exact ⟨Or.inr ⟨by assumption, (by first | exact Or.inl rfl | exact Or.inr rfl | exact pr_b01 _)⟩, rvin (by assumption) (by omega) (by decide)⟩ | exact ⟨by assumption, by assumption⟩ | decide | omega)) (Nat.le_of_ble_eq_true rfl) (hkj) ?_
                          refine pr_seqT (pc' := 29) 1 rfl ⟨trivial, trivial⟩ ?_
                          try simp (disch := omega) only [n20, rI_mul, nI_add, nI_1, nI_clamp, pr_8_20, pr_8_m2, pr_8_m3, pr_i_1, pr_i_m1]
                          refine pr_icT rfl (fun h29 => ?_) (fun h29 => ?_)
                          · simp only [ab_cmp, pr_8_20, pr_8_m2, pr_8_m3, pr_i_1, pr_i_m1] at h29
                            exact absurd h29 z
                          · simp only [ab_cmp, pr_8_20, pr_8_m2, pr_8_m3, pr_i_1, pr_i_m1] at h29
                            first
                            | contradiction
                            | exact absurd trivial h29
                            | exact absurd h29 (by decide)
                            | exact absurd (Classical.not_not.mp h29) (by decide)
                            | skip
                              refine pr_seqT (pc' := 34) 2 rfl ⟨⟨trivial, (by first | decide | assumption)⟩, trivial⟩ ?_
                              try simp (disch := omega) only [n20, rI_mul, nI_add, nI_1, nI_clamp, pr_8_20, pr_8_m2, pr_8_m3, pr_i_1, pr_i_m1]
                              refine pr_cvT [_] rfl rfl rfl rfl rfl (Nat.le_of_ble_eq_true rfl) (by first | assumption | decide | (simp (disch := omega) only [n20, rI_mul, nI_add, nI_1, nI_clamp, pr_8_20, pr_8_m2, pr_8_m3, pr_i_1, pr_i_m1]; first | assumption | exact ⟨Or.inl (by assumption), rvin (by assumption) (by omega) (by decide)⟩ | exact ⟨by assumption, rvin (by assumption) (by omega) (by decide)⟩ | exact ⟨⟨by omega, by omega⟩, rvin (by assumption) (by omega) (by decide)⟩ | exact ⟨Or.inr (by assumption), rvin (by assumption) (by omega) (by decide)⟩ | exact ⟨Or.inr ⟨by assumption, (by first | exact Or.inl rfl | exact Or.inr rfl | exact pr_b01 _)⟩, rvin (by assumption) (by omega) (by decide)⟩ | exact ⟨by assumption, by assumption⟩ | decide | omega)) (Nat.le_of_ble_eq_true rfl) (hkk) ?_
                              refine pr_seqT (pc' := 38) 1 rfl ⟨trivial, trivial⟩ ?_
                              try simp (disch := omega) only [n20, rI_mul, nI_add, nI_1, nI_clamp, pr_8_20, pr_8_m2, pr_8_m3, pr_i_1, pr_i_m1]
                              refine pr_icT rfl (fun h38 => ?_) (fun h38 => ?_)
                              · simp only [ab_cmp, pr_8_20, pr_8_m2, pr_8_m3, pr_i_1, pr_i_m1] at h38
                                first
                                | contradiction
                                | exact absurd trivial h38
                                | exact absurd h38 (by decide)
                                | exact absurd (Classical.not_not.mp h38) (by decide)
                                | skip
                                  refine pr_seqT (pc' := 46) 2 rfl ⟨⟨trivial, (by first | decide | assumption)⟩, trivial⟩ ?_
                                  try simp (disch := omega) only [n20, rI_mul, nI_add, nI_1, nI_clamp, pr_8_20, pr_8_m2, pr_8_m3, pr_i_1, pr_i_m1]
                                  refine pr_cvT [_] rfl rfl rfl rfl rfl (Nat.le_of_ble_eq_true rfl) (by first | assumption | decide | (simp (disch := omega) only [n20, rI_mul, nI_add, nI_1, nI_clamp, pr_8_20, pr_8_m2, pr_8_m3, pr_i_1, pr_i_m1]; first | assumption | exact ⟨Or.inl (by assumption), rvin (by assumption) (by omega) (by decide)⟩ | exact ⟨by assumption, rvin (by assumption) (by omega) (by decide)⟩ | exact ⟨⟨by omega, by omega⟩, rvin (by assumption) (by omega) (by decide)⟩ | exact ⟨Or.inr (by assumption), rvin (by assumption) (by omega) (by decide)⟩ | exact ⟨Or.inr ⟨by assumption, (by first | exact Or.inl rfl | exact Or.inr rfl | exact pr_b01 _)⟩, rvin (by assumption) (by omega) (by decide)⟩ | exact ⟨by assumption, by assumption⟩ | decide | omega)) (Nat.le_of_ble_eq_true rfl) (hlj) ?_
                                  refine pr_seqT (pc' := 51) 2 rfl ⟨⟨trivial, (by first | decide | assumption)⟩, trivial⟩ ?_
                                  try simp (disch := omega) only [n20, rI_mul, nI_add, nI_1, nI_clamp, pr_8_20, pr_8_m2, pr_8_m3, pr_i_1, pr_i_m1]
                                  refine pr_cvT [_] rfl rfl rfl rfl rfl (Nat.le_of_ble_eq_true rfl) (by first | assumption | decide | (simp (disch := omega) only [n20, rI_mul, nI_add, nI_1, nI_clamp, pr_8_20, pr_8_m2, pr_8_m3, pr_i_1, pr_i_m1]; first | assumption | exact ⟨Or.inl (by assumption), rvin (by assumption) (by omega) (by decide)⟩ | exact ⟨by assumption, rvin (by assumption) (by omega) (by decide)⟩ | exact ⟨⟨by omega, by omega⟩, rvin (by assumption) (by omega) (by decide)⟩ | exact ⟨Or.inr (by assumption), rvin (by assumption) (by omega) (by decide)⟩ | exact ⟨Or.inr ⟨by assumption, (by first | exact Or.inl rfl | exact Or.inr rfl | exact pr_b01 _)⟩, rvin (by assumption) (by omega) (by decide)⟩ | exact ⟨by assumption, by assumption⟩ | decide | omega)) (Nat.le_of_ble_eq_true rfl) (hlk) ?_
                                  refine pr_seqT (pc' := 57) 2 rfl ⟨⟨trivial, trivial⟩, trivial⟩ ?_
                                  try simp (disch := omega) only [n20, rI_mul, nI_add, nI_1, nI_clamp, pr_8_20, pr_8_m2, pr_8_m3, pr_i_1, pr_i_m1]
                                  refine pr_icT rfl (fun h57 => ?_) (fun h57 => ?_)
                                  · simp only [ab_cmp, pr_8_20, pr_8_m2, pr_8_m3, pr_i_1, pr_i_m1] at h57
                                    first
                                    | contradiction
                                    | exact absurd trivial h57
                                    | exact absurd h57 (by decide)
                                    | exact absurd (Classical.not_not.mp h57) (by decide)
                                    | skip
                                      refine pr_seqT (pc' := 66) 3 rfl ⟨⟨⟨trivial, (by first | decide | assumption)⟩, trivial⟩, trivial⟩ ?_
                                      try simp (disch := omega) only [n20, rI_mul, nI_add, nI_1, nI_clamp, pr_8_20, pr_8_m2, pr_8_m3, pr_i_1, pr_i_m1]
                                      refine pr_cvX [_, _] rfl rfl rfl rfl rfl (Nat.le_of_ble_eq_true rfl) (by first | assumption | decide | (simp (disch := omega) only [n20, rI_mul, nI_add, nI_1, nI_clamp, pr_8_20, pr_8_m2, pr_8_m3, pr_i_1, pr_i_m1]; first | assumption | exact ⟨Or.inl (by assumption), rvin (by assumption) (by omega) (by decide)⟩ | exact ⟨by assumption, rvin (by assumption) (by omega) (by decide)⟩ | exact ⟨⟨by omega, by omega⟩, rvin (by assumption) (by omega) (by decide)⟩ | exact ⟨Or.inr (by assumption), rvin (by assumption) (by omega) (by decide)⟩ | exact ⟨Or.inr ⟨by assumption, (by first | exact Or.inl rfl | exact Or.inr rfl | exact pr_b01 _)⟩, rvin (by assumption) (by omega) (by decide)⟩ | exact ⟨by assumption, by assumption⟩ | decide | omega)) (Nat.le_of_ble_eq_true rfl) (hw) (fun v66 M66 q66 => ?_)
                                      obtain ⟨rfl, w1, w2, w3, w4⟩ := q66
                                      obtain ⟨I1, Z1⟩ := M66
                                      dsimp only at w1 w2 w3 w4
                                      subst w1
                                      refine pr_seqT (pc' := 71) 2 rfl ⟨⟨trivial, (by first | decide | assumption)⟩, trivial⟩ ?_
                                      try simp (disch := omega) only [n20, rI_mul, nI_add, nI_1, nI_clamp, pr_8_20, pr_8_m2, pr_8_m3, pr_i_1, pr_i_m1]
                                      refine pr_cvT [_] rfl rfl rfl rfl rfl (Nat.le_of_ble_eq_true rfl) (by first | assumption | decide | (simp (disch := omega) only [n20, rI_mul, nI_add, nI_1, nI_clamp, pr_8_20, pr_8_m2, pr_8_m3, pr_i_1, pr_i_m1]; first | assumption | exact ⟨Or.inl (by assumption), rvin (by assumption) (by omega) (by decide)⟩ | exact ⟨by assumption, rvin (by assumption) (by omega) (by decide)⟩ | exact ⟨⟨by omega, by omega⟩, rvin (by assumption) (by omega) (by decide)⟩ | exact ⟨Or.inr (by assumption), rvin (by assumption) (by omega) (by decide)⟩ | exact ⟨Or.inr ⟨by assumption, (by first | exact Or.inl rfl | exact Or.inr rfl | exact pr_b01 _)⟩, rvin (by assumption) (by omega) (by decide)⟩ | exact ⟨by assumption, by assumption⟩ | decide | omega)) (Nat.le_of_ble_eq_true rfl) (q_sumOf h (I1, M.2) hl w2 (by unfold wedL; rw [wOne_len, wOne_len]; exact hj')) ?_
                                      exact pr_irT rfl trivial (by rw [hS]; exact rp_I (rv_land hv (fun a a1 a2 _ _ => w3 a a2) w2 (fun i i1 i2 => w4 i (by omega))) (fun a ha => w3 a (by omega)))
                                  · simp only [ab_cmp, pr_8_20, pr_8_m2, pr_8_m3, pr_i_1, pr_i_m1] at h57
                                    exact absurd z3 h57
                              · simp only [ab_cmp, pr_8_20, pr_8_m2, pr_8_m3, pr_i_1, pr_i_m1] at h38
                                exact absurd (Classical.not_not.mp h38) z2
                      · simp only [ab_cmp, pr_8_20, pr_8_m2, pr_8_m3, pr_i_1, pr_i_m1] at h18
                        exact absurd (Classical.not_not.mp h18) e1
            · rw [if_neg c20]
              have z3 : ¬ nI ((d_pn X.1.1 j).2.2.2.length + (d_pn X.1.1 k).2.2.2.length) ≤ nI 20 := nI_ge (by omega) (by omega)
              have n20 : (20 : Int32) = nI 20 := rfl
              refine pr_ofC ?_ (rp_s hv)
              refine pr_seq (pc' := 2) 2 rfl ⟨⟨trivial, (by first | decide | assumption)⟩, trivial⟩ ?_
              try simp (disch := omega) only [n20, rI_mul, nI_add, nI_1, nI_clamp, pr_8_20, pr_8_m2, pr_8_m3, pr_i_1, pr_i_m1]
              refine pr_cv [_] rfl rfl rfl rfl rfl (Nat.le_of_ble_eq_true rfl) (by first | assumption | decide | (simp (disch := omega) only [n20, rI_mul, nI_add, nI_1, nI_clamp, pr_8_20, pr_8_m2, pr_8_m3, pr_i_1, pr_i_m1]; first | assumption | exact ⟨Or.inl (by assumption), rvin (by assumption) (by omega) (by decide)⟩ | exact ⟨by assumption, rvin (by assumption) (by omega) (by decide)⟩ | exact ⟨⟨by omega, by omega⟩, rvin (by assumption) (by omega) (by decide)⟩ | exact ⟨Or.inr (by assumption), rvin (by assumption) (by omega) (by decide)⟩ | exact ⟨Or.inr ⟨by assumption, (by first | exact Or.inl rfl | exact Or.inr rfl | exact pr_b01 _)⟩, rvin (by assumption) (by omega) (by decide)⟩ | exact ⟨by assumption, by assumption⟩ | decide | omega)) (Nat.le_of_ble_eq_true rfl) (h1) ?_
              refine pr_if rfl (fun h5 => ?_) (fun h5 => ?_)
              · simp only [ab_cmp, pr_8_20, pr_8_m2, pr_8_m3, pr_i_1, pr_i_m1] at h5
                exact absurd h5 (by decide)
              · simp only [ab_cmp, pr_8_20, pr_8_m2, pr_8_m3, pr_i_1, pr_i_m1] at h5
                first
                | contradiction
                | exact absurd trivial h5
                | exact absurd h5 (by decide)
                | exact absurd (Classical.not_not.mp h5) (by decide)
                | skip
                  refine pr_seq (pc' := 10) 2 rfl ⟨⟨trivial, (by first | decide | assumption)⟩, trivial⟩ ?_
                  try simp (disch := omega) only [n20, rI_mul, nI_add, nI_1, nI_clamp, pr_8_20, pr_8_m2, pr_8_m3, pr_i_1, pr_i_m1]
                  refine pr_cv [_] rfl rfl rfl rfl rfl (Nat.le_of_ble_eq_true rfl) (by first | assumption | decide | (simp (disch := omega) only [n20, rI_mul, nI_add, nI_1, nI_clamp, pr_8_20, pr_8_m2, pr_8_m3, pr_i_1, pr_i_m1]; first | assumption | exact ⟨Or.inl (by assumption), rvin (by assumption) (by omega) (by decide)⟩ | exact ⟨by assumption, rvin (by assumption) (by omega) (by decide)⟩ | exact ⟨⟨by omega, by omega⟩, rvin (by assumption) (by omega) (by decide)⟩ | exact ⟨Or.inr (by assumption), rvin (by assumption) (by omega) (by decide)⟩ | exact ⟨Or.inr ⟨by assumption, (by first | exact Or.inl rfl | exact Or.inr rfl | exact pr_b01 _)⟩, rvin (by assumption) (by omega) (by decide)⟩ | exact ⟨by assumption, by assumption⟩ | decide | omega)) (Nat.le_of_ble_eq_true rfl) (h2) ?_
                  refine pr_if rfl (fun h13 => ?_) (fun h13 => ?_)
                  · simp only [ab_cmp, pr_8_20, pr_8_m2, pr_8_m3, pr_i_1, pr_i_m1] at h13
                    exact absurd h13 (by decide)
                  · simp only [ab_cmp, pr_8_20, pr_8_m2, pr_8_m3, pr_i_1, pr_i_m1] at h13
                    first
                    | contradiction
                    | exact absurd trivial h13
                    | exact absurd h13 (by decide)
                    | exact absurd (Classical.not_not.mp h13) (by decide)
                    | skip
                      refine pr_seq (pc' := 18) 2 rfl ⟨⟨trivial, trivial⟩, trivial⟩ ?_
                      try simp (disch := omega) only [n20, rI_mul, nI_add, nI_1, nI_clamp, pr_8_20, pr_8_m2, pr_8_m3, pr_i_1, pr_i_m1]
                      refine pr_ic rfl (fun h18 => ?_) (fun h18 => ?_)
                      · simp only [ab_cmp, pr_8_20, pr_8_m2, pr_8_m3, pr_i_1, pr_i_m1] at h18
                        first
                        | contradiction
                        | exact absurd trivial h18
                        | exact absurd h18 (by decide)
                        | exact absurd (Classical.not_not.mp h18) (by decide)
                        | skip
                          refine pr_seq (pc' := 25) 2 rfl ⟨⟨trivial, (by first | decide | assumption)⟩, trivial⟩ ?_
                          try simp (disch := omega) only [n20, rI_mul, nI_add, nI_1, nI_clamp, pr_8_20, pr_8_m2, pr_8_m3, pr_i_1, pr_i_m1]
                          refine pr_cv [_] rfl rfl rfl rfl rfl (Nat.le_of_ble_eq_true rfl) (by first | assumption | decide | (simp (disch := omega) only [n20, rI_mul, nI_add, nI_1, nI_clamp, pr_8_20, pr_8_m2, pr_8_m3, pr_i_1, pr_i_m1]; first | assumption | exact ⟨Or.inl (by assumption), rvin (by assumption) (by omega) (by decide)⟩ | exact ⟨by assumption, rvin (by assumption) (by omega) (by decide)⟩ | exact ⟨⟨by omega, by omega⟩, rvin (by assumption) (by omega) (by decide)⟩ | exact ⟨Or.inr (by assumption), rvin (by assumption) (by omega) (by decide)⟩ | exact ⟨Or.inr ⟨by assumption, (by first | exact Or.inl rfl | exact Or.inr rfl | exact pr_b01 _)⟩, rvin (by assumption) (by omega) (by decide)⟩ | exact ⟨by assumption, by assumption⟩ | decide | omega)) (Nat.le_of_ble_eq_true rfl) (hkj) ?_
                          refine pr_seq (pc' := 29) 1 rfl ⟨trivial, trivial⟩ ?_
                          try simp (disch := omega) only [n20, rI_mul, nI_add, nI_1, nI_clamp, pr_8_20, pr_8_m2, pr_8_m3, pr_i_1, pr_i_m1]
                          refine pr_ic rfl (fun h29 => ?_) (fun h29 => ?_)
                          · simp only [ab_cmp, pr_8_20, pr_8_m2, pr_8_m3, pr_i_1, pr_i_m1] at h29
                            exact absurd h29 z
                          · simp only [ab_cmp, pr_8_20, pr_8_m2, pr_8_m3, pr_i_1, pr_i_m1] at h29
                            first
                            | contradiction
                            | exact absurd trivial h29
                            | exact absurd h29 (by decide)
                            | exact absurd (Classical.not_not.mp h29) (by decide)
                            | skip
                              refine pr_seq (pc' := 34) 2 rfl ⟨⟨trivial, (by first | decide | assumption)⟩, trivial⟩ ?_
                              try simp (disch := omega) only [n20, rI_mul, nI_add, nI_1, nI_clamp, pr_8_20, pr_8_m2, pr_8_m3, pr_i_1, pr_i_m1]
                              refine pr_cv [_] rfl rfl rfl rfl rfl (Nat.le_of_ble_eq_true rfl) (by first | assumption | decide | (simp (disch := omega) only [n20, rI_mul, nI_add, nI_1, nI_clamp, pr_8_20, pr_8_m2, pr_8_m3, pr_i_1, pr_i_m1]; first | assumption | exact ⟨Or.inl (by assumption), rvin (by assumption) (by omega) (by decide)⟩ | exact ⟨by assumption, rvin (by assumption) (by omega) (by decide)⟩ | exact ⟨⟨by omega, by omega⟩, rvin (by assumption) (by omega) (by decide)⟩ | exact ⟨Or.inr (by assumption), rvin (by assumption) (by omega) (by decide)⟩ | exact ⟨Or.inr ⟨by assumption, (by first | exact Or.inl rfl | exact Or.inr rfl | exact pr_b01 _)⟩, rvin (by assumption) (by omega) (by decide)⟩ | exact ⟨by assumption, by assumption⟩ | decide | omega)) (Nat.le_of_ble_eq_true rfl) (hkk) ?_
                              refine pr_seq (pc' := 38) 1 rfl ⟨trivial, trivial⟩ ?_
                              try simp (disch := omega) only [n20, rI_mul, nI_add, nI_1, nI_clamp, pr_8_20, pr_8_m2, pr_8_m3, pr_i_1, pr_i_m1]
                              refine pr_ic rfl (fun h38 => ?_) (fun h38 => ?_)
                              · simp only [ab_cmp, pr_8_20, pr_8_m2, pr_8_m3, pr_i_1, pr_i_m1] at h38
                                first
                                | contradiction
                                | exact absurd trivial h38
                                | exact absurd h38 (by decide)
                                | exact absurd (Classical.not_not.mp h38) (by decide)
                                | skip
                                  refine pr_seq (pc' := 46) 2 rfl ⟨⟨trivial, (by first | decide | assumption)⟩, trivial⟩ ?_
                                  try simp (disch := omega) only [n20, rI_mul, nI_add, nI_1, nI_clamp, pr_8_20, pr_8_m2, pr_8_m3, pr_i_1, pr_i_m1]
                                  refine pr_cv [_] rfl rfl rfl rfl rfl (Nat.le_of_ble_eq_true rfl) (by first | assumption | decide | (simp (disch := omega) only [n20, rI_mul, nI_add, nI_1, nI_clamp, pr_8_20, pr_8_m2, pr_8_m3, pr_i_1, pr_i_m1]; first | assumption | exact ⟨Or.inl (by assumption), rvin (by assumption) (by omega) (by decide)⟩ | exact ⟨by assumption, rvin (by assumption) (by omega) (by decide)⟩ | exact ⟨⟨by omega, by omega⟩, rvin (by assumption) (by omega) (by decide)⟩ | exact ⟨Or.inr (by assumption), rvin (by assumption) (by omega) (by decide)⟩ | exact ⟨Or.inr ⟨by assumption, (by first | exact Or.inl rfl | exact Or.inr rfl | exact pr_b01 _)⟩, rvin (by assumption) (by omega) (by decide)⟩ | exact ⟨by assumption, by assumption⟩ | decide | omega)) (Nat.le_of_ble_eq_true rfl) (hlj) ?_
                                  refine pr_seq (pc' := 51) 2 rfl ⟨⟨trivial, (by first | decide | assumption)⟩, trivial⟩ ?_
                                  try simp (disch := omega) only [n20, rI_mul, nI_add, nI_1, nI_clamp, pr_8_20, pr_8_m2, pr_8_m3, pr_i_1, pr_i_m1]
                                  refine pr_cv [_] rfl rfl rfl rfl rfl (Nat.le_of_ble_eq_true rfl) (by first | assumption | decide | (simp (disch := omega) only [n20, rI_mul, nI_add, nI_1, nI_clamp, pr_8_20, pr_8_m2, pr_8_m3, pr_i_1, pr_i_m1]; first | assumption | exact ⟨Or.inl (by assumption), rvin (by assumption) (by omega) (by decide)⟩ | exact ⟨by assumption, rvin (by assumption) (by omega) (by decide)⟩ | exact ⟨⟨by omega, by omega⟩, rvin (by assumption) (by omega) (by decide)⟩ | exact ⟨Or.inr (by assumption), rvin (by assumption) (by omega) (by decide)⟩ | exact ⟨Or.inr ⟨by assumption, (by first | exact Or.inl rfl | exact Or.inr rfl | exact pr_b01 _)⟩, rvin (by assumption) (by omega) (by decide)⟩ | exact ⟨by assumption, by assumption⟩ | decide | omega)) (Nat.le_of_ble_eq_true rfl) (hlk) ?_
                                  refine pr_seq (pc' := 57) 2 rfl ⟨⟨trivial, trivial⟩, trivial⟩ ?_
                                  try simp (disch := omega) only [n20, rI_mul, nI_add, nI_1, nI_clamp, pr_8_20, pr_8_m2, pr_8_m3, pr_i_1, pr_i_m1]
                                  refine pr_ic rfl (fun h57 => ?_) (fun h57 => ?_)
                                  · simp only [ab_cmp, pr_8_20, pr_8_m2, pr_8_m3, pr_i_1, pr_i_m1] at h57
                                    exact absurd h57 z3
                                  · simp only [ab_cmp, pr_8_20, pr_8_m2, pr_8_m3, pr_i_1, pr_i_m1] at h57
                                    first
                                    | contradiction
                                    | exact absurd trivial h57
                                    | exact absurd h57 (by decide)
                                    | exact absurd (Classical.not_not.mp h57) (by decide)
                                    | skip
                                      refine pr_seq (pc' := 62) 1 rfl ⟨trivial, trivial⟩ ?_
                                      try simp (disch := omega) only [n20, rI_mul, nI_add, nI_1, nI_clamp, pr_8_20, pr_8_m2, pr_8_m3, pr_i_1, pr_i_m1]
                                      exact pr_irM rfl (by first | rfl | (simp (disch := omega) only [n20, rI_mul, nI_add, nI_1, nI_clamp, pr_8_20, pr_8_m2, pr_8_m3, pr_i_1, pr_i_m1]; done) | (simp [pr_b, pr_8_20, pr_8_m2, pr_8_m3, pr_i_1, pr_i_m1, *]; done) | (simp_all [pr_b, pr_8_20, pr_8_m2, pr_8_m3, pr_i_1, pr_i_m1]; done)) trivial (by rfl)
                              · simp only [ab_cmp, pr_8_20, pr_8_m2, pr_8_m3, pr_i_1, pr_i_m1] at h38
                                exact absurd (Classical.not_not.mp h38) z2
                      · simp only [ab_cmp, pr_8_20, pr_8_m2, pr_8_m3, pr_i_1, pr_i_m1] at h18
                        exact absurd (Classical.not_not.mp h18) e1
