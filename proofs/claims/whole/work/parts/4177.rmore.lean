
/-! ===== the reference's reader: a line ===== -/
theorem pv_kn {I : Nat → Nat → Int32} {P : PS} {n s : Nat} (hv : pv I P) (h6 : P.1.2.2.length < 6) (hn : n ≤ 5) (hs : s ≤ 999) (N : Nat → Nat → Int32) (ha : ∀ a, a ≠ 172 → a ≠ 178 → N a = I a) (hj : ∀ j, j < 16 → j ≠ 9 → j ≠ 12 → N 172 j = I 172 j) (h9 : N 172 9 = nI (P.1.2.2.length + 1)) (h12 : N 172 12 = if hN P.1.2.2 < nI n then nI n else hN P.1.2.2) (ho : ∀ j, j < 2 * P.1.2.2.length → N 178 j = I 178 j) (c0 : N 178 (2 * P.1.2.2.length) = nI n) (c1 : N 178 (2 * P.1.2.2.length + 1) = nI s) : pv N (pKn P n s) := by
  obtain ⟨v1, ⟨v2, v3, v4⟩, ⟨v5, v6, v7⟩, v8, v9, v10⟩ := hv
  have hlen : (P.1.2.2 ++ [(n, s)]).length = P.1.2.2.length + 1 := by rw [List.length_append]; rfl
  refine ⟨by rw [ha 176 (by decide) (by decide)]; exact v1, ⟨by rw [hj 8 (by decide) (by decide) (by decide)]; exact v2, v3, by rw [ha 177 (by decide) (by decide)]; exact v4⟩, ⟨by show N 172 9 = nI (P.1.2.2 ++ [(n, s)]).length; rw [hlen]; exact h9, by show (P.1.2.2 ++ [(n, s)]).length ≤ 6; omega, fun i hi => ?_⟩, by rw [hj 10 (by decide) (by decide) (by decide)]; exact v8, by rw [hj 11 (by decide) (by decide) (by decide)]; exact v9, by show N 172 12 = hN (P.1.2.2 ++ [(n, s)]); rw [hN_s]; exact h12⟩
  have hi : i < P.1.2.2.length + 1 := by rw [← hlen]; exact hi
  show N 178 (2 * i) = nI ((P.1.2.2 ++ [(n, s)]).getD i (0, 0)).1 ∧ N 178 (2 * i + 1) = nI ((P.1.2.2 ++ [(n, s)]).getD i (0, 0)).2 ∧ ((P.1.2.2 ++ [(n, s)]).getD i (0, 0)).1 ≤ 5 ∧ ((P.1.2.2 ++ [(n, s)]).getD i (0, 0)).2 ≤ 999
  by_cases e : i = P.1.2.2.length
  · subst e
    rw [gdp_r]
    exact ⟨c0, c1, hn, hs⟩
  · rw [gdp_l (by omega), ho _ (by omega), ho _ (by omega)]
    exact v7 i (by omega)
def moE (w : List Nat) (P : PS) (k p : Nat) : Er := if k = 0 then nuE w 0 1 (.ok p) else if k = 1 then nuE w 1 9 (.ok p) else if k = 2 then letE w P p else if k = 3 then oneE w p else if k = 4 then (nmF w P p).1 else nuE w 0 999 (nuE w 0 5 (.ok p))
def moP (w : List Nat) (P : PS) (k p : Nat) : PS := if k = 0 then (((P.1.1.1, P.1.1.2.1, nuV w 0 1 (.ok p), P.1.1.2.2.2), P.1.2), P.2) else if k = 1 then (((P.1.1.1, P.1.1.2.1, P.1.1.2.2.1, nuV w 1 9 (.ok p)), P.1.2), P.2) else if k = 2 then letP w P p else if k = 3 then oneP w P p else if k = 4 then (nmF w P p).2 else pKn P (nuV w 0 5 (.ok p)) (nuV w 0 999 (nuE w 0 5 (.ok p)))
theorem mo_6 {w : List Nat} {P : PS} {n v : Nat} {v12 : Int32} {e : Er} {N I3 : Nat → Nat → Int32} (h : ab_H) (M : ab_M) (hl : rL h M.2.2) (hv : pv M.1 P) (h6 : P.1.2.2.length < 6) (hn : n ≤ 5) (hf : rfr M.1 N) (h12 : v12 = (if hN P.1.2.2 < nI n then nI n else hN P.1.2.2)) (lf : lfr M.1 (ab_u (ab_u N 172 12 v12) 178 (2 * P.1.2.2.length) (nI n))) (x2 : rfr (ab_u (ab_u N 172 12 v12) 178 (2 * P.1.2.2.length) (nI n)) I3) (x3 : rs2 I3 w e) (hs : v ≤ 999) : pr_T pX11_readMore 141 [some (.ref 172), some (.int (nI 5)), some (.int (nI n))] [.int (nI v), .int (nI (2 * P.1.2.2.length + 1)), .ref 178] h (I3, M.2) (ln2_p M w e (pKn P n v) none) := by
  obtain ⟨k172, rS, rLs, rKn, rPg, rRl, rRk, rTp, rCu, rLe, rLt, rSm, rIk, rLn, rLg, rCe, ⟨kS, nS⟩, ⟨kLs, nLs⟩, ⟨kKn, nKn⟩, ⟨kPg, nPg⟩, ⟨kRl, nRl⟩, ⟨kRk, nRk⟩, ⟨kTp, nTp⟩, ⟨kCu, nCu⟩, ⟨kLe, nLe⟩, ⟨kLt, nLt⟩, ⟨kSm, nSm⟩, ⟨kIk, nIk⟩, ⟨kLn, nLn⟩, ⟨kLg, nLg⟩, kCe, nCe⟩ := id hl
  have hv2 := pv_rfr hf hv
  have g9 := hv2.2.2.1.1
  have i9 : ab_u I3 178 (2 * P.1.2.2.length + 1) (nI v) 172 9 = nI P.1.2.2.length := by rw [ab_u_ne (by decide), x2.2 9 (by decide), ab_u_ne (by decide), ab_u_j (by decide)]; exact g9
  have hp : pv (ab_u (ab_u I3 178 (2 * P.1.2.2.length + 1) (nI v)) 172 9 (nI (P.1.2.2.length + 1))) (pKn P n v) := by
    refine pv_kn hv2 h6 hn hs _ (fun a a1 a2 => by rw [ab_u_ne a1, ab_u_ne a2, x2.1 a a1, ab_u_ne a2, ab_u_ne a1]) (fun j j1 j2 j3 => by rw [ab_u_j j2, ab_u_ne (by decide), x2.2 j (by omega), ab_u_ne (by decide), ab_u_j j3]) ab_u_at (by rw [ab_u_j (by decide), ab_u_ne (by decide), x2.2 12 (by decide), ab_u_ne (by decide), ab_u_at]; exact h12) (fun j hj => by rw [ab_u_ne (by decide), ab_u_j (by omega), x2.1 178 (by decide), ab_u_j (by omega), ab_u_ne (by decide)]) (by rw [ab_u_ne (by decide), ab_u_j (by omega), x2.1 178 (by decide), ab_u_at]) (by rw [ab_u_ne (by decide), ab_u_at])
  refine pr_seqT (pc' := 152) 7 rfl ⟨⟨⟨⟨⟨⟨⟨trivial, (by (try simp (disch := omega) only [i9, rPg, rRk, rI_mul, nI_add, nI_1, nI_clamp, c219, c220, pr_16_219, pr_16_220, pr_16_999, pr_8_9, pr_i_0, pr_i_1, pr_i_2, pr_i_3, pr_i_4, pr_i_5]); exact ⟨by assumption, rvin (by assumption) (by omega) (by decide)⟩)⟩, (by first | decide | assumption)⟩, trivial⟩, (by assumption)⟩, trivial⟩, trivial⟩, (by first | assumption | exact ⟨by assumption, by decide⟩ | exact ⟨by assumption, pr_b01 _⟩)⟩ ?_
  try simp (disch := omega) only [i9, rPg, rRk, rI_mul, nI_add, nI_1, nI_clamp, c219, c220, pr_16_219, pr_16_220, pr_16_999, pr_8_9, pr_i_0, pr_i_1, pr_i_2, pr_i_3, pr_i_4, pr_i_5]
  exact pr_vrT rfl rfl (by exact ⟨rfl, rfl, lfr_tr lf (lfr_tr (lfr_r x2) (lfr_tr (lfr_w (Or.inr (Or.inr rfl))) (lfr_u (by decide)))), rs2_u (Or.inr (by decide)) (rs2_u (Or.inl (by decide)) x3), fun _ => hp⟩)
theorem mo_5 {w : List Nat} {P : PS} {n : Nat} {e : Er} {N : Nat → Nat → Int32} (h : ab_H) (M : ab_M) (hl : rL h M.2.2) (hw : tp_r M.1 w) (hv : pv M.1 P) (h6 : P.1.2.2.length < 6) (hn : n ≤ 5) (hf : rfr M.1 N) (he : rs2 N w e) : pr_T pX11_readMore 88 [some (.ref 172), some (.int (nI 5)), none] [.int (nI n)] h (N, M.2) (ln2_p M w (nuE w 0 999 e) (pKn P n (nuV w 0 999 e)) none) := by
  obtain ⟨k172, rS, rLs, rKn, rPg, rRl, rRk, rTp, rCu, rLe, rLt, rSm, rIk, rLn, rLg, rCe, ⟨kS, nS⟩, ⟨kLs, nLs⟩, ⟨kKn, nKn⟩, ⟨kPg, nPg⟩, ⟨kRl, nRl⟩, ⟨kRk, nRk⟩, ⟨kTp, nTp⟩, ⟨kCu, nCu⟩, ⟨kLe, nLe⟩, ⟨kLt, nLt⟩, ⟨kSm, nSm⟩, ⟨kIk, nIk⟩, ⟨kLn, nLn⟩, ⟨kLg, nLg⟩, kCe, nCe⟩ := id hl
  have hv2 := pv_rfr hf hv
  obtain ⟨g9, g9b, g9c⟩ := hv2.2.2.1
  have g12 := hv2.2.2.2.2.2
  have c999 : (999 : Int32) = nI 999 := rfl
  have n0 : nI 0 = 0 := rfl
  have rest : ∀ v12, v12 = (if hN P.1.2.2 < nI n then nI n else hN P.1.2.2) → pr_T pX11_readMore 109 [some (.ref 172), some (.int (nI 5)), some (.int (nI n))] [] h (ab_u N 172 12 v12, M.2) (ln2_p M w (nuE w 0 999 e) (pKn P n (nuV w 0 999 e)) none) := by
    intro v12 h12
    have a9 : ab_u N 172 12 v12 172 9 = nI P.1.2.2.length := by rw [ab_u_j (by decide)]; exact g9
    have b9 : ab_u (ab_u N 172 12 v12) 178 (2 * P.1.2.2.length) (nI n) 172 9 = nI P.1.2.2.length := by rw [ab_u_ne (by decide)]; exact a9
    have lf : lfr M.1 (ab_u (ab_u N 172 12 v12) 178 (2 * P.1.2.2.length) (nI n)) := lfr_tr (lfr_r hf) (lfr_tr (lfr_u (by decide)) (lfr_w (Or.inr (Or.inr rfl))))
    have hnu := q_number (lo := 0) (hi := 999) h (ab_u (ab_u N 172 12 v12) 178 (2 * P.1.2.2.length) (nI n), M.2) hl (lfr_tp lf hw) (rs2_u (Or.inl (by decide)) (rs2_u (Or.inr (by decide)) he)) (by decide) (by decide)
    have hvv := nuV_le (lo := 0) (hi := 999) he (by decide)
    refine pr_seqT (pc' := 138) 19 rfl ⟨⟨⟨⟨⟨⟨⟨⟨⟨⟨⟨⟨⟨⟨⟨⟨⟨⟨⟨trivial, (by first | decide | assumption)⟩, (by assumption)⟩, trivial⟩, (by first | decide | assumption)⟩, (by assumption)⟩, trivial⟩, trivial⟩, (by (try simp (disch := omega) only [a9, b9, c2, c999, rPg, rRk, rI_mul, nI_add, nI_1, nI_clamp, c219, c220, pr_16_219, pr_16_220, pr_16_999, pr_8_9, pr_i_0, pr_i_1, pr_i_2, pr_i_3, pr_i_4, pr_i_5]); exact ⟨by assumption, rvin (by assumption) (by omega) (by decide)⟩)⟩, (by first | decide | assumption)⟩, (by assumption)⟩, trivial⟩, (by first | decide | assumption)⟩, (by assumption)⟩, trivial⟩, trivial⟩, trivial⟩, (by first | decide | assumption)⟩, trivial⟩, trivial⟩ ?_
    try simp (disch := omega) only [a9, b9, c2, c999, rPg, rRk, rI_mul, nI_add, nI_1, nI_clamp, c219, c220, pr_16_219, pr_16_220, pr_16_999, pr_8_9, pr_i_0, pr_i_1, pr_i_2, pr_i_3, pr_i_4, pr_i_5]
    refine pr_cvX [_, _] rfl rfl rfl rfl rfl (Nat.le_of_ble_eq_true rfl) (by first | assumption | decide | (simp (disch := omega) only [a9, b9, c2, c999, rPg, rRk, rI_mul, nI_add, nI_1, nI_clamp, c219, c220, pr_16_219, pr_16_220, pr_16_999, pr_8_9, pr_i_0, pr_i_1, pr_i_2, pr_i_3, pr_i_4, pr_i_5]; first | assumption | exact ⟨Or.inl (by assumption), rvin (by assumption) (by omega) (by decide)⟩ | exact ⟨by assumption, rvin (by assumption) (by omega) (by decide)⟩ | exact ⟨⟨by omega, by omega⟩, rvin (by assumption) (by omega) (by decide)⟩ | exact ⟨Or.inr (by assumption), rvin (by assumption) (by omega) (by decide)⟩ | exact ⟨Or.inr ⟨by assumption, (by first | exact Or.inl rfl | exact Or.inr rfl | exact pr_b01 _)⟩, rvin (by assumption) (by omega) (by decide)⟩ | exact ⟨by assumption, by assumption⟩ | decide | omega)) (Nat.le_of_ble_eq_true rfl) (hnu) (fun v138 M138 q138 => ?_)
    obtain ⟨rfl, x1, x2, x3⟩ := q138
    obtain ⟨I3, Z3⟩ := M138
    dsimp only at x1 x2 x3
    subst x1
    exact mo_6 h M hl hv h6 hn hf h12 lf x2 x3 hvv.2
  by_cases c : hN P.1.2.2 < nI n
  · have z : ¬ nI n ≤ hN P.1.2.2 := fun q => (i_le_nlt _ _).mp q c
    have h0 := rest (nI n) (by rw [if_pos c])
    refine pr_seqT (pc' := 95) 5 rfl ⟨⟨⟨⟨⟨trivial, trivial⟩, (by first | decide | assumption)⟩, trivial⟩, (by first | decide | assumption)⟩, (by assumption)⟩ ?_
    try simp (disch := omega) only [g12, rPg, rRk, rI_mul, nI_add, nI_1, nI_clamp, c219, c220, pr_16_219, pr_16_220, pr_16_999, pr_8_9, pr_i_0, pr_i_1, pr_i_2, pr_i_3, pr_i_4, pr_i_5]
    refine pr_icT rfl (fun h95 => ?_) (fun h95 => ?_)
    · simp only [ab_cmp, pr_16_219, pr_16_220, pr_16_999, pr_8_9, pr_i_0, pr_i_1, pr_i_2, pr_i_3, pr_i_4, pr_i_5] at h95
      exact absurd h95 z
    · simp only [ab_cmp, pr_16_219, pr_16_220, pr_16_999, pr_8_9, pr_i_0, pr_i_1, pr_i_2, pr_i_3, pr_i_4, pr_i_5] at h95
      first
      | contradiction
      | exact absurd trivial h95
      | exact absurd h95 (by decide)
      | exact absurd (Classical.not_not.mp h95) (by decide)
      | skip
        refine pr_seqT (pc' := 109) 3 rfl ⟨⟨⟨trivial, trivial⟩, trivial⟩, (by first | assumption | exact ⟨by assumption, by decide⟩ | exact ⟨by assumption, pr_b01 _⟩)⟩ ?_
        try simp (disch := omega) only [g12, rPg, rRk, rI_mul, nI_add, nI_1, nI_clamp, c219, c220, pr_16_219, pr_16_220, pr_16_999, pr_8_9, pr_i_0, pr_i_1, pr_i_2, pr_i_3, pr_i_4, pr_i_5]
        exact h0
  · have z : nI n ≤ hN P.1.2.2 := (i_le_nlt _ _).mpr c
    have h0 := rest (hN P.1.2.2) (by rw [if_neg c])
    refine pr_seqT (pc' := 95) 5 rfl ⟨⟨⟨⟨⟨trivial, trivial⟩, (by first | decide | assumption)⟩, trivial⟩, (by first | decide | assumption)⟩, (by assumption)⟩ ?_
    try simp (disch := omega) only [g12, rPg, rRk, rI_mul, nI_add, nI_1, nI_clamp, c219, c220, pr_16_219, pr_16_220, pr_16_999, pr_8_9, pr_i_0, pr_i_1, pr_i_2, pr_i_3, pr_i_4, pr_i_5]
    refine pr_icT rfl (fun h95 => ?_) (fun h95 => ?_)
    · simp only [ab_cmp, pr_16_219, pr_16_220, pr_16_999, pr_8_9, pr_i_0, pr_i_1, pr_i_2, pr_i_3, pr_i_4, pr_i_5] at h95
      first
      | contradiction
      | exact absurd trivial h95
      | exact absurd h95 (by decide)
      | exact absurd (Classical.not_not.mp h95) (by decide)
      | skip
        refine pr_seqT (pc' := 109) 3 rfl ⟨⟨⟨trivial, (by first | decide | assumption)⟩, (by assumption)⟩, (by first | assumption | exact ⟨by assumption, by decide⟩ | exact ⟨by assumption, pr_b01 _⟩)⟩ ?_
        try simp (disch := omega) only [g12, rPg, rRk, rI_mul, nI_add, nI_1, nI_clamp, c219, c220, pr_16_219, pr_16_220, pr_16_999, pr_8_9, pr_i_0, pr_i_1, pr_i_2, pr_i_3, pr_i_4, pr_i_5]
        exact h0
    · simp only [ab_cmp, pr_16_219, pr_16_220, pr_16_999, pr_8_9, pr_i_0, pr_i_1, pr_i_2, pr_i_3, pr_i_4, pr_i_5] at h95
      exact absurd z h95
theorem q_readMore {w : List Nat} {P : PS} {k p : Nat} (hk : k < 6) (h : ab_H) (M : ab_M) (hl : rL h M.2.2) (hw : tp_r M.1 w) (hcn : cn_r M.1) (hv : pv M.1 P) (h8 : k = 3 → P.1.1.2.1.length < 8) (h6 : k = 5 → P.1.2.2.length < 6) (he : rs2 M.1 w (.ok p)) : pr_X pX11_readMore [.ref 172, .int (nI k)] h M (ln2_p M w (moE w P k p) (moP w P k p) none) := by
  obtain ⟨k172, rS, rLs, rKn, rPg, rRl, rRk, rTp, rCu, rLe, rLt, rSm, rIk, rLn, rLg, rCe, ⟨kS, nS⟩, ⟨kLs, nLs⟩, ⟨kKn, nKn⟩, ⟨kPg, nPg⟩, ⟨kRl, nRl⟩, ⟨kRk, nRk⟩, ⟨kTp, nTp⟩, ⟨kCu, nCu⟩, ⟨kLe, nLe⟩, ⟨kLt, nLt⟩, ⟨kSm, nSm⟩, ⟨kIk, nIk⟩, ⟨kLn, nLn⟩, ⟨kLg, nLg⟩, kCe, nCe⟩ := id hl
  have n0 : nI 0 = 0 := rfl
  have n1 : nI 1 = 1 := rfl
  unfold moE moP
  rcases (show k = 0 ∨ k = 1 ∨ k = 2 ∨ k = 3 ∨ k = 4 ∨ k = 5 by omega) with rfl | rfl | rfl | rfl | rfl | rfl
  · rw [if_pos rfl, if_pos rfl]
    have hnu := q_number (lo := 0) (hi := 1) h M hl hw he (by decide) (by decide)
    have hvv := nuV_le (lo := 0) (hi := 1) he (by decide)
    refine pr_seqT (pc' := 1) 1 rfl ⟨trivial, trivial⟩ ?_
    try simp (disch := omega) only [rPg, rRk, rI_mul, nI_add, nI_1, nI_clamp, c219, c220, pr_16_219, pr_16_220, pr_16_999, pr_8_9, pr_i_0, pr_i_1, pr_i_2, pr_i_3, pr_i_4, pr_i_5]
    refine pr_ifT rfl (fun h1 => ?_) (fun h1 => ?_)
    · simp only [ab_cmp, pr_16_219, pr_16_220, pr_16_999, pr_8_9, pr_i_0, pr_i_1, pr_i_2, pr_i_3, pr_i_4, pr_i_5] at h1
      exact absurd rfl h1
    · simp only [ab_cmp, pr_16_219, pr_16_220, pr_16_999, pr_8_9, pr_i_0, pr_i_1, pr_i_2, pr_i_3, pr_i_4, pr_i_5] at h1
      first
      | contradiction
      | exact absurd trivial h1
      | exact absurd h1 (by decide)
      | exact absurd (Classical.not_not.mp h1) (by decide)
      | skip
        refine pr_seqT (pc' := 14) 6 rfl ⟨⟨⟨⟨⟨⟨trivial, (by first | decide | assumption)⟩, (by assumption)⟩, trivial⟩, (by first | decide | assumption)⟩, trivial⟩, trivial⟩ ?_
        try simp (disch := omega) only [rPg, rRk, rI_mul, nI_add, nI_1, nI_clamp, c219, c220, pr_16_219, pr_16_220, pr_16_999, pr_8_9, pr_i_0, pr_i_1, pr_i_2, pr_i_3, pr_i_4, pr_i_5]
        refine pr_cvX [_, _] rfl rfl rfl rfl rfl (Nat.le_of_ble_eq_true rfl) (by first | assumption | decide | (simp (disch := omega) only [rPg, rRk, rI_mul, nI_add, nI_1, nI_clamp, c219, c220, pr_16_219, pr_16_220, pr_16_999, pr_8_9, pr_i_0, pr_i_1, pr_i_2, pr_i_3, pr_i_4, pr_i_5]; first | assumption | exact ⟨Or.inl (by assumption), rvin (by assumption) (by omega) (by decide)⟩ | exact ⟨by assumption, rvin (by assumption) (by omega) (by decide)⟩ | exact ⟨⟨by omega, by omega⟩, rvin (by assumption) (by omega) (by decide)⟩ | exact ⟨Or.inr (by assumption), rvin (by assumption) (by omega) (by decide)⟩ | exact ⟨Or.inr ⟨by assumption, (by first | exact Or.inl rfl | exact Or.inr rfl | exact pr_b01 _)⟩, rvin (by assumption) (by omega) (by decide)⟩ | exact ⟨by assumption, by assumption⟩ | decide | omega)) (Nat.le_of_ble_eq_true rfl) (hnu) (fun v14 M14 q14 => ?_)
        obtain ⟨rfl, w1, w2, w3⟩ := q14
        obtain ⟨I1, Z1⟩ := M14
        dsimp only at w1 w2 w3
        subst w1
        refine pr_seqT (pc' := 152) 2 rfl ⟨⟨trivial, (by (try simp (disch := omega) only [rPg, rRk, rI_mul, nI_add, nI_1, nI_clamp, c219, c220, pr_16_219, pr_16_220, pr_16_999, pr_8_9, pr_i_0, pr_i_1, pr_i_2, pr_i_3, pr_i_4, pr_i_5]); exact ⟨by assumption, rvin (by assumption) (by omega) (by decide)⟩)⟩, trivial⟩ ?_
        try simp (disch := omega) only [rPg, rRk, rI_mul, nI_add, nI_1, nI_clamp, c219, c220, pr_16_219, pr_16_220, pr_16_999, pr_8_9, pr_i_0, pr_i_1, pr_i_2, pr_i_3, pr_i_4, pr_i_5]
        exact pr_vrT rfl rfl (by exact ⟨rfl, rfl, lfr_tr (lfr_r w2) (lfr_w (Or.inl rfl)), rs2_u (Or.inl (by decide)) w3, fun _ => pv_page (pv_rfr w2 hv) (pg_law (pv_rfr w2 hv).1 hvv.2)⟩)
  · have z0 : ¬ nI 1 = 0 := by decide
    rw [if_neg (by decide), if_pos rfl, if_neg (by decide), if_pos rfl]
    have hnu := q_number (lo := 1) (hi := 9) h M hl hw he (by decide) (by decide)
    have hvv := nuV_le (lo := 1) (hi := 9) he (by decide)
    have c9' : (9 : Int32) = nI 9 := rfl
    refine pr_seqT (pc' := 1) 1 rfl ⟨trivial, trivial⟩ ?_
    try simp (disch := omega) only [c9', rPg, rRk, rI_mul, nI_add, nI_1, nI_clamp, c219, c220, pr_16_219, pr_16_220, pr_16_999, pr_8_9, pr_i_0, pr_i_1, pr_i_2, pr_i_3, pr_i_4, pr_i_5]
    refine pr_ifT rfl (fun h1 => ?_) (fun h1 => ?_)
    · simp only [ab_cmp, pr_16_219, pr_16_220, pr_16_999, pr_8_9, pr_i_0, pr_i_1, pr_i_2, pr_i_3, pr_i_4, pr_i_5] at h1
      first
      | contradiction
      | exact absurd trivial h1
      | exact absurd h1 (by decide)
      | exact absurd (Classical.not_not.mp h1) (by decide)
      | skip
        refine pr_seqT (pc' := 23) 2 rfl ⟨⟨trivial, trivial⟩, trivial⟩ ?_
        try simp (disch := omega) only [c9', rPg, rRk, rI_mul, nI_add, nI_1, nI_clamp, c219, c220, pr_16_219, pr_16_220, pr_16_999, pr_8_9, pr_i_0, pr_i_1, pr_i_2, pr_i_3, pr_i_4, pr_i_5]
        refine pr_icT rfl (fun h23 => ?_) (fun h23 => ?_)
        · simp only [ab_cmp, pr_16_219, pr_16_220, pr_16_999, pr_8_9, pr_i_0, pr_i_1, pr_i_2, pr_i_3, pr_i_4, pr_i_5] at h23
          exact absurd n1 h23
        · simp only [ab_cmp, pr_16_219, pr_16_220, pr_16_999, pr_8_9, pr_i_0, pr_i_1, pr_i_2, pr_i_3, pr_i_4, pr_i_5] at h23
          first
          | contradiction
          | exact absurd trivial h23
          | exact absurd h23 (by decide)
          | exact absurd (Classical.not_not.mp h23) (by decide)
          | skip
            refine pr_seqT (pc' := 37) 6 rfl ⟨⟨⟨⟨⟨⟨trivial, (by first | decide | assumption)⟩, (by assumption)⟩, trivial⟩, (by first | decide | assumption)⟩, trivial⟩, trivial⟩ ?_
            try simp (disch := omega) only [c9', rPg, rRk, rI_mul, nI_add, nI_1, nI_clamp, c219, c220, pr_16_219, pr_16_220, pr_16_999, pr_8_9, pr_i_0, pr_i_1, pr_i_2, pr_i_3, pr_i_4, pr_i_5]
            refine pr_cvX [_, _] rfl rfl rfl rfl rfl (Nat.le_of_ble_eq_true rfl) (by first | assumption | decide | (simp (disch := omega) only [c9', rPg, rRk, rI_mul, nI_add, nI_1, nI_clamp, c219, c220, pr_16_219, pr_16_220, pr_16_999, pr_8_9, pr_i_0, pr_i_1, pr_i_2, pr_i_3, pr_i_4, pr_i_5]; first | assumption | exact ⟨Or.inl (by assumption), rvin (by assumption) (by omega) (by decide)⟩ | exact ⟨by assumption, rvin (by assumption) (by omega) (by decide)⟩ | exact ⟨⟨by omega, by omega⟩, rvin (by assumption) (by omega) (by decide)⟩ | exact ⟨Or.inr (by assumption), rvin (by assumption) (by omega) (by decide)⟩ | exact ⟨Or.inr ⟨by assumption, (by first | exact Or.inl rfl | exact Or.inr rfl | exact pr_b01 _)⟩, rvin (by assumption) (by omega) (by decide)⟩ | exact ⟨by assumption, by assumption⟩ | decide | omega)) (Nat.le_of_ble_eq_true rfl) (hnu) (fun v37 M37 q37 => ?_)
            obtain ⟨rfl, w1, w2, w3⟩ := q37
            obtain ⟨I1, Z1⟩ := M37
            dsimp only at w1 w2 w3
            subst w1
            refine pr_seqT (pc' := 152) 4 rfl ⟨⟨⟨⟨trivial, trivial⟩, trivial⟩, (by (try simp (disch := omega) only [c9', rPg, rRk, rI_mul, nI_add, nI_1, nI_clamp, c219, c220, pr_16_219, pr_16_220, pr_16_999, pr_8_9, pr_i_0, pr_i_1, pr_i_2, pr_i_3, pr_i_4, pr_i_5]); exact ⟨by assumption, rvin (by assumption) (by omega) (by decide)⟩)⟩, trivial⟩ ?_
            try simp (disch := omega) only [c9', rPg, rRk, rI_mul, nI_add, nI_1, nI_clamp, c219, c220, pr_16_219, pr_16_220, pr_16_999, pr_8_9, pr_i_0, pr_i_1, pr_i_2, pr_i_3, pr_i_4, pr_i_5]
            exact pr_vrT rfl rfl (by exact ⟨rfl, rfl, lfr_tr (lfr_r w2) (lfr_w (Or.inl rfl)), rs2_u (Or.inl (by decide)) w3, fun _ => pv_page (pv_rfr w2 hv) (pg_fee (pv_rfr w2 hv).1 hvv)⟩)
    · simp only [ab_cmp, pr_16_219, pr_16_220, pr_16_999, pr_8_9, pr_i_0, pr_i_1, pr_i_2, pr_i_3, pr_i_4, pr_i_5] at h1
      exact absurd (Classical.not_not.mp h1) z0
  · have z0 : ¬ nI 2 = 0 := by decide
    have z1 : ¬ nI 2 = 1 := by decide
    rw [if_neg (by decide), if_neg (by decide), if_pos rfl, if_neg (by decide), if_neg (by decide), if_pos rfl]
    have hq := q_readLetter h M hl hw hv he
    refine pr_seqT (pc' := 1) 1 rfl ⟨trivial, trivial⟩ ?_
    try simp (disch := omega) only [c2, rPg, rRk, rI_mul, nI_add, nI_1, nI_clamp, c219, c220, pr_16_219, pr_16_220, pr_16_999, pr_8_9, pr_i_0, pr_i_1, pr_i_2, pr_i_3, pr_i_4, pr_i_5]
    refine pr_ifT rfl (fun h1 => ?_) (fun h1 => ?_)
    · simp only [ab_cmp, pr_16_219, pr_16_220, pr_16_999, pr_8_9, pr_i_0, pr_i_1, pr_i_2, pr_i_3, pr_i_4, pr_i_5] at h1
      first
      | contradiction
      | exact absurd trivial h1
      | exact absurd h1 (by decide)
      | exact absurd (Classical.not_not.mp h1) (by decide)
      | skip
        refine pr_seqT (pc' := 23) 2 rfl ⟨⟨trivial, trivial⟩, trivial⟩ ?_
        try simp (disch := omega) only [c2, rPg, rRk, rI_mul, nI_add, nI_1, nI_clamp, c219, c220, pr_16_219, pr_16_220, pr_16_999, pr_8_9, pr_i_0, pr_i_1, pr_i_2, pr_i_3, pr_i_4, pr_i_5]
        refine pr_icT rfl (fun h23 => ?_) (fun h23 => ?_)
        · simp only [ab_cmp, pr_16_219, pr_16_220, pr_16_999, pr_8_9, pr_i_0, pr_i_1, pr_i_2, pr_i_3, pr_i_4, pr_i_5] at h23
          first
          | contradiction
          | exact absurd trivial h23
          | exact absurd h23 (by decide)
          | exact absurd (Classical.not_not.mp h23) (by decide)
          | skip
            refine pr_seqT (pc' := 48) 2 rfl ⟨⟨trivial, trivial⟩, trivial⟩ ?_
            try simp (disch := omega) only [c2, rPg, rRk, rI_mul, nI_add, nI_1, nI_clamp, c219, c220, pr_16_219, pr_16_220, pr_16_999, pr_8_9, pr_i_0, pr_i_1, pr_i_2, pr_i_3, pr_i_4, pr_i_5]
            refine pr_icT rfl (fun h48 => ?_) (fun h48 => ?_)
            · simp only [ab_cmp, pr_16_219, pr_16_220, pr_16_999, pr_8_9, pr_i_0, pr_i_1, pr_i_2, pr_i_3, pr_i_4, pr_i_5] at h48
              exact absurd trivial h48
            · simp only [ab_cmp, pr_16_219, pr_16_220, pr_16_999, pr_8_9, pr_i_0, pr_i_1, pr_i_2, pr_i_3, pr_i_4, pr_i_5] at h48
              first
              | contradiction
              | exact absurd trivial h48
              | exact absurd h48 (by decide)
              | exact absurd (Classical.not_not.mp h48) (by decide)
              | skip
                refine pr_seqT (pc' := 52) 1 rfl ⟨trivial, (by first | decide | assumption)⟩ ?_
                try simp (disch := omega) only [c2, rPg, rRk, rI_mul, nI_add, nI_1, nI_clamp, c219, c220, pr_16_219, pr_16_220, pr_16_999, pr_8_9, pr_i_0, pr_i_1, pr_i_2, pr_i_3, pr_i_4, pr_i_5]
                refine pr_cvX [] rfl rfl rfl rfl rfl (Nat.le_of_ble_eq_true rfl) (by first | assumption | decide | (simp (disch := omega) only [c2, rPg, rRk, rI_mul, nI_add, nI_1, nI_clamp, c219, c220, pr_16_219, pr_16_220, pr_16_999, pr_8_9, pr_i_0, pr_i_1, pr_i_2, pr_i_3, pr_i_4, pr_i_5]; first | assumption | exact ⟨Or.inl (by assumption), rvin (by assumption) (by omega) (by decide)⟩ | exact ⟨by assumption, rvin (by assumption) (by omega) (by decide)⟩ | exact ⟨⟨by omega, by omega⟩, rvin (by assumption) (by omega) (by decide)⟩ | exact ⟨Or.inr (by assumption), rvin (by assumption) (by omega) (by decide)⟩ | exact ⟨Or.inr ⟨by assumption, (by first | exact Or.inl rfl | exact Or.inr rfl | exact pr_b01 _)⟩, rvin (by assumption) (by omega) (by decide)⟩ | exact ⟨by assumption, by assumption⟩ | decide | omega)) (Nat.le_of_ble_eq_true rfl) (hq) (fun v52 M52 q52 => ?_)
                obtain ⟨rfl, w1⟩ := q52
                refine pr_seqT (pc' := 152) 1 rfl ⟨trivial, trivial⟩ ?_
                try simp (disch := omega) only [c2, rPg, rRk, rI_mul, nI_add, nI_1, nI_clamp, c219, c220, pr_16_219, pr_16_220, pr_16_999, pr_8_9, pr_i_0, pr_i_1, pr_i_2, pr_i_3, pr_i_4, pr_i_5]
                exact pr_vrT rfl rfl (by exact ⟨rfl, w1⟩)
        · simp only [ab_cmp, pr_16_219, pr_16_220, pr_16_999, pr_8_9, pr_i_0, pr_i_1, pr_i_2, pr_i_3, pr_i_4, pr_i_5] at h23
          exact absurd (Classical.not_not.mp h23) z1
    · simp only [ab_cmp, pr_16_219, pr_16_220, pr_16_999, pr_8_9, pr_i_0, pr_i_1, pr_i_2, pr_i_3, pr_i_4, pr_i_5] at h1
      exact absurd (Classical.not_not.mp h1) z0
  · have z0 : ¬ nI 3 = 0 := by decide
    have z1 : ¬ nI 3 = 1 := by decide
    have z2 : ¬ nI 3 = nI 2 := by decide
    rw [if_neg (by decide), if_neg (by decide), if_neg (by decide), if_pos rfl, if_neg (by decide), if_neg (by decide), if_neg (by decide), if_pos rfl]
    have hq := q_readOne h M hl hw hcn hv (h8 rfl) he
    refine pr_seqT (pc' := 1) 1 rfl ⟨trivial, trivial⟩ ?_
    try simp (disch := omega) only [c2, c3, rPg, rRk, rI_mul, nI_add, nI_1, nI_clamp, c219, c220, pr_16_219, pr_16_220, pr_16_999, pr_8_9, pr_i_0, pr_i_1, pr_i_2, pr_i_3, pr_i_4, pr_i_5]
    refine pr_ifT rfl (fun h1 => ?_) (fun h1 => ?_)
    · simp only [ab_cmp, pr_16_219, pr_16_220, pr_16_999, pr_8_9, pr_i_0, pr_i_1, pr_i_2, pr_i_3, pr_i_4, pr_i_5] at h1
      first
      | contradiction
      | exact absurd trivial h1
      | exact absurd h1 (by decide)
      | exact absurd (Classical.not_not.mp h1) (by decide)
      | skip
        refine pr_seqT (pc' := 23) 2 rfl ⟨⟨trivial, trivial⟩, trivial⟩ ?_
        try simp (disch := omega) only [c2, c3, rPg, rRk, rI_mul, nI_add, nI_1, nI_clamp, c219, c220, pr_16_219, pr_16_220, pr_16_999, pr_8_9, pr_i_0, pr_i_1, pr_i_2, pr_i_3, pr_i_4, pr_i_5]
        refine pr_icT rfl (fun h23 => ?_) (fun h23 => ?_)
        · simp only [ab_cmp, pr_16_219, pr_16_220, pr_16_999, pr_8_9, pr_i_0, pr_i_1, pr_i_2, pr_i_3, pr_i_4, pr_i_5] at h23
          first
          | contradiction
          | exact absurd trivial h23
          | exact absurd h23 (by decide)
          | exact absurd (Classical.not_not.mp h23) (by decide)
          | skip
            refine pr_seqT (pc' := 48) 2 rfl ⟨⟨trivial, trivial⟩, trivial⟩ ?_
            try simp (disch := omega) only [c2, c3, rPg, rRk, rI_mul, nI_add, nI_1, nI_clamp, c219, c220, pr_16_219, pr_16_220, pr_16_999, pr_8_9, pr_i_0, pr_i_1, pr_i_2, pr_i_3, pr_i_4, pr_i_5]
            refine pr_icT rfl (fun h48 => ?_) (fun h48 => ?_)
            · simp only [ab_cmp, pr_16_219, pr_16_220, pr_16_999, pr_8_9, pr_i_0, pr_i_1, pr_i_2, pr_i_3, pr_i_4, pr_i_5] at h48
              first
              | contradiction
              | exact absurd trivial h48
              | exact absurd h48 (by decide)
              | exact absurd (Classical.not_not.mp h48) (by decide)
              | skip
                refine pr_seqT (pc' := 60) 2 rfl ⟨⟨trivial, trivial⟩, trivial⟩ ?_
                try simp (disch := omega) only [c2, c3, rPg, rRk, rI_mul, nI_add, nI_1, nI_clamp, c219, c220, pr_16_219, pr_16_220, pr_16_999, pr_8_9, pr_i_0, pr_i_1, pr_i_2, pr_i_3, pr_i_4, pr_i_5]
                refine pr_icT rfl (fun h60 => ?_) (fun h60 => ?_)
                · simp only [ab_cmp, pr_16_219, pr_16_220, pr_16_999, pr_8_9, pr_i_0, pr_i_1, pr_i_2, pr_i_3, pr_i_4, pr_i_5] at h60
                  exact absurd trivial h60
                · simp only [ab_cmp, pr_16_219, pr_16_220, pr_16_999, pr_8_9, pr_i_0, pr_i_1, pr_i_2, pr_i_3, pr_i_4, pr_i_5] at h60
                  first
                  | contradiction
                  | exact absurd trivial h60
                  | exact absurd h60 (by decide)
                  | exact absurd (Classical.not_not.mp h60) (by decide)
                  | skip
                    refine pr_seqT (pc' := 64) 1 rfl ⟨trivial, (by first | decide | assumption)⟩ ?_
                    try simp (disch := omega) only [c2, c3, rPg, rRk, rI_mul, nI_add, nI_1, nI_clamp, c219, c220, pr_16_219, pr_16_220, pr_16_999, pr_8_9, pr_i_0, pr_i_1, pr_i_2, pr_i_3, pr_i_4, pr_i_5]
                    refine pr_cvX [] rfl rfl rfl rfl rfl (Nat.le_of_ble_eq_true rfl) (by first | assumption | decide | (simp (disch := omega) only [c2, c3, rPg, rRk, rI_mul, nI_add, nI_1, nI_clamp, c219, c220, pr_16_219, pr_16_220, pr_16_999, pr_8_9, pr_i_0, pr_i_1, pr_i_2, pr_i_3, pr_i_4, pr_i_5]; first | assumption | exact ⟨Or.inl (by assumption), rvin (by assumption) (by omega) (by decide)⟩ | exact ⟨by assumption, rvin (by assumption) (by omega) (by decide)⟩ | exact ⟨⟨by omega, by omega⟩, rvin (by assumption) (by omega) (by decide)⟩ | exact ⟨Or.inr (by assumption), rvin (by assumption) (by omega) (by decide)⟩ | exact ⟨Or.inr ⟨by assumption, (by first | exact Or.inl rfl | exact Or.inr rfl | exact pr_b01 _)⟩, rvin (by assumption) (by omega) (by decide)⟩ | exact ⟨by assumption, by assumption⟩ | decide | omega)) (Nat.le_of_ble_eq_true rfl) (hq) (fun v64 M64 q64 => ?_)
                    obtain ⟨rfl, w1⟩ := q64
                    refine pr_seqT (pc' := 152) 1 rfl ⟨trivial, trivial⟩ ?_
                    try simp (disch := omega) only [c2, c3, rPg, rRk, rI_mul, nI_add, nI_1, nI_clamp, c219, c220, pr_16_219, pr_16_220, pr_16_999, pr_8_9, pr_i_0, pr_i_1, pr_i_2, pr_i_3, pr_i_4, pr_i_5]
                    exact pr_vrT rfl rfl (by exact ⟨rfl, w1⟩)
            · simp only [ab_cmp, pr_16_219, pr_16_220, pr_16_999, pr_8_9, pr_i_0, pr_i_1, pr_i_2, pr_i_3, pr_i_4, pr_i_5] at h48
              exact absurd (Classical.not_not.mp h48) z2
        · simp only [ab_cmp, pr_16_219, pr_16_220, pr_16_999, pr_8_9, pr_i_0, pr_i_1, pr_i_2, pr_i_3, pr_i_4, pr_i_5] at h23
          exact absurd (Classical.not_not.mp h23) z1
    · simp only [ab_cmp, pr_16_219, pr_16_220, pr_16_999, pr_8_9, pr_i_0, pr_i_1, pr_i_2, pr_i_3, pr_i_4, pr_i_5] at h1
      exact absurd (Classical.not_not.mp h1) z0
  · have z0 : ¬ nI 4 = 0 := by decide
    have z1 : ¬ nI 4 = 1 := by decide
    have z2 : ¬ nI 4 = nI 2 := by decide
    have z3 : ¬ nI 4 = nI 3 := by decide
    rw [if_neg (by decide), if_neg (by decide), if_neg (by decide), if_neg (by decide), if_pos rfl, if_neg (by decide), if_neg (by decide), if_neg (by decide), if_neg (by decide), if_pos rfl]
    have hq := q_names h M hl hw hv he
    refine pr_seqT (pc' := 1) 1 rfl ⟨trivial, trivial⟩ ?_
    try simp (disch := omega) only [c2, c3, c4, rPg, rRk, rI_mul, nI_add, nI_1, nI_clamp, c219, c220, pr_16_219, pr_16_220, pr_16_999, pr_8_9, pr_i_0, pr_i_1, pr_i_2, pr_i_3, pr_i_4, pr_i_5]
    refine pr_ifT rfl (fun h1 => ?_) (fun h1 => ?_)
    · simp only [ab_cmp, pr_16_219, pr_16_220, pr_16_999, pr_8_9, pr_i_0, pr_i_1, pr_i_2, pr_i_3, pr_i_4, pr_i_5] at h1
      first
      | contradiction
      | exact absurd trivial h1
      | exact absurd h1 (by decide)
      | exact absurd (Classical.not_not.mp h1) (by decide)
      | skip
        refine pr_seqT (pc' := 23) 2 rfl ⟨⟨trivial, trivial⟩, trivial⟩ ?_
        try simp (disch := omega) only [c2, c3, c4, rPg, rRk, rI_mul, nI_add, nI_1, nI_clamp, c219, c220, pr_16_219, pr_16_220, pr_16_999, pr_8_9, pr_i_0, pr_i_1, pr_i_2, pr_i_3, pr_i_4, pr_i_5]
        refine pr_icT rfl (fun h23 => ?_) (fun h23 => ?_)
        · simp only [ab_cmp, pr_16_219, pr_16_220, pr_16_999, pr_8_9, pr_i_0, pr_i_1, pr_i_2, pr_i_3, pr_i_4, pr_i_5] at h23
          first
          | contradiction
          | exact absurd trivial h23
          | exact absurd h23 (by decide)
          | exact absurd (Classical.not_not.mp h23) (by decide)
          | skip
            refine pr_seqT (pc' := 48) 2 rfl ⟨⟨trivial, trivial⟩, trivial⟩ ?_
            try simp (disch := omega) only [c2, c3, c4, rPg, rRk, rI_mul, nI_add, nI_1, nI_clamp, c219, c220, pr_16_219, pr_16_220, pr_16_999, pr_8_9, pr_i_0, pr_i_1, pr_i_2, pr_i_3, pr_i_4, pr_i_5]
            refine pr_icT rfl (fun h48 => ?_) (fun h48 => ?_)
            · simp only [ab_cmp, pr_16_219, pr_16_220, pr_16_999, pr_8_9, pr_i_0, pr_i_1, pr_i_2, pr_i_3, pr_i_4, pr_i_5] at h48
              first
              | contradiction
              | exact absurd trivial h48
              | exact absurd h48 (by decide)
              | exact absurd (Classical.not_not.mp h48) (by decide)
              | skip
                refine pr_seqT (pc' := 60) 2 rfl ⟨⟨trivial, trivial⟩, trivial⟩ ?_
                try simp (disch := omega) only [c2, c3, c4, rPg, rRk, rI_mul, nI_add, nI_1, nI_clamp, c219, c220, pr_16_219, pr_16_220, pr_16_999, pr_8_9, pr_i_0, pr_i_1, pr_i_2, pr_i_3, pr_i_4, pr_i_5]
                refine pr_icT rfl (fun h60 => ?_) (fun h60 => ?_)
                · simp only [ab_cmp, pr_16_219, pr_16_220, pr_16_999, pr_8_9, pr_i_0, pr_i_1, pr_i_2, pr_i_3, pr_i_4, pr_i_5] at h60
                  first
                  | contradiction
                  | exact absurd trivial h60
                  | exact absurd h60 (by decide)
                  | exact absurd (Classical.not_not.mp h60) (by decide)
                  | skip
                    refine pr_seqT (pc' := 72) 2 rfl ⟨⟨trivial, trivial⟩, trivial⟩ ?_
                    try simp (disch := omega) only [c2, c3, c4, rPg, rRk, rI_mul, nI_add, nI_1, nI_clamp, c219, c220, pr_16_219, pr_16_220, pr_16_999, pr_8_9, pr_i_0, pr_i_1, pr_i_2, pr_i_3, pr_i_4, pr_i_5]
                    refine pr_icT rfl (fun h72 => ?_) (fun h72 => ?_)
                    · simp only [ab_cmp, pr_16_219, pr_16_220, pr_16_999, pr_8_9, pr_i_0, pr_i_1, pr_i_2, pr_i_3, pr_i_4, pr_i_5] at h72
                      exact absurd trivial h72
                    · simp only [ab_cmp, pr_16_219, pr_16_220, pr_16_999, pr_8_9, pr_i_0, pr_i_1, pr_i_2, pr_i_3, pr_i_4, pr_i_5] at h72
                      first
                      | contradiction
                      | exact absurd trivial h72
                      | exact absurd h72 (by decide)
                      | exact absurd (Classical.not_not.mp h72) (by decide)
                      | skip
                        refine pr_seqT (pc' := 76) 1 rfl ⟨trivial, (by first | decide | assumption)⟩ ?_
                        try simp (disch := omega) only [c2, c3, c4, rPg, rRk, rI_mul, nI_add, nI_1, nI_clamp, c219, c220, pr_16_219, pr_16_220, pr_16_999, pr_8_9, pr_i_0, pr_i_1, pr_i_2, pr_i_3, pr_i_4, pr_i_5]
                        refine pr_cvX [] rfl rfl rfl rfl rfl (Nat.le_of_ble_eq_true rfl) (by first | assumption | decide | (simp (disch := omega) only [c2, c3, c4, rPg, rRk, rI_mul, nI_add, nI_1, nI_clamp, c219, c220, pr_16_219, pr_16_220, pr_16_999, pr_8_9, pr_i_0, pr_i_1, pr_i_2, pr_i_3, pr_i_4, pr_i_5]; first | assumption | exact ⟨Or.inl (by assumption), rvin (by assumption) (by omega) (by decide)⟩ | exact ⟨by assumption, rvin (by assumption) (by omega) (by decide)⟩ | exact ⟨⟨by omega, by omega⟩, rvin (by assumption) (by omega) (by decide)⟩ | exact ⟨Or.inr (by assumption), rvin (by assumption) (by omega) (by decide)⟩ | exact ⟨Or.inr ⟨by assumption, (by first | exact Or.inl rfl | exact Or.inr rfl | exact pr_b01 _)⟩, rvin (by assumption) (by omega) (by decide)⟩ | exact ⟨by assumption, by assumption⟩ | decide | omega)) (Nat.le_of_ble_eq_true rfl) (hq) (fun v76 M76 q76 => ?_)
                        obtain ⟨rfl, w1⟩ := q76
                        refine pr_seqT (pc' := 152) 1 rfl ⟨trivial, trivial⟩ ?_
                        try simp (disch := omega) only [c2, c3, c4, rPg, rRk, rI_mul, nI_add, nI_1, nI_clamp, c219, c220, pr_16_219, pr_16_220, pr_16_999, pr_8_9, pr_i_0, pr_i_1, pr_i_2, pr_i_3, pr_i_4, pr_i_5]
                        exact pr_vrT rfl rfl (by exact ⟨rfl, w1⟩)
                · simp only [ab_cmp, pr_16_219, pr_16_220, pr_16_999, pr_8_9, pr_i_0, pr_i_1, pr_i_2, pr_i_3, pr_i_4, pr_i_5] at h60
                  exact absurd (Classical.not_not.mp h60) z3
            · simp only [ab_cmp, pr_16_219, pr_16_220, pr_16_999, pr_8_9, pr_i_0, pr_i_1, pr_i_2, pr_i_3, pr_i_4, pr_i_5] at h48
              exact absurd (Classical.not_not.mp h48) z2
        · simp only [ab_cmp, pr_16_219, pr_16_220, pr_16_999, pr_8_9, pr_i_0, pr_i_1, pr_i_2, pr_i_3, pr_i_4, pr_i_5] at h23
          exact absurd (Classical.not_not.mp h23) z1
    · simp only [ab_cmp, pr_16_219, pr_16_220, pr_16_999, pr_8_9, pr_i_0, pr_i_1, pr_i_2, pr_i_3, pr_i_4, pr_i_5] at h1
      exact absurd (Classical.not_not.mp h1) z0
  · have z0 : ¬ nI 5 = 0 := by decide
    have z1 : ¬ nI 5 = 1 := by decide
    have z2 : ¬ nI 5 = nI 2 := by decide
    have z3 : ¬ nI 5 = nI 3 := by decide
    have z4 : ¬ nI 5 = nI 4 := by decide
    have c5 : (5 : Int32) = nI 5 := rfl
    rw [if_neg (by decide), if_neg (by decide), if_neg (by decide), if_neg (by decide), if_neg (by decide), if_neg (by decide), if_neg (by decide), if_neg (by decide), if_neg (by decide), if_neg (by decide)]
    have hnu := q_number (lo := 0) (hi := 5) h M hl hw he (by decide) (by decide)
    have hvv := nuV_le (lo := 0) (hi := 5) he (by decide)
    refine pr_seqT (pc' := 1) 1 rfl ⟨trivial, trivial⟩ ?_
    try simp (disch := omega) only [c2, c3, c4, rPg, rRk, rI_mul, nI_add, nI_1, nI_clamp, c219, c220, pr_16_219, pr_16_220, pr_16_999, pr_8_9, pr_i_0, pr_i_1, pr_i_2, pr_i_3, pr_i_4, pr_i_5]
    refine pr_ifT rfl (fun h1 => ?_) (fun h1 => ?_)
    · simp only [ab_cmp, pr_16_219, pr_16_220, pr_16_999, pr_8_9, pr_i_0, pr_i_1, pr_i_2, pr_i_3, pr_i_4, pr_i_5] at h1
      first
      | contradiction
      | exact absurd trivial h1
      | exact absurd h1 (by decide)
      | exact absurd (Classical.not_not.mp h1) (by decide)
      | skip
        refine pr_seqT (pc' := 23) 2 rfl ⟨⟨trivial, trivial⟩, trivial⟩ ?_
        try simp (disch := omega) only [c2, c3, c4, rPg, rRk, rI_mul, nI_add, nI_1, nI_clamp, c219, c220, pr_16_219, pr_16_220, pr_16_999, pr_8_9, pr_i_0, pr_i_1, pr_i_2, pr_i_3, pr_i_4, pr_i_5]
        refine pr_icT rfl (fun h23 => ?_) (fun h23 => ?_)
        · simp only [ab_cmp, pr_16_219, pr_16_220, pr_16_999, pr_8_9, pr_i_0, pr_i_1, pr_i_2, pr_i_3, pr_i_4, pr_i_5] at h23
          first
          | contradiction
          | exact absurd trivial h23
          | exact absurd h23 (by decide)
          | exact absurd (Classical.not_not.mp h23) (by decide)
          | skip
            refine pr_seqT (pc' := 48) 2 rfl ⟨⟨trivial, trivial⟩, trivial⟩ ?_
            try simp (disch := omega) only [c2, c3, c4, rPg, rRk, rI_mul, nI_add, nI_1, nI_clamp, c219, c220, pr_16_219, pr_16_220, pr_16_999, pr_8_9, pr_i_0, pr_i_1, pr_i_2, pr_i_3, pr_i_4, pr_i_5]
            refine pr_icT rfl (fun h48 => ?_) (fun h48 => ?_)
            · simp only [ab_cmp, pr_16_219, pr_16_220, pr_16_999, pr_8_9, pr_i_0, pr_i_1, pr_i_2, pr_i_3, pr_i_4, pr_i_5] at h48
              first
              | contradiction
              | exact absurd trivial h48
              | exact absurd h48 (by decide)
              | exact absurd (Classical.not_not.mp h48) (by decide)
              | skip
                refine pr_seqT (pc' := 60) 2 rfl ⟨⟨trivial, trivial⟩, trivial⟩ ?_
                try simp (disch := omega) only [c2, c3, c4, rPg, rRk, rI_mul, nI_add, nI_1, nI_clamp, c219, c220, pr_16_219, pr_16_220, pr_16_999, pr_8_9, pr_i_0, pr_i_1, pr_i_2, pr_i_3, pr_i_4, pr_i_5]
                refine pr_icT rfl (fun h60 => ?_) (fun h60 => ?_)
                · simp only [ab_cmp, pr_16_219, pr_16_220, pr_16_999, pr_8_9, pr_i_0, pr_i_1, pr_i_2, pr_i_3, pr_i_4, pr_i_5] at h60
                  first
                  | contradiction
                  | exact absurd trivial h60
                  | exact absurd h60 (by decide)
                  | exact absurd (Classical.not_not.mp h60) (by decide)
                  | skip
                    refine pr_seqT (pc' := 72) 2 rfl ⟨⟨trivial, trivial⟩, trivial⟩ ?_
                    try simp (disch := omega) only [c2, c3, c4, rPg, rRk, rI_mul, nI_add, nI_1, nI_clamp, c219, c220, pr_16_219, pr_16_220, pr_16_999, pr_8_9, pr_i_0, pr_i_1, pr_i_2, pr_i_3, pr_i_4, pr_i_5]
                    refine pr_icT rfl (fun h72 => ?_) (fun h72 => ?_)
                    · simp only [ab_cmp, pr_16_219, pr_16_220, pr_16_999, pr_8_9, pr_i_0, pr_i_1, pr_i_2, pr_i_3, pr_i_4, pr_i_5] at h72
                      first
                      | contradiction
                      | exact absurd trivial h72
                      | exact absurd h72 (by decide)
                      | exact absurd (Classical.not_not.mp h72) (by decide)
                      | skip
                        refine pr_seqT (pc' := 85) 3 rfl ⟨⟨⟨trivial, (by first | decide | assumption)⟩, trivial⟩, trivial⟩ ?_
                        try simp (disch := omega) only [c2, c3, c4, rPg, rRk, rI_mul, nI_add, nI_1, nI_clamp, c219, c220, pr_16_219, pr_16_220, pr_16_999, pr_8_9, pr_i_0, pr_i_1, pr_i_2, pr_i_3, pr_i_4, pr_i_5]
                        refine pr_cvX [_, _] rfl rfl rfl rfl rfl (Nat.le_of_ble_eq_true rfl) (by first | assumption | decide | (simp (disch := omega) only [c2, c3, c4, rPg, rRk, rI_mul, nI_add, nI_1, nI_clamp, c219, c220, pr_16_219, pr_16_220, pr_16_999, pr_8_9, pr_i_0, pr_i_1, pr_i_2, pr_i_3, pr_i_4, pr_i_5]; first | assumption | exact ⟨Or.inl (by assumption), rvin (by assumption) (by omega) (by decide)⟩ | exact ⟨by assumption, rvin (by assumption) (by omega) (by decide)⟩ | exact ⟨⟨by omega, by omega⟩, rvin (by assumption) (by omega) (by decide)⟩ | exact ⟨Or.inr (by assumption), rvin (by assumption) (by omega) (by decide)⟩ | exact ⟨Or.inr ⟨by assumption, (by first | exact Or.inl rfl | exact Or.inr rfl | exact pr_b01 _)⟩, rvin (by assumption) (by omega) (by decide)⟩ | exact ⟨by assumption, by assumption⟩ | decide | omega)) (Nat.le_of_ble_eq_true rfl) (hnu) (fun v85 M85 q85 => ?_)
                        obtain ⟨rfl, w1, w2, w3⟩ := q85
                        obtain ⟨I1, Z1⟩ := M85
                        dsimp only at w1 w2 w3
                        subst w1
                        exact mo_5 h M hl hw hv (h6 rfl) hvv.2 w2 w3
                    · simp only [ab_cmp, pr_16_219, pr_16_220, pr_16_999, pr_8_9, pr_i_0, pr_i_1, pr_i_2, pr_i_3, pr_i_4, pr_i_5] at h72
                      exact absurd (Classical.not_not.mp h72) z4
                · simp only [ab_cmp, pr_16_219, pr_16_220, pr_16_999, pr_8_9, pr_i_0, pr_i_1, pr_i_2, pr_i_3, pr_i_4, pr_i_5] at h60
                  exact absurd (Classical.not_not.mp h60) z3
            · simp only [ab_cmp, pr_16_219, pr_16_220, pr_16_999, pr_8_9, pr_i_0, pr_i_1, pr_i_2, pr_i_3, pr_i_4, pr_i_5] at h48
              exact absurd (Classical.not_not.mp h48) z2
        · simp only [ab_cmp, pr_16_219, pr_16_220, pr_16_999, pr_8_9, pr_i_0, pr_i_1, pr_i_2, pr_i_3, pr_i_4, pr_i_5] at h23
          exact absurd (Classical.not_not.mp h23) z1
    · simp only [ab_cmp, pr_16_219, pr_16_220, pr_16_999, pr_8_9, pr_i_0, pr_i_1, pr_i_2, pr_i_3, pr_i_4, pr_i_5] at h1
      exact absurd (Classical.not_not.mp h1) z0
