
/-! ===== the reference's reader: THE LIST ===== -/
theorem gdl_l {L : List (List Nat)} {q : List Nat} {i : Nat} (h : i < L.length) : (L ++ [q]).getD i [] = L.getD i [] := by
  rw [List.getD_eq_getElem?_getD, List.getD_eq_getElem?_getD, List.getElem?_append_left h]
theorem gdl_r {L : List (List Nat)} {q : List Nat} : (L ++ [q]).getD L.length [] = q := by
  rw [List.getD_eq_getElem?_getD, List.getElem?_append_right (Nat.le_refl _), Nat.sub_self]
  rfl
theorem ltrs_g {w : List Nat} {s m j : Nat} (hj : j < m) : (ltrs w s m).getD j 0 = w.getD (s + j) 0 - 97 := by
  unfold ltrs
  rw [List.getD_eq_getElem?_getD, List.getElem?_map, List.getElem?_range hj]
  rfl
theorem pv_name {I N : Nat → Nat → Int32} {P : PS} {nm : List Nat} (hv : pv I P) (h6 : P.1.2.1.length < 6) (h10 : nm.length ≤ 10) (ha : ∀ a, a ≠ 172 → a ≠ 177 → N a = I a) (hj : ∀ j, j < 16 → j ≠ 8 → N 172 j = I 172 j) (h8 : N 172 8 = nI (P.1.2.1.length + 1)) (ho : ∀ j, j < 11 * P.1.2.1.length → N 177 j = I 177 j) (c0 : N 177 (11 * P.1.2.1.length) = nI nm.length) (cl : ∀ j, j < nm.length → N 177 (11 * P.1.2.1.length + 1 + j) = nI (nm.getD j 0) ∧ nm.getD j 0 < 26) : pv N (pLst P nm) := by
  obtain ⟨v1, ⟨v2, v3, v4⟩, ⟨v5, v6, v7⟩, v8, v9, v10⟩ := hv
  have hlen : (P.1.2.1 ++ [nm]).length = P.1.2.1.length + 1 := by rw [List.length_append]; rfl
  refine ⟨by rw [ha 176 (by decide) (by decide)]; exact v1, ⟨by show N 172 8 = nI (P.1.2.1 ++ [nm]).length; rw [hlen]; exact h8, by show (P.1.2.1 ++ [nm]).length ≤ 6; omega, fun n hn => ?_⟩, ⟨by rw [hj 9 (by decide) (by decide)]; exact v5, v6, by rw [ha 178 (by decide) (by decide)]; exact v7⟩, by rw [hj 10 (by decide) (by decide)]; exact v8, by rw [hj 11 (by decide) (by decide)]; exact v9, by rw [hj 12 (by decide) (by decide)]; exact v10⟩
  have hn : n < P.1.2.1.length + 1 := by rw [← hlen]; exact hn
  show N 177 (11 * n) = nI ((P.1.2.1 ++ [nm]).getD n []).length ∧ ((P.1.2.1 ++ [nm]).getD n []).length ≤ 10 ∧ ∀ j, j < ((P.1.2.1 ++ [nm]).getD n []).length → N 177 (11 * n + 1 + j) = nI (((P.1.2.1 ++ [nm]).getD n []).getD j 0) ∧ ((P.1.2.1 ++ [nm]).getD n []).getD j 0 < 26
  by_cases e : n = P.1.2.1.length
  · subst e
    rw [gdl_r]
    exact ⟨c0, h10, cl⟩
  · rw [gdl_l (by omega)]
    obtain ⟨u1, u2, u3⟩ := v4 n (by omega)
    exact ⟨by rw [ho _ (by omega)]; exact u1, u2, fun j hj => by rw [ho _ (by omega)]; exact u3 j hj⟩
theorem nm_body {w : List Nat} {P : PS} {p : Nat} {I : Nat → Nat → Int32} {Q : Option Value → ab_M → Prop} {z1 z2 z3 : Option Value} (h : ab_H) (M : ab_M) (hl : rL h M.2.2) (hw : tp_r M.1 w) (hf : lfr M.1 I) (hv : pv I P) (he : rs2 I w (.ok p)) (K : ∀ P' N z2 z3, aLst w P (tok w p) = .ok P' → lfr M.1 N → pv N P' → rs2 N w (stN w (tok w p).2.2.1) → pr_T pX11_readNamesMore 2 [some (.ref 172), some (.int 0), z2, z3] [] h (N, M.2) Q) (KE : ∀ q N, aLst w P (tok w p) = .error q → lfr M.1 N → rs2 N w (.error q) → Q none (N, M.2.1, M.2.2)) : pr_T pX11_readNamesMore 21 [some (.ref 172), z1, z2, z3] [] h (I, M.2) Q := by
  obtain ⟨k172, rS, rLs, rKn, rPg, rRl, rRk, rTp, rCu, rLe, rLt, rSm, rIk, rLn, rLg, rCe, ⟨kS, nS⟩, ⟨kLs, nLs⟩, ⟨kKn, nKn⟩, ⟨kPg, nPg⟩, ⟨kRl, nRl⟩, ⟨kRk, nRk⟩, ⟨kTp, nTp⟩, ⟨kCu, nCu⟩, ⟨kLe, nLe⟩, ⟨kLt, nLt⟩, ⟨kSm, nSm⟩, ⟨kIk, nIk⟩, ⟨kLn, nLn⟩, ⟨kLg, nLg⟩, kCe, nCe⟩ := id hl
  have hwI := lfr_tp hf hw
  have hw2 := hw.2.1
  obtain ⟨e0, e1, e2, e3, e4, e5, e6⟩ := id he
  have hle := tok_le e0
  obtain ⟨g8, g8b, g8c⟩ := hv.2.1
  have c6 : (6 : Int32) = nI 6 := rfl
  have c10' : (10 : Int32) = nI 10 := rfl
  have c97 : (97 : Int32) = nI 97 := rfl
  have hlo := q_longHere (mx := 10) h (I, M.2) hl hwI he (by decide)
  have f5 := q_flN (c := 5) (x := 5) rfl (by decide) h (I, M.2) hl he
  have hE : loE w 10 (.ok p) = match tWord w 10 p with
    | .error q => .error q
    | .ok _ => .ok p := rfl
  have hV : loV w 10 (.ok p) = match tWord w 10 p with
    | .error _ => 0
    | .ok x => x.2 - x.1 := rfl
  have errL : ∀ q, tWord w 10 p = .error q → aLst w P (tok w p) = .error q → ∀ z1 z3, pr_T pX11_readNamesMore 46 [some (.ref 172), some (.int z1), z2, z3] [] h (I, M.2) Q := by
    intro q ct ha z1 z3
    rw [ct] at hE
    rw [hE] at hlo
    have fin : ∀ N z2, lfr M.1 N → rs2 N w (.error q) → pr_T pX11_readNamesMore 2 [some (.ref 172), some (.int z1), z2, z3] [] h (N, M.2) Q := by
      intro N z2 hN hq
      have g := hq.1
      have en : ¬ nI q.1 = 0 := nI_ne0 (by have := hq.2.1; omega) (by have := hq.2.1; omega)
      refine pr_seqT (pc' := 6) 2 rfl ⟨⟨trivial, (by first | decide | assumption)⟩, (by assumption)⟩ ?_
      try simp (disch := omega) only [g, rRl, rI_mul, nI_add, nI_1, nI_clamp, c11, pr_8_10, pr_8_11, pr_8_6, pr_8_97, pr_i_0, pr_i_1, pr_i_5]
      refine pr_ifT rfl (fun h6 => ?_) (fun h6 => ?_)
      · simp only [ab_cmp, pr_8_10, pr_8_11, pr_8_6, pr_8_97, pr_i_0, pr_i_1, pr_i_5] at h6
        first
        | contradiction
        | exact absurd trivial h6
        | exact absurd h6 (by decide)
        | exact absurd (Classical.not_not.mp h6) (by decide)
        | skip
          exact pr_vrT rfl rfl (by exact KE q N ha hN hq)
      · simp only [ab_cmp, pr_8_10, pr_8_11, pr_8_6, pr_8_97, pr_i_0, pr_i_1, pr_i_5] at h6
        exact absurd (Classical.not_not.mp h6) en
    refine pr_seqT (pc' := 49) 2 rfl ⟨⟨trivial, (by first | decide | assumption)⟩, trivial⟩ ?_
    try simp (disch := omega) only [c10', rRl, rI_mul, nI_add, nI_1, nI_clamp, c11, pr_8_10, pr_8_11, pr_8_6, pr_8_97, pr_i_0, pr_i_1, pr_i_5]
    refine pr_cvX [_] rfl rfl rfl rfl rfl (Nat.le_of_ble_eq_true rfl) (by first | assumption | decide | (simp (disch := omega) only [c10', rRl, rI_mul, nI_add, nI_1, nI_clamp, c11, pr_8_10, pr_8_11, pr_8_6, pr_8_97, pr_i_0, pr_i_1, pr_i_5]; first | assumption | exact ⟨Or.inl (by assumption), rvin (by assumption) (by omega) (by decide)⟩ | exact ⟨by assumption, rvin (by assumption) (by omega) (by decide)⟩ | exact ⟨⟨by omega, by omega⟩, rvin (by assumption) (by omega) (by decide)⟩ | exact ⟨Or.inr (by assumption), rvin (by assumption) (by omega) (by decide)⟩ | exact ⟨Or.inr ⟨by assumption, (by first | exact Or.inl rfl | exact Or.inr rfl | exact pr_b01 _)⟩, rvin (by assumption) (by omega) (by decide)⟩ | exact ⟨by assumption, by assumption⟩ | decide | omega)) (Nat.le_of_ble_eq_true rfl) (hlo) (fun v49 M49 q49 => ?_)
    obtain ⟨rfl, w1, w2, w3⟩ := q49
    obtain ⟨I1, Z1⟩ := M49
    dsimp only at w1 w2 w3
    subst w1
    have g := w3.1
    have en : ¬ nI q.1 = 0 := nI_ne0 (by have := w3.2.1; omega) (by have := w3.2.1; omega)
    have hst := q_stepB h (I1, M.2) hl w3.1 w3.2.1
    refine pr_seqT (pc' := 57) 3 rfl ⟨⟨⟨trivial, trivial⟩, (by first | decide | assumption)⟩, (by assumption)⟩ ?_
    try simp (disch := omega) only [c10', rRl, rI_mul, nI_add, nI_1, nI_clamp, c11, pr_8_10, pr_8_11, pr_8_6, pr_8_97, pr_i_0, pr_i_1, pr_i_5]
    simp only [g]
    refine pr_ifT rfl (fun h57 => ?_) (fun h57 => ?_)
    · simp only [ab_cmp, pr_8_10, pr_8_11, pr_8_6, pr_8_97, pr_i_0, pr_i_1, pr_i_5] at h57
      first
      | contradiction
      | exact absurd trivial h57
      | exact absurd h57 (by decide)
      | exact absurd (Classical.not_not.mp h57) (by decide)
      | skip
        refine pr_seqT (pc' := 126) 1 rfl ⟨trivial, (by first | decide | assumption)⟩ ?_
        try simp (disch := omega) only [c10', rRl, rI_mul, nI_add, nI_1, nI_clamp, c11, pr_8_10, pr_8_11, pr_8_6, pr_8_97, pr_i_0, pr_i_1, pr_i_5]
        refine pr_cvT [] rfl rfl rfl rfl rfl (Nat.le_of_ble_eq_true rfl) (by first | assumption | decide | (simp (disch := omega) only [c10', rRl, rI_mul, nI_add, nI_1, nI_clamp, c11, pr_8_10, pr_8_11, pr_8_6, pr_8_97, pr_i_0, pr_i_1, pr_i_5]; first | assumption | exact ⟨Or.inl (by assumption), rvin (by assumption) (by omega) (by decide)⟩ | exact ⟨by assumption, rvin (by assumption) (by omega) (by decide)⟩ | exact ⟨⟨by omega, by omega⟩, rvin (by assumption) (by omega) (by decide)⟩ | exact ⟨Or.inr (by assumption), rvin (by assumption) (by omega) (by decide)⟩ | exact ⟨Or.inr ⟨by assumption, (by first | exact Or.inl rfl | exact Or.inr rfl | exact pr_b01 _)⟩, rvin (by assumption) (by omega) (by decide)⟩ | exact ⟨by assumption, by assumption⟩ | decide | omega)) (Nat.le_of_ble_eq_true rfl) (hst) ?_
        refine pr_seqT (pc' := 2) 1 rfl ⟨trivial, trivial⟩ ?_
        try simp (disch := omega) only [c10', rRl, rI_mul, nI_add, nI_1, nI_clamp, c11, pr_8_10, pr_8_11, pr_8_6, pr_8_97, pr_i_0, pr_i_1, pr_i_5]
        exact fin I1 _ (lfr_tr hf (lfr_r w2)) w3
    · simp only [ab_cmp, pr_8_10, pr_8_11, pr_8_6, pr_8_97, pr_i_0, pr_i_1, pr_i_5] at h57
      exact absurd (Classical.not_not.mp h57) en
  by_cases ct : (tok w p).1 = 1
  · have zt : nI (tok w p).1 = 1 := by rw [ct]; rfl
    by_cases c6' : P.1.2.1.length = 6
    · have z6 : nI P.1.2.1.length = nI 6 := by rw [c6']
      have ha : aLst w P (tok w p) = .error (5, (tok w p).2.1) := by unfold aLst; rw [if_pos ct, if_pos (by omega)]
      refine pr_seqT (pc' := 28) 5 rfl ⟨⟨⟨⟨⟨trivial, trivial⟩, trivial⟩, (by first | decide | assumption)⟩, (by assumption)⟩, trivial⟩ ?_
      try simp (disch := omega) only [e5, c6, g8, rRl, rI_mul, nI_add, nI_1, nI_clamp, c11, pr_8_10, pr_8_11, pr_8_6, pr_8_97, pr_i_0, pr_i_1, pr_i_5]
      refine pr_icT rfl (fun h28 => ?_) (fun h28 => ?_)
      · simp only [ab_cmp, pr_8_10, pr_8_11, pr_8_6, pr_8_97, pr_i_0, pr_i_1, pr_i_5] at h28
        exact absurd zt h28
      · simp only [ab_cmp, pr_8_10, pr_8_11, pr_8_6, pr_8_97, pr_i_0, pr_i_1, pr_i_5] at h28
        first
        | contradiction
        | exact absurd trivial h28
        | exact absurd h28 (by decide)
        | exact absurd (Classical.not_not.mp h28) (by decide)
        | skip
          refine pr_seqT (pc' := 37) 3 rfl ⟨⟨⟨trivial, (by first | decide | assumption)⟩, (by assumption)⟩, trivial⟩ ?_
          try simp (disch := omega) only [e5, c6, g8, rRl, rI_mul, nI_add, nI_1, nI_clamp, c11, pr_8_10, pr_8_11, pr_8_6, pr_8_97, pr_i_0, pr_i_1, pr_i_5]
          refine pr_icT rfl (fun h37 => ?_) (fun h37 => ?_)
          · simp only [ab_cmp, pr_8_10, pr_8_11, pr_8_6, pr_8_97, pr_i_0, pr_i_1, pr_i_5] at h37
            exact absurd z6 h37
          · simp only [ab_cmp, pr_8_10, pr_8_11, pr_8_6, pr_8_97, pr_i_0, pr_i_1, pr_i_5] at h37
            first
            | contradiction
            | exact absurd trivial h37
            | exact absurd h37 (by decide)
            | exact absurd (Classical.not_not.mp h37) (by decide)
            | skip
              refine pr_seqT (pc' := 42) 2 rfl ⟨⟨trivial, (by first | decide | assumption)⟩, trivial⟩ ?_
              try simp (disch := omega) only [e5, c6, g8, rRl, rI_mul, nI_add, nI_1, nI_clamp, c11, pr_8_10, pr_8_11, pr_8_6, pr_8_97, pr_i_0, pr_i_1, pr_i_5]
              refine pr_cvX [_] rfl rfl rfl rfl rfl (Nat.le_of_ble_eq_true rfl) (by first | assumption | decide | (simp (disch := omega) only [e5, c6, g8, rRl, rI_mul, nI_add, nI_1, nI_clamp, c11, pr_8_10, pr_8_11, pr_8_6, pr_8_97, pr_i_0, pr_i_1, pr_i_5]; first | assumption | exact ⟨Or.inl (by assumption), rvin (by assumption) (by omega) (by decide)⟩ | exact ⟨by assumption, rvin (by assumption) (by omega) (by decide)⟩ | exact ⟨⟨by omega, by omega⟩, rvin (by assumption) (by omega) (by decide)⟩ | exact ⟨Or.inr (by assumption), rvin (by assumption) (by omega) (by decide)⟩ | exact ⟨Or.inr ⟨by assumption, (by first | exact Or.inl rfl | exact Or.inr rfl | exact pr_b01 _)⟩, rvin (by assumption) (by omega) (by decide)⟩ | exact ⟨by assumption, by assumption⟩ | decide | omega)) (Nat.le_of_ble_eq_true rfl) (f5) (fun v42 M42 q42 => ?_)
              obtain ⟨rfl, w1, w2, w3⟩ := q42
              obtain ⟨I1, Z1⟩ := M42
              dsimp only at w1 w2 w3
              subst w1
              exact pr_vrT rfl rfl (by exact KE _ I1 ha (lfr_tr hf (lfr_r w2)) w3)
    · have z6 : ¬ nI P.1.2.1.length = nI 6 := nI_ne c6' (by omega) (by decide)
      by_cases c10 : (tok w p).2.2.1 - (tok w p).2.1 ≤ 10
      · have cw : tWord w 10 p = .ok ((tok w p).2.1, (tok w p).2.2.1) := by unfold tWord; rw [if_neg e1, if_pos ct, if_pos c10]
        have ha : aLst w P (tok w p) = .ok (pLst P (ltrs w (tok w p).2.1 ((tok w p).2.2.1 - (tok w p).2.1))) := by unfold aLst; rw [if_pos ct, if_neg (by omega), if_pos c10]
        rw [cw] at hE hV
        rw [hE, hV] at hlo
        dsimp only at hlo
        have K1 := fun N z2 z3 => K _ N z2 z3 ha
        have hls := tok_word e0 ct
        generalize hs : (tok w p).2.1 = s at *
        generalize hn : (tok w p).2.2.1 = nx at *
        have loop : ∀ N0 : Nat → Nat → Int32, rfr I N0 → rs2 N0 w (.ok p) → ∀ dd i, i + dd = nx - s → ∀ N : Nat → Nat → Int32, (∀ a, a ≠ 177 → N a = N0 a) → (∀ j, j < 11 * P.1.2.1.length → N 177 j = I 177 j) → N 177 (11 * P.1.2.1.length) = nI (nx - s) → (∀ j, j < i → N 177 (11 * P.1.2.1.length + 1 + j) = nI (w.getD (s + j) 0 - 97)) → pr_T pX11_readNamesMore 75 [some (.ref 172), some (.int 0), some (.int (nI (nx - s))), some (.int (nI i))] [] h (N, M.2) Q := by
          intro N0 r0 he0 dd
          have e19 : N0 172 19 = nI s := by rw [← hs]; exact he0.2.2.2.2.1
          have n8 : N0 172 8 = nI P.1.2.1.length := by rw [r0.2 8 (by decide)]; exact g8
          induction dd with
          | zero =>
            intro i hi N m1 m2 m3 m4
            obtain rfl : i = nx - s := by omega
            have q1 : nI (nx - s) ≤ nI (nx - s) := nI_le (Nat.le_refl _) (by omega)
            have n8' : N 172 8 = nI P.1.2.1.length := by rw [m1 172 (by decide)]; exact n8
            have hfN : lfr M.1 (ab_u N 172 8 (nI (P.1.2.1.length + 1))) := lfr_tr hf (lfr_tr (lfr_r r0) (lfr_tr (I' := N) ⟨fun a _ _ a3 _ => m1 a a3, fun j _ => by rw [m1 172 (by decide)]⟩ (lfr_u (by decide))))
            have hpv : pv (ab_u N 172 8 (nI (P.1.2.1.length + 1))) (pLst P (ltrs w s (nx - s))) := by
              refine pv_name hv (by omega) (by rw [ltrs_len]; exact c10) (fun a a1 a2 => by rw [ab_u_ne a1, m1 a a2]; exact r0.1 a a1) (fun j j1 j2 => by rw [ab_u_j j2, m1 172 (by decide)]; exact r0.2 j (by omega)) ab_u_at (fun j hj => by rw [ab_u_ne (by decide)]; exact m2 j hj) (by rw [ab_u_ne (by decide), ltrs_len]; exact m3) (fun j hj => ?_)
              rw [ltrs_len] at hj
              rw [ltrs_g hj, ab_u_ne (by decide)]
              have := hls (s + j) (by omega) (by omega)
              exact ⟨m4 j hj, by omega⟩
            have hst := q_adv (e := .ok p) h (ab_u N 172 8 (nI (P.1.2.1.length + 1)), M.2) hl (lfr_tp hfN hw) (rs2_u (Or.inr (by decide)) (by
              obtain ⟨y0, y1, y2, y3, y4, y5, y6⟩ := he0
              unfold rs2
              rw [m1 172 (by decide)]
              exact ⟨y0, y1, y2, y3, y4, y5, y6⟩))
            rw [show adN w (.ok p) = stN w nx by rw [← hn]; rfl] at hst
            refine pr_seqT (pc' := 77) 2 rfl ⟨⟨trivial, trivial⟩, trivial⟩ ?_
            try simp (disch := omega) only [n8', rRl, rI_mul, nI_add, nI_1, nI_clamp, c11, pr_8_10, pr_8_11, pr_8_6, pr_8_97, pr_i_0, pr_i_1, pr_i_5]
            refine pr_icT rfl (fun h77 => ?_) (fun h77 => ?_)
            · simp only [ab_cmp, pr_8_10, pr_8_11, pr_8_6, pr_8_97, pr_i_0, pr_i_1, pr_i_5] at h77
              first
              | contradiction
              | exact absurd trivial h77
              | exact absurd h77 (by decide)
              | exact absurd (Classical.not_not.mp h77) (by decide)
              | skip
                refine pr_seqT (pc' := 126) 7 rfl ⟨⟨⟨⟨⟨⟨⟨trivial, (by first | decide | assumption)⟩, trivial⟩, (by assumption)⟩, trivial⟩, trivial⟩, (by first | assumption | exact ⟨by assumption, by decide⟩ | exact ⟨by assumption, pr_b01 _⟩)⟩, (by first | decide | assumption)⟩ ?_
                try simp (disch := omega) only [n8', rRl, rI_mul, nI_add, nI_1, nI_clamp, c11, pr_8_10, pr_8_11, pr_8_6, pr_8_97, pr_i_0, pr_i_1, pr_i_5]
                refine pr_cvX [] rfl rfl rfl rfl rfl (Nat.le_of_ble_eq_true rfl) (by first | assumption | decide | (simp (disch := omega) only [n8', rRl, rI_mul, nI_add, nI_1, nI_clamp, c11, pr_8_10, pr_8_11, pr_8_6, pr_8_97, pr_i_0, pr_i_1, pr_i_5]; first | assumption | exact ⟨Or.inl (by assumption), rvin (by assumption) (by omega) (by decide)⟩ | exact ⟨by assumption, rvin (by assumption) (by omega) (by decide)⟩ | exact ⟨⟨by omega, by omega⟩, rvin (by assumption) (by omega) (by decide)⟩ | exact ⟨Or.inr (by assumption), rvin (by assumption) (by omega) (by decide)⟩ | exact ⟨Or.inr ⟨by assumption, (by first | exact Or.inl rfl | exact Or.inr rfl | exact pr_b01 _)⟩, rvin (by assumption) (by omega) (by decide)⟩ | exact ⟨by assumption, by assumption⟩ | decide | omega)) (Nat.le_of_ble_eq_true rfl) (hst) (fun v126 M126 q126 => ?_)
                obtain ⟨rfl, w1, w2, w3⟩ := q126
                obtain ⟨I1, Z1⟩ := M126
                dsimp only at w1 w2 w3
                subst w1
                refine pr_seqT (pc' := 2) 1 rfl ⟨trivial, trivial⟩ ?_
                try simp (disch := omega) only [n8', rRl, rI_mul, nI_add, nI_1, nI_clamp, c11, pr_8_10, pr_8_11, pr_8_6, pr_8_97, pr_i_0, pr_i_1, pr_i_5]
                exact K1 I1 _ _ (lfr_tr hfN (lfr_r w2)) (pv_rfr w2 hpv) w3
            · simp only [ab_cmp, pr_8_10, pr_8_11, pr_8_6, pr_8_97, pr_i_0, pr_i_1, pr_i_5] at h77
              exact absurd q1 h77
          | succ dd ih =>
            intro i hi N m1 m2 m3 m4
            have q1 : ¬ nI (nx - s) ≤ nI i := nI_ge (by omega) (by omega)
            obtain ⟨b1, b2⟩ := hls (s + i) (by omega) (by omega)
            have n8' : N 172 8 = nI P.1.2.1.length := by rw [m1 172 (by decide)]; exact n8
            have e19' : N 172 19 = nI s := by rw [m1 172 (by decide)]; exact e19
            have hby := q_byteAt (q := s + i) h (N, M.2) hl (tr_cong (show N 172 14 = N0 172 14 by rw [m1 172 (by decide)]) (m1 179 (by decide)) (rfr_tp r0 hwI)) (by omega)
            rw [show bA w (s + i) = nI (w.getD (s + i) 0) by unfold bA; rw [if_pos (by omega)]] at hby
            have esub : nI (w.getD (s + i) 0) - nI 97 = nI (w.getD (s + i) 0 - 97) := i_sub b1
            have hh := ih (i + 1) (by omega) (ab_u N 177 (11 * P.1.2.1.length + 1 + i) (nI (w.getD (s + i) 0 - 97))) (fun a ha => by rw [ab_u_ne ha]; exact m1 a ha) (fun j hj => by rw [ab_u_j (by omega)]; exact m2 j hj) (by rw [ab_u_j (by omega)]; exact m3) (fun j hj => by
              by_cases e : j = i
              · rw [e, ab_u_at]
              · rw [ab_u_j (by omega)]; exact m4 j (by omega))
            refine pr_seqT (pc' := 77) 2 rfl ⟨⟨trivial, trivial⟩, trivial⟩ ?_
            try simp (disch := omega) only [n8', e19', c97, esub, rRl, rI_mul, nI_add, nI_1, nI_clamp, c11, pr_8_10, pr_8_11, pr_8_6, pr_8_97, pr_i_0, pr_i_1, pr_i_5]
            refine pr_icT rfl (fun h77 => ?_) (fun h77 => ?_)
            · simp only [ab_cmp, pr_8_10, pr_8_11, pr_8_6, pr_8_97, pr_i_0, pr_i_1, pr_i_5] at h77
              exact absurd h77 q1
            · simp only [ab_cmp, pr_8_10, pr_8_11, pr_8_6, pr_8_97, pr_i_0, pr_i_1, pr_i_5] at h77
              first
              | contradiction
              | exact absurd trivial h77
              | exact absurd h77 (by decide)
              | exact absurd (Classical.not_not.mp h77) (by decide)
              | skip
                refine pr_seqT (pc' := 102) 15 rfl ⟨⟨⟨⟨⟨⟨⟨⟨⟨⟨⟨⟨⟨⟨⟨trivial, (by first | decide | assumption)⟩, (by assumption)⟩, trivial⟩, (by first | decide | assumption)⟩, (by assumption)⟩, trivial⟩, trivial⟩, trivial⟩, trivial⟩, trivial⟩, (by first | decide | assumption)⟩, (by first | decide | assumption)⟩, (by assumption)⟩, trivial⟩, trivial⟩ ?_
                try simp (disch := omega) only [n8', e19', c97, esub, rRl, rI_mul, nI_add, nI_1, nI_clamp, c11, pr_8_10, pr_8_11, pr_8_6, pr_8_97, pr_i_0, pr_i_1, pr_i_5]
                refine pr_cvT [_] rfl rfl rfl rfl rfl (Nat.le_of_ble_eq_true rfl) (by first | assumption | decide | (simp (disch := omega) only [n8', e19', c97, esub, rRl, rI_mul, nI_add, nI_1, nI_clamp, c11, pr_8_10, pr_8_11, pr_8_6, pr_8_97, pr_i_0, pr_i_1, pr_i_5]; first | assumption | exact ⟨Or.inl (by assumption), rvin (by assumption) (by omega) (by decide)⟩ | exact ⟨by assumption, rvin (by assumption) (by omega) (by decide)⟩ | exact ⟨⟨by omega, by omega⟩, rvin (by assumption) (by omega) (by decide)⟩ | exact ⟨Or.inr (by assumption), rvin (by assumption) (by omega) (by decide)⟩ | exact ⟨Or.inr ⟨by assumption, (by first | exact Or.inl rfl | exact Or.inr rfl | exact pr_b01 _)⟩, rvin (by assumption) (by omega) (by decide)⟩ | exact ⟨by assumption, by assumption⟩ | decide | omega)) (Nat.le_of_ble_eq_true rfl) (hby) ?_
                refine pr_seqT (pc' := 75) 5 rfl ⟨⟨⟨⟨⟨trivial, trivial⟩, trivial⟩, (by (try simp (disch := omega) only [n8', e19', c97, esub, rRl, rI_mul, nI_add, nI_1, nI_clamp, c11, pr_8_10, pr_8_11, pr_8_6, pr_8_97, pr_i_0, pr_i_1, pr_i_5]); exact ⟨by assumption, rvin (by assumption) (by omega) (by decide)⟩)⟩, trivial⟩, trivial⟩ ?_
                try simp (disch := omega) only [n8', e19', c97, esub, rRl, rI_mul, nI_add, nI_1, nI_clamp, c11, pr_8_10, pr_8_11, pr_8_6, pr_8_97, pr_i_0, pr_i_1, pr_i_5]
                exact hh
        have fin2 : ∀ N0 : Nat → Nat → Int32, rfr I N0 → rs2 N0 w (.ok p) → ∀ z3, pr_T pX11_readNamesMore 53 [some (.ref 172), some (.int 0), some (.int (nI (nx - s))), z3] [] h (N0, M.2) Q := by
          intro N0 w2 w3 z3
          have k16 := w3.2.2.1
          have k8 : N0 172 8 = nI P.1.2.1.length := by rw [w2.2 8 (by decide)]; exact g8
          refine pr_seqT (pc' := 57) 2 rfl ⟨⟨trivial, (by first | decide | assumption)⟩, (by assumption)⟩ ?_
          try simp (disch := omega) only [k16, k8, rRl, rI_mul, nI_add, nI_1, nI_clamp, c11, pr_8_10, pr_8_11, pr_8_6, pr_8_97, pr_i_0, pr_i_1, pr_i_5]
          refine pr_ifT rfl (fun h57 => ?_) (fun h57 => ?_)
          · simp only [ab_cmp, pr_8_10, pr_8_11, pr_8_6, pr_8_97, pr_i_0, pr_i_1, pr_i_5] at h57
            exact absurd trivial h57
          · simp only [ab_cmp, pr_8_10, pr_8_11, pr_8_6, pr_8_97, pr_i_0, pr_i_1, pr_i_5] at h57
            first
            | contradiction
            | exact absurd trivial h57
            | exact absurd h57 (by decide)
            | exact absurd (Classical.not_not.mp h57) (by decide)
            | skip
              refine pr_seqT (pc' := 75) 10 rfl ⟨⟨⟨⟨⟨⟨⟨⟨⟨⟨trivial, (by first | decide | assumption)⟩, (by assumption)⟩, trivial⟩, (by first | decide | assumption)⟩, (by assumption)⟩, trivial⟩, trivial⟩, (by (try simp (disch := omega) only [k16, k8, rRl, rI_mul, nI_add, nI_1, nI_clamp, c11, pr_8_10, pr_8_11, pr_8_6, pr_8_97, pr_i_0, pr_i_1, pr_i_5]); exact ⟨by assumption, rvin (by assumption) (by omega) (by decide)⟩)⟩, trivial⟩, trivial⟩ ?_
              try simp (disch := omega) only [k16, k8, rRl, rI_mul, nI_add, nI_1, nI_clamp, c11, pr_8_10, pr_8_11, pr_8_6, pr_8_97, pr_i_0, pr_i_1, pr_i_5]
              exact loop N0 w2 w3 (nx - s) 0 (by omega) _ (fun a ha => ab_u_ne ha) (fun j hj => by rw [ab_u_j (by omega), w2.1 177 (by decide)]) ab_u_at (fun j hj => absurd hj (by omega))
        refine pr_seqT (pc' := 28) 5 rfl ⟨⟨⟨⟨⟨trivial, trivial⟩, trivial⟩, (by first | decide | assumption)⟩, (by assumption)⟩, trivial⟩ ?_
        try simp (disch := omega) only [e5, c6, g8, c10', rRl, rI_mul, nI_add, nI_1, nI_clamp, c11, pr_8_10, pr_8_11, pr_8_6, pr_8_97, pr_i_0, pr_i_1, pr_i_5]
        refine pr_icT rfl (fun h28 => ?_) (fun h28 => ?_)
        · simp only [ab_cmp, pr_8_10, pr_8_11, pr_8_6, pr_8_97, pr_i_0, pr_i_1, pr_i_5] at h28
          exact absurd zt h28
        · simp only [ab_cmp, pr_8_10, pr_8_11, pr_8_6, pr_8_97, pr_i_0, pr_i_1, pr_i_5] at h28
          first
          | contradiction
          | exact absurd trivial h28
          | exact absurd h28 (by decide)
          | exact absurd (Classical.not_not.mp h28) (by decide)
          | skip
            refine pr_seqT (pc' := 37) 3 rfl ⟨⟨⟨trivial, (by first | decide | assumption)⟩, (by assumption)⟩, trivial⟩ ?_
            try simp (disch := omega) only [e5, c6, g8, c10', rRl, rI_mul, nI_add, nI_1, nI_clamp, c11, pr_8_10, pr_8_11, pr_8_6, pr_8_97, pr_i_0, pr_i_1, pr_i_5]
            refine pr_icT rfl (fun h37 => ?_) (fun h37 => ?_)
            · simp only [ab_cmp, pr_8_10, pr_8_11, pr_8_6, pr_8_97, pr_i_0, pr_i_1, pr_i_5] at h37
              first
              | contradiction
              | exact absurd trivial h37
              | exact absurd h37 (by decide)
              | exact absurd (Classical.not_not.mp h37) (by decide)
              | skip
                refine pr_seqT (pc' := 49) 2 rfl ⟨⟨trivial, (by first | decide | assumption)⟩, trivial⟩ ?_
                try simp (disch := omega) only [e5, c6, g8, c10', rRl, rI_mul, nI_add, nI_1, nI_clamp, c11, pr_8_10, pr_8_11, pr_8_6, pr_8_97, pr_i_0, pr_i_1, pr_i_5]
                refine pr_cvX [_] rfl rfl rfl rfl rfl (Nat.le_of_ble_eq_true rfl) (by first | assumption | decide | (simp (disch := omega) only [e5, c6, g8, c10', rRl, rI_mul, nI_add, nI_1, nI_clamp, c11, pr_8_10, pr_8_11, pr_8_6, pr_8_97, pr_i_0, pr_i_1, pr_i_5]; first | assumption | exact ⟨Or.inl (by assumption), rvin (by assumption) (by omega) (by decide)⟩ | exact ⟨by assumption, rvin (by assumption) (by omega) (by decide)⟩ | exact ⟨⟨by omega, by omega⟩, rvin (by assumption) (by omega) (by decide)⟩ | exact ⟨Or.inr (by assumption), rvin (by assumption) (by omega) (by decide)⟩ | exact ⟨Or.inr ⟨by assumption, (by first | exact Or.inl rfl | exact Or.inr rfl | exact pr_b01 _)⟩, rvin (by assumption) (by omega) (by decide)⟩ | exact ⟨by assumption, by assumption⟩ | decide | omega)) (Nat.le_of_ble_eq_true rfl) (hlo) (fun v49 M49 q49 => ?_)
                obtain ⟨rfl, w1, w2, w3⟩ := q49
                obtain ⟨I1, Z1⟩ := M49
                dsimp only at w1 w2 w3
                subst w1
                refine pr_seqT (pc' := 53) 1 rfl ⟨trivial, trivial⟩ ?_
                try simp (disch := omega) only [e5, c6, g8, c10', rRl, rI_mul, nI_add, nI_1, nI_clamp, c11, pr_8_10, pr_8_11, pr_8_6, pr_8_97, pr_i_0, pr_i_1, pr_i_5]
                exact fin2 I1 w2 w3 _
            · simp only [ab_cmp, pr_8_10, pr_8_11, pr_8_6, pr_8_97, pr_i_0, pr_i_1, pr_i_5] at h37
              exact absurd (Classical.not_not.mp h37) z6
      · have cw : tWord w 10 p = .error (3, (tok w p).2.1) := by unfold tWord; rw [if_neg e1, if_pos ct, if_neg c10]
        have ha : aLst w P (tok w p) = .error (3, (tok w p).2.1) := by unfold aLst; rw [if_pos ct, if_neg (by omega), if_neg c10]
        have h0 := errL _ cw ha 0 z3
        refine pr_seqT (pc' := 28) 5 rfl ⟨⟨⟨⟨⟨trivial, trivial⟩, trivial⟩, (by first | decide | assumption)⟩, (by assumption)⟩, trivial⟩ ?_
        try simp (disch := omega) only [e5, c6, g8, rRl, rI_mul, nI_add, nI_1, nI_clamp, c11, pr_8_10, pr_8_11, pr_8_6, pr_8_97, pr_i_0, pr_i_1, pr_i_5]
        refine pr_icT rfl (fun h28 => ?_) (fun h28 => ?_)
        · simp only [ab_cmp, pr_8_10, pr_8_11, pr_8_6, pr_8_97, pr_i_0, pr_i_1, pr_i_5] at h28
          exact absurd zt h28
        · simp only [ab_cmp, pr_8_10, pr_8_11, pr_8_6, pr_8_97, pr_i_0, pr_i_1, pr_i_5] at h28
          first
          | contradiction
          | exact absurd trivial h28
          | exact absurd h28 (by decide)
          | exact absurd (Classical.not_not.mp h28) (by decide)
          | skip
            refine pr_seqT (pc' := 37) 3 rfl ⟨⟨⟨trivial, (by first | decide | assumption)⟩, (by assumption)⟩, trivial⟩ ?_
            try simp (disch := omega) only [e5, c6, g8, rRl, rI_mul, nI_add, nI_1, nI_clamp, c11, pr_8_10, pr_8_11, pr_8_6, pr_8_97, pr_i_0, pr_i_1, pr_i_5]
            refine pr_icT rfl (fun h37 => ?_) (fun h37 => ?_)
            · simp only [ab_cmp, pr_8_10, pr_8_11, pr_8_6, pr_8_97, pr_i_0, pr_i_1, pr_i_5] at h37
              first
              | contradiction
              | exact absurd trivial h37
              | exact absurd h37 (by decide)
              | exact absurd (Classical.not_not.mp h37) (by decide)
              | skip
                exact h0
            · simp only [ab_cmp, pr_8_10, pr_8_11, pr_8_6, pr_8_97, pr_i_0, pr_i_1, pr_i_5] at h37
              exact absurd (Classical.not_not.mp h37) z6
  · have zt : ¬ nI (tok w p).1 = 1 := nI_ne (b := 1) ct (by omega) (by decide)
    have cw : tWord w 10 p = .error (2, (tok w p).2.1) := by unfold tWord; rw [if_neg e1, if_neg ct]
    have ha : aLst w P (tok w p) = .error (2, (tok w p).2.1) := by unfold aLst; rw [if_neg ct]
    have h0 := errL _ cw ha 0 z3
    refine pr_seqT (pc' := 28) 5 rfl ⟨⟨⟨⟨⟨trivial, trivial⟩, trivial⟩, (by first | decide | assumption)⟩, (by assumption)⟩, trivial⟩ ?_
    try simp (disch := omega) only [e5, rRl, rI_mul, nI_add, nI_1, nI_clamp, c11, pr_8_10, pr_8_11, pr_8_6, pr_8_97, pr_i_0, pr_i_1, pr_i_5]
    refine pr_icT rfl (fun h28 => ?_) (fun h28 => ?_)
    · simp only [ab_cmp, pr_8_10, pr_8_11, pr_8_6, pr_8_97, pr_i_0, pr_i_1, pr_i_5] at h28
      first
      | contradiction
      | exact absurd trivial h28
      | exact absurd h28 (by decide)
      | exact absurd (Classical.not_not.mp h28) (by decide)
      | skip
        exact h0
    · simp only [ab_cmp, pr_8_10, pr_8_11, pr_8_6, pr_8_97, pr_i_0, pr_i_1, pr_i_5] at h28
      exact absurd (Classical.not_not.mp h28) zt
/-- the names on: where the reader stands behind them, what it has read -/
def nmR (w : List Nat) : Nat → PS → Er → Er × PS
  | 0, P, e => (e, P)
  | _ + 1, P, .error q => (.error q, P)
  | f + 1, P, .ok p => if (tok w p).1 = 1 then (match aLst w P (tok w p) with
    | .error q => (.error q, P)
    | .ok P' => nmR w f P' (stN w (tok w p).2.2.1)) else (.ok p, P)
def nmF (w : List Nat) (P : PS) (p : Nat) : Er × PS := match aLst w P (tok w p) with
  | .error q => (.error q, P)
  | .ok P' => nmR w 320 P' (stN w (tok w p).2.2.1)
theorem nm_loop {w : List Nat} (h : ab_H) (M : ab_M) (hl : rL h M.2.2) (hw : tp_r M.1 w) : ∀ f P e (I : Nat → Nat → Int32) z2 z3, 7 ≤ P.1.2.1.length + f → lfr M.1 I → (okE e = true → pv I P) → P.1.2.1.length ≤ 6 → rs2 I w e → pr_T pX11_readNamesMore 2 [some (.ref 172), some (.int 0), z2, z3] [] h (I, M.2) (ln2_p M w (nmR w f P e).1 (nmR w f P e).2 none) := by
  obtain ⟨k172, rS, rLs, rKn, rPg, rRl, rRk, rTp, rCu, rLe, rLt, rSm, rIk, rLn, rLg, rCe, ⟨kS, nS⟩, ⟨kLs, nLs⟩, ⟨kKn, nKn⟩, ⟨kPg, nPg⟩, ⟨kRl, nRl⟩, ⟨kRk, nRk⟩, ⟨kTp, nTp⟩, ⟨kCu, nCu⟩, ⟨kLe, nLe⟩, ⟨kLt, nLt⟩, ⟨kSm, nSm⟩, ⟨kIk, nIk⟩, ⟨kLn, nLn⟩, ⟨kLg, nLg⟩, kCe, nCe⟩ := id hl
  intro f
  induction f with
  | zero => intro P e I z2 z3 h7 hf hv h6 he; omega
  | succ f ih =>
    intro P e I z2 z3 h7 hf hv h6 he
    cases e with
    | error q =>
      have g := he.1
      have en : ¬ nI q.1 = 0 := nI_ne0 (by have := he.2.1; omega) (by have := he.2.1; omega)
      show pr_T pX11_readNamesMore 2 _ [] h (I, M.2) (ln2_p M w (.error q) P none)
      refine pr_seqT (pc' := 6) 2 rfl ⟨⟨trivial, (by first | decide | assumption)⟩, (by assumption)⟩ ?_
      try simp (disch := omega) only [g, rRl, rI_mul, nI_add, nI_1, nI_clamp, c11, pr_8_10, pr_8_11, pr_8_6, pr_8_97, pr_i_0, pr_i_1, pr_i_5]
      refine pr_ifT rfl (fun h6 => ?_) (fun h6 => ?_)
      · simp only [ab_cmp, pr_8_10, pr_8_11, pr_8_6, pr_8_97, pr_i_0, pr_i_1, pr_i_5] at h6
        first
        | contradiction
        | exact absurd trivial h6
        | exact absurd h6 (by decide)
        | exact absurd (Classical.not_not.mp h6) (by decide)
        | skip
          exact pr_vrT rfl rfl (by exact ⟨rfl, rfl, hf, he, fun ⟨_, z⟩ => by cases z⟩)
      · simp only [ab_cmp, pr_8_10, pr_8_11, pr_8_6, pr_8_97, pr_i_0, pr_i_1, pr_i_5] at h6
        exact absurd (Classical.not_not.mp h6) en
    | ok p =>
      have hv := hv rfl
      obtain ⟨e0, e1, e2, e3, e4, e5, e6⟩ := id he
      have hle := tok_le e0
      by_cases ct : (tok w p).1 = 1
      · have zt : nI (tok w p).1 = 1 := by rw [ct]; rfl
        have hR : nmR w (f + 1) P (.ok p) = (match aLst w P (tok w p) with
          | .error q => (.error q, P)
          | .ok P' => nmR w f P' (stN w (tok w p).2.2.1)) := by show (if (tok w p).1 = 1 then _ else _) = _; rw [if_pos ct]
        have hb := nm_body (z1 := some (.int 0)) (z2 := z2) (z3 := z3) (Q := ln2_p M w (nmR w (f + 1) P (.ok p)).1 (nmR w (f + 1) P (.ok p)).2 none) h M hl hw hf hv he (fun P' N z2 z3 ha hN hpv hrs => by
          rw [hR, ha]
          have hal := aLst_len ha
          exact ih P' _ N z2 z3 (by omega) hN (fun _ => hpv) hal.2 hrs) (fun q N ha hN hq => by
          rw [hR, ha]
          exact ⟨rfl, rfl, hN, hq, fun ⟨_, z⟩ => by cases z⟩)
        refine pr_seqT (pc' := 6) 2 rfl ⟨⟨trivial, (by first | decide | assumption)⟩, (by assumption)⟩ ?_
        try simp (disch := omega) only [e2, e5, rRl, rI_mul, nI_add, nI_1, nI_clamp, c11, pr_8_10, pr_8_11, pr_8_6, pr_8_97, pr_i_0, pr_i_1, pr_i_5]
        refine pr_ifT rfl (fun h6 => ?_) (fun h6 => ?_)
        · simp only [ab_cmp, pr_8_10, pr_8_11, pr_8_6, pr_8_97, pr_i_0, pr_i_1, pr_i_5] at h6
          exact absurd trivial h6
        · simp only [ab_cmp, pr_8_10, pr_8_11, pr_8_6, pr_8_97, pr_i_0, pr_i_1, pr_i_5] at h6
          first
          | contradiction
          | exact absurd trivial h6
          | exact absurd h6 (by decide)
          | exact absurd (Classical.not_not.mp h6) (by decide)
          | skip
            refine pr_seqT (pc' := 10) 1 rfl ⟨trivial, trivial⟩ ?_
            try simp (disch := omega) only [e2, e5, rRl, rI_mul, nI_add, nI_1, nI_clamp, c11, pr_8_10, pr_8_11, pr_8_6, pr_8_97, pr_i_0, pr_i_1, pr_i_5]
            refine pr_ifT rfl (fun h10 => ?_) (fun h10 => ?_)
            · simp only [ab_cmp, pr_8_10, pr_8_11, pr_8_6, pr_8_97, pr_i_0, pr_i_1, pr_i_5] at h10
              exact absurd trivial h10
            · simp only [ab_cmp, pr_8_10, pr_8_11, pr_8_6, pr_8_97, pr_i_0, pr_i_1, pr_i_5] at h10
              skip
              refine pr_seqT (pc' := 18) 3 rfl ⟨⟨⟨trivial, (by first | decide | assumption)⟩, (by assumption)⟩, trivial⟩ ?_
              try simp (disch := omega) only [e2, e5, rRl, rI_mul, nI_add, nI_1, nI_clamp, c11, pr_8_10, pr_8_11, pr_8_6, pr_8_97, pr_i_0, pr_i_1, pr_i_5]
              refine pr_icT rfl (fun h18 => ?_) (fun h18 => ?_)
              · simp only [ab_cmp, pr_8_10, pr_8_11, pr_8_6, pr_8_97, pr_i_0, pr_i_1, pr_i_5] at h18
                exact absurd zt h18
              · simp only [ab_cmp, pr_8_10, pr_8_11, pr_8_6, pr_8_97, pr_i_0, pr_i_1, pr_i_5] at h18
                first
                | contradiction
                | exact absurd trivial h18
                | exact absurd h18 (by decide)
                | exact absurd (Classical.not_not.mp h18) (by decide)
                | skip
                  exact hb
      · have zt : ¬ nI (tok w p).1 = 1 := nI_ne (b := 1) ct (by omega) (by decide)
        have hR : nmR w (f + 1) P (.ok p) = (.ok p, P) := by show (if (tok w p).1 = 1 then _ else _) = _; rw [if_neg ct]
        rw [hR]
        refine pr_seqT (pc' := 6) 2 rfl ⟨⟨trivial, (by first | decide | assumption)⟩, (by assumption)⟩ ?_
        try simp (disch := omega) only [e2, e5, rRl, rI_mul, nI_add, nI_1, nI_clamp, c11, pr_8_10, pr_8_11, pr_8_6, pr_8_97, pr_i_0, pr_i_1, pr_i_5]
        refine pr_ifT rfl (fun h6 => ?_) (fun h6 => ?_)
        · simp only [ab_cmp, pr_8_10, pr_8_11, pr_8_6, pr_8_97, pr_i_0, pr_i_1, pr_i_5] at h6
          exact absurd trivial h6
        · simp only [ab_cmp, pr_8_10, pr_8_11, pr_8_6, pr_8_97, pr_i_0, pr_i_1, pr_i_5] at h6
          first
          | contradiction
          | exact absurd trivial h6
          | exact absurd h6 (by decide)
          | exact absurd (Classical.not_not.mp h6) (by decide)
          | skip
            refine pr_seqT (pc' := 10) 1 rfl ⟨trivial, trivial⟩ ?_
            try simp (disch := omega) only [e2, e5, rRl, rI_mul, nI_add, nI_1, nI_clamp, c11, pr_8_10, pr_8_11, pr_8_6, pr_8_97, pr_i_0, pr_i_1, pr_i_5]
            refine pr_ifT rfl (fun h10 => ?_) (fun h10 => ?_)
            · simp only [ab_cmp, pr_8_10, pr_8_11, pr_8_6, pr_8_97, pr_i_0, pr_i_1, pr_i_5] at h10
              exact absurd trivial h10
            · simp only [ab_cmp, pr_8_10, pr_8_11, pr_8_6, pr_8_97, pr_i_0, pr_i_1, pr_i_5] at h10
              skip
              refine pr_seqT (pc' := 18) 3 rfl ⟨⟨⟨trivial, (by first | decide | assumption)⟩, (by assumption)⟩, trivial⟩ ?_
              try simp (disch := omega) only [e2, e5, rRl, rI_mul, nI_add, nI_1, nI_clamp, c11, pr_8_10, pr_8_11, pr_8_6, pr_8_97, pr_i_0, pr_i_1, pr_i_5]
              refine pr_icT rfl (fun h18 => ?_) (fun h18 => ?_)
              · simp only [ab_cmp, pr_8_10, pr_8_11, pr_8_6, pr_8_97, pr_i_0, pr_i_1, pr_i_5] at h18
                first
                | contradiction
                | exact absurd trivial h18
                | exact absurd h18 (by decide)
                | exact absurd (Classical.not_not.mp h18) (by decide)
                | skip
                  exact pr_vrT rfl rfl (by exact ⟨rfl, rfl, hf, he, fun _ => hv⟩)
              · simp only [ab_cmp, pr_8_10, pr_8_11, pr_8_6, pr_8_97, pr_i_0, pr_i_1, pr_i_5] at h18
                exact absurd (Classical.not_not.mp h18) zt
theorem q_names {w : List Nat} {P : PS} {p : Nat} (h : ab_H) (M : ab_M) (hl : rL h M.2.2) (hw : tp_r M.1 w) (hv : pv M.1 P) (he : rs2 M.1 w (.ok p)) : pr_X pX11_readNamesMore [.ref 172] h M (ln2_p M w (nmF w P p).1 (nmF w P p).2 none) := by
  obtain ⟨k172, rS, rLs, rKn, rPg, rRl, rRk, rTp, rCu, rLe, rLt, rSm, rIk, rLn, rLg, rCe, ⟨kS, nS⟩, ⟨kLs, nLs⟩, ⟨kKn, nKn⟩, ⟨kPg, nPg⟩, ⟨kRl, nRl⟩, ⟨kRk, nRk⟩, ⟨kTp, nTp⟩, ⟨kCu, nCu⟩, ⟨kLe, nLe⟩, ⟨kLt, nLt⟩, ⟨kSm, nSm⟩, ⟨kIk, nIk⟩, ⟨kLn, nLn⟩, ⟨kLg, nLg⟩, kCe, nCe⟩ := id hl
  obtain ⟨e0, e1, e2, e3, e4, e5, e6⟩ := id he
  have hb := nm_body (z1 := some (.int 1)) (z2 := none) (z3 := none) (Q := ln2_p M w (nmF w P p).1 (nmF w P p).2 none) h M hl hw lfr_0 hv he (fun P' N z2 z3 ha hN hpv hrs => by
    unfold nmF
    rw [ha]
    have hal := aLst_len ha
    exact nm_loop h M hl hw 320 P' _ N z2 z3 (by omega) hN (fun _ => hpv) hal.2 hrs) (fun q N ha hN hq => by
    unfold nmF
    rw [ha]
    exact ⟨rfl, rfl, hN, hq, fun ⟨_, z⟩ => by cases z⟩)
  have o1 : ¬ (1 : Int32) = 0 := by decide
  refine pr_seqT (pc' := 6) 4 rfl ⟨⟨⟨⟨trivial, trivial⟩, trivial⟩, (by first | decide | assumption)⟩, (by assumption)⟩ ?_
  try simp (disch := omega) only [e2, rRl, rI_mul, nI_add, nI_1, nI_clamp, c11, pr_8_10, pr_8_11, pr_8_6, pr_8_97, pr_i_0, pr_i_1, pr_i_5]
  refine pr_ifT rfl (fun h6 => ?_) (fun h6 => ?_)
  · simp only [ab_cmp, pr_8_10, pr_8_11, pr_8_6, pr_8_97, pr_i_0, pr_i_1, pr_i_5] at h6
    exact absurd trivial h6
  · simp only [ab_cmp, pr_8_10, pr_8_11, pr_8_6, pr_8_97, pr_i_0, pr_i_1, pr_i_5] at h6
    first
    | contradiction
    | exact absurd trivial h6
    | exact absurd h6 (by decide)
    | exact absurd (Classical.not_not.mp h6) (by decide)
    | skip
      refine pr_seqT (pc' := 10) 1 rfl ⟨trivial, trivial⟩ ?_
      try simp (disch := omega) only [e2, rRl, rI_mul, nI_add, nI_1, nI_clamp, c11, pr_8_10, pr_8_11, pr_8_6, pr_8_97, pr_i_0, pr_i_1, pr_i_5]
      refine pr_ifT rfl (fun h10 => ?_) (fun h10 => ?_)
      · simp only [ab_cmp, pr_8_10, pr_8_11, pr_8_6, pr_8_97, pr_i_0, pr_i_1, pr_i_5] at h10
        first
        | contradiction
        | exact absurd trivial h10
        | exact absurd h10 (by decide)
        | exact absurd (Classical.not_not.mp h10) (by decide)
        | skip
          exact hb
      · simp only [ab_cmp, pr_8_10, pr_8_11, pr_8_6, pr_8_97, pr_i_0, pr_i_1, pr_i_5] at h10
        exact absurd (Classical.not_not.mp h10) o1
