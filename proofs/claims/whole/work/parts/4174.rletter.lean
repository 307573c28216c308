
/-! ===== the reference's reader: letters, ones ===== -/
theorem nuV_le {w : List Nat} {lo hi : Nat} {e : Er} {I : Nat → Nat → Int32} (he : rs2 I w e) (hlh : lo ≤ hi) : lo ≤ nuV w lo hi e ∧ nuV w lo hi e ≤ hi := by
  cases e with
  | error q => exact ⟨Nat.le_refl _, hlh⟩
  | ok p =>
    show lo ≤ (match tNum w lo hi p with
      | .error _ => lo
      | .ok x => x.1) ∧ (match tNum w lo hi p with
      | .error _ => lo
      | .ok x => x.1) ≤ hi
    cases c : tNum w lo hi p with
    | error q => exact ⟨Nat.le_refl _, hlh⟩
    | ok x =>
      have := tNum_ok (v := x.1) (nx := x.2) he.1 c
      exact ⟨this.1, this.2.1⟩
theorem pv_11 {I : Nat → Nat → Int32} {P : PS} {l : Nat} (hv : pv I P) (hl : l < 26) : pv (ab_u I 172 11 (nI (bs P.2.2.2 26 ||| 2 ^ l))) (P.1, P.2.1, P.2.2.1, va_up P.2.2.2 l true) := by
  obtain ⟨v1, ⟨v2, v3, v4⟩, ⟨v5, v6, v7⟩, v8, v9, v10⟩ := hv
  refine ⟨by rw [ab_u_ne (by decide)]; exact v1, ⟨by rw [ab_u_j (by decide)]; exact v2, v3, by rw [ab_u_ne (by decide)]; exact v4⟩, ⟨by rw [ab_u_j (by decide)]; exact v5, v6, by rw [ab_u_ne (by decide)]; exact v7⟩, by rw [ab_u_j (by decide)]; exact v8, ?_, by rw [ab_u_j (by decide)]; exact v10⟩
  rw [ab_u_at, bs_set hl]
theorem pv_page {I : Nat → Nat → Int32} {P : PS} {k : Nat} {v : Int32} {d : Ld} (hv : pv I P) (hd : pg_r (va_up (I 176) k v) d) : pv (ab_u I 176 k v) ((d, P.1.2), P.2) := by
  obtain ⟨v1, ⟨v2, v3, v4⟩, ⟨v5, v6, v7⟩, v8, v9, v10⟩ := hv
  have e : ab_u I 176 k v 172 = I 172 := ab_u_ne (by decide)
  refine ⟨by rw [ab_u_r]; exact hd, ⟨by rw [e]; exact v2, v3, by rw [ab_u_ne (by decide)]; exact v4⟩, ⟨by rw [e]; exact v5, v6, by rw [ab_u_ne (by decide)]; exact v7⟩, by rw [e]; exact v8, by rw [e]; exact v9, by rw [e]; exact v10⟩
theorem rl_tail {w : List Nat} {P : PS} {l : Nat} {e : Er} (hl26 : l < 26) (h : ab_H) (M : ab_M) (hl : rL h M.2.2) (hw : tp_r M.1 w) (hv : pv M.1 P) (N : Nat → Nat → Int32) (hf : rfr M.1 N) (he : rs2 N w e) : pr_T pX11_readLetter 53 [some (.ref 172), some (.int (nI l))] [] h (N, M.2) (ln2_p M w (nuE w 0 40 (adN w e)) (pLet P l (nuV w 0 40 (adN w e))) none) := by
  obtain ⟨k172, rS, rLs, rKn, rPg, rRl, rRk, rTp, rCu, rLe, rLt, rSm, rIk, rLn, rLg, rCe, ⟨kS, nS⟩, ⟨kLs, nLs⟩, ⟨kKn, nKn⟩, ⟨kPg, nPg⟩, ⟨kRl, nRl⟩, ⟨kRk, nRk⟩, ⟨kTp, nTp⟩, ⟨kCu, nCu⟩, ⟨kLe, nLe⟩, ⟨kLt, nLt⟩, ⟨kSm, nSm⟩, ⟨kIk, nIk⟩, ⟨kLn, nLn⟩, ⟨kLg, nLg⟩, kCe, nCe⟩ := id hl
  have hv2 := pv_rfr hf hv
  have t2 := hv2.2.2.2.2.1
  have eo : nI (bs P.2.2.2 26) ||| ((1 : Int32) <<< (nI l &&& 31)) = nI (bs P.2.2.2 26 ||| 2 ^ l) := by rw [i_bit l (by omega), i_or]
  have hv3 := pv_11 hv2 hl26
  have hw3 := lfr_tp (lfr_u (k := 11) (v := nI (bs P.2.2.2 26 ||| 2 ^ l)) (by decide)) (rfr_tp hf hw)
  have hst := q_adv h (ab_u N 172 11 (nI (bs P.2.2.2 26 ||| 2 ^ l)), M.2) hl hw3 (rs2_u (Or.inr (by decide)) he)
  generalize adN w e = e' at *
  refine pr_seqT (pc' := 66) 9 rfl ⟨⟨⟨⟨⟨⟨⟨⟨⟨trivial, (by first | decide | assumption)⟩, trivial⟩, (by assumption)⟩, trivial⟩, trivial⟩, trivial⟩, trivial⟩, (by first | assumption | exact ⟨by assumption, by decide⟩ | exact ⟨by assumption, pr_b01 _⟩)⟩, (by first | decide | assumption)⟩ ?_
  try simp (disch := omega) only [t2, eo, rPg, rI_mul, nI_add, nI_1, nI_clamp, c193, pr_16_193, pr_8_40, pr_8_97, pr_i_0, pr_i_1, pr_i_4]
  refine pr_cvX [] rfl rfl rfl rfl rfl (Nat.le_of_ble_eq_true rfl) (by first | assumption | decide | (simp (disch := omega) only [t2, eo, rPg, rI_mul, nI_add, nI_1, nI_clamp, c193, pr_16_193, pr_8_40, pr_8_97, pr_i_0, pr_i_1, pr_i_4]; first | assumption | exact ⟨Or.inl (by assumption), rvin (by assumption) (by omega) (by decide)⟩ | exact ⟨by assumption, rvin (by assumption) (by omega) (by decide)⟩ | exact ⟨⟨by omega, by omega⟩, rvin (by assumption) (by omega) (by decide)⟩ | exact ⟨Or.inr (by assumption), rvin (by assumption) (by omega) (by decide)⟩ | exact ⟨Or.inr ⟨by assumption, (by first | exact Or.inl rfl | exact Or.inr rfl | exact pr_b01 _)⟩, rvin (by assumption) (by omega) (by decide)⟩ | exact ⟨by assumption, by assumption⟩ | decide | omega)) (Nat.le_of_ble_eq_true rfl) (hst) (fun v66 M66 q66 => ?_)
  obtain ⟨rfl, w1, w2, w3⟩ := q66
  obtain ⟨I1, Z1⟩ := M66
  dsimp only at w1 w2 w3
  subst w1
  have hnu := q_number (lo := 0) (hi := 40) h (I1, M.2) hl (rfr_tp w2 hw3) w3 (by decide) (by decide)
  have hnv := nuV_le (lo := 0) (hi := 40) w3 (by decide)
  refine pr_seqT (pc' := 82) 8 rfl ⟨⟨⟨⟨⟨⟨⟨⟨trivial, (by first | decide | assumption)⟩, (by assumption)⟩, trivial⟩, trivial⟩, trivial⟩, (by first | decide | assumption)⟩, trivial⟩, trivial⟩ ?_
  try simp (disch := omega) only [t2, eo, rPg, rI_mul, nI_add, nI_1, nI_clamp, c193, pr_16_193, pr_8_40, pr_8_97, pr_i_0, pr_i_1, pr_i_4]
  refine pr_cvX [_, _] rfl rfl rfl rfl rfl (Nat.le_of_ble_eq_true rfl) (by first | assumption | decide | (simp (disch := omega) only [t2, eo, rPg, rI_mul, nI_add, nI_1, nI_clamp, c193, pr_16_193, pr_8_40, pr_8_97, pr_i_0, pr_i_1, pr_i_4]; first | assumption | exact ⟨Or.inl (by assumption), rvin (by assumption) (by omega) (by decide)⟩ | exact ⟨by assumption, rvin (by assumption) (by omega) (by decide)⟩ | exact ⟨⟨by omega, by omega⟩, rvin (by assumption) (by omega) (by decide)⟩ | exact ⟨Or.inr (by assumption), rvin (by assumption) (by omega) (by decide)⟩ | exact ⟨Or.inr ⟨by assumption, (by first | exact Or.inl rfl | exact Or.inr rfl | exact pr_b01 _)⟩, rvin (by assumption) (by omega) (by decide)⟩ | exact ⟨by assumption, by assumption⟩ | decide | omega)) (Nat.le_of_ble_eq_true rfl) (hnu) (fun v82 M82 q82 => ?_)
  obtain ⟨rfl, u1, u2, u3⟩ := q82
  obtain ⟨I2, Z2⟩ := M82
  dsimp only at u1 u2 u3
  subst u1
  refine pr_seqT (pc' := 90) 5 rfl ⟨⟨⟨⟨⟨trivial, trivial⟩, trivial⟩, trivial⟩, trivial⟩, (by (try simp (disch := omega) only [t2, eo, rPg, rI_mul, nI_add, nI_1, nI_clamp, c193, pr_16_193, pr_8_40, pr_8_97, pr_i_0, pr_i_1, pr_i_4]); exact ⟨by assumption, rvin (by assumption) (by omega) (by decide)⟩)⟩ ?_
  try simp (disch := omega) only [t2, eo, rPg, rI_mul, nI_add, nI_1, nI_clamp, c193, pr_16_193, pr_8_40, pr_8_97, pr_i_0, pr_i_1, pr_i_4]
  exact pr_vrT rfl rfl (by exact ⟨rfl, rfl, lfr_tr (lfr_r hf) (lfr_tr (lfr_u (by decide)) (lfr_tr (lfr_r w2) (lfr_tr (lfr_r u2) (lfr_w (Or.inl rfl))))), rs2_u (Or.inl (by decide)) u3, fun _ => pv_page (pv_rfr u2 (pv_rfr w2 hv3)) (pg_letter (pv_rfr u2 (pv_rfr w2 hv3)).1 hl26 hnv.2)⟩)
def letE (w : List Nat) (P : PS) (p : Nat) : Er := match tWord w 1 p with
  | .error q => .error q
  | .ok x => if P.2.2.2 (w.getD x.1 0 - 97) then .error (4, x.1) else nuE w 0 40 (stN w x.2)
def letP (w : List Nat) (P : PS) (p : Nat) : PS := match tWord w 1 p with
  | .error _ => P
  | .ok x => pLet P (w.getD x.1 0 - 97) (nuV w 0 40 (stN w x.2))
theorem ln2_er {M : ab_M} {w : List Nat} {q : Nat × Nat} {P P' : PS} {v r : Option Value} {M' : ab_M} (h : ln2_p M w (.error q) P v r M') : ln2_p M w (.error q) P' v r M' := ⟨h.1, h.2.1, h.2.2.1, h.2.2.2.1, fun ⟨_, z⟩ => by cases z⟩
theorem rl_b1 {w : List Nat} {P : PS} {p x c : Nat} {I : Nat → Nat → Int32} {Q : Option Value → ab_M → Prop} {z1 : Option Value} (h : ab_H) (M : ab_M) (hl : rL h M.2.2) (hw : tp_r M.1 w) (hv : pv M.1 P) (hf : rfr M.1 I) (he : rs2 I w (.ok p)) (hx : x = (tok w p).2.1) (hby : pr_C pX11_byteAt [.ref 172, .int (nI x)] h (I, M.2) (some (.int (nI c))) h (I, M.2)) (esub : nI c - nI 97 = nI (c - 97)) (zb : nI (bs P.2.2.2 26) >>> (nI (c - 97) &&& 31) &&& 1 = 1) (K : ∀ N, rfr M.1 N → rs2 N w (.error (4, x)) → pr_T pX11_readLetter 53 [some (.ref 172), some (.int (nI (c - 97)))] [] h (N, M.2) Q) : pr_T pX11_readLetter 6 [some (.ref 172), z1] [] h (I, M.2) Q := by
  obtain ⟨k172, rS, rLs, rKn, rPg, rRl, rRk, rTp, rCu, rLe, rLt, rSm, rIk, rLn, rLg, rCe, ⟨kS, nS⟩, ⟨kLs, nLs⟩, ⟨kKn, nKn⟩, ⟨kPg, nPg⟩, ⟨kRl, nRl⟩, ⟨kRk, nRk⟩, ⟨kTp, nTp⟩, ⟨kCu, nCu⟩, ⟨kLe, nLe⟩, ⟨kLt, nLt⟩, ⟨kSm, nSm⟩, ⟨kIk, nIk⟩, ⟨kLn, nLn⟩, ⟨kLg, nLg⟩, kCe, nCe⟩ := id hl
  subst hx
  obtain ⟨e0, e1, e2, e3, e4, e5, e6⟩ := id he
  have t2 := (pv_rfr hf hv).2.2.2.2.1
  have c97 : (97 : Int32) = nI 97 := rfl
  have f4 := q_flN (c := 4) (x := 4) rfl (by decide) h (I, M.2) hl he
  refine pr_seqT (pc' := 10) 2 rfl ⟨⟨trivial, (by first | decide | assumption)⟩, (by assumption)⟩ ?_
  try simp (disch := omega) only [e2, e4, c97, esub, t2, rPg, rI_mul, nI_add, nI_1, nI_clamp, c193, pr_16_193, pr_8_40, pr_8_97, pr_i_0, pr_i_1, pr_i_4]
  refine pr_ifT rfl (fun h10 => ?_) (fun h10 => ?_)
  · simp only [ab_cmp, pr_16_193, pr_8_40, pr_8_97, pr_i_0, pr_i_1, pr_i_4] at h10
    exact absurd trivial h10
  · simp only [ab_cmp, pr_16_193, pr_8_40, pr_8_97, pr_i_0, pr_i_1, pr_i_4] at h10
    first
    | contradiction
    | exact absurd trivial h10
    | exact absurd h10 (by decide)
    | exact absurd (Classical.not_not.mp h10) (by decide)
    | skip
      refine pr_seqT (pc' := 18) 3 rfl ⟨⟨⟨trivial, (by first | decide | assumption)⟩, (by first | decide | assumption)⟩, (by assumption)⟩ ?_
      try simp (disch := omega) only [e2, e4, c97, esub, t2, rPg, rI_mul, nI_add, nI_1, nI_clamp, c193, pr_16_193, pr_8_40, pr_8_97, pr_i_0, pr_i_1, pr_i_4]
      refine pr_cvT [_] rfl rfl rfl rfl rfl (Nat.le_of_ble_eq_true rfl) (by first | assumption | decide | (simp (disch := omega) only [e2, e4, c97, esub, t2, rPg, rI_mul, nI_add, nI_1, nI_clamp, c193, pr_16_193, pr_8_40, pr_8_97, pr_i_0, pr_i_1, pr_i_4]; first | assumption | exact ⟨Or.inl (by assumption), rvin (by assumption) (by omega) (by decide)⟩ | exact ⟨by assumption, rvin (by assumption) (by omega) (by decide)⟩ | exact ⟨⟨by omega, by omega⟩, rvin (by assumption) (by omega) (by decide)⟩ | exact ⟨Or.inr (by assumption), rvin (by assumption) (by omega) (by decide)⟩ | exact ⟨Or.inr ⟨by assumption, (by first | exact Or.inl rfl | exact Or.inr rfl | exact pr_b01 _)⟩, rvin (by assumption) (by omega) (by decide)⟩ | exact ⟨by assumption, by assumption⟩ | decide | omega)) (Nat.le_of_ble_eq_true rfl) (hby) ?_
      refine pr_seqT (pc' := 33) 6 rfl ⟨⟨⟨⟨⟨⟨trivial, trivial⟩, trivial⟩, trivial⟩, trivial⟩, (by first | decide | assumption)⟩, (by assumption)⟩ ?_
      try simp (disch := omega) only [e2, e4, c97, esub, t2, rPg, rI_mul, nI_add, nI_1, nI_clamp, c193, pr_16_193, pr_8_40, pr_8_97, pr_i_0, pr_i_1, pr_i_4]
      refine pr_ifT rfl (fun h33 => ?_) (fun h33 => ?_)
      · simp only [ab_cmp, pr_16_193, pr_8_40, pr_8_97, pr_i_0, pr_i_1, pr_i_4] at h33
        exact absurd trivial h33
      · simp only [ab_cmp, pr_16_193, pr_8_40, pr_8_97, pr_i_0, pr_i_1, pr_i_4] at h33
        first
        | contradiction
        | exact absurd trivial h33
        | exact absurd h33 (by decide)
        | exact absurd (Classical.not_not.mp h33) (by decide)
        | skip
          refine pr_seqT (pc' := 45) 7 rfl ⟨⟨⟨⟨⟨⟨⟨trivial, (by first | decide | assumption)⟩, (by assumption)⟩, trivial⟩, trivial⟩, trivial⟩, trivial⟩, trivial⟩ ?_
          try simp (disch := omega) only [e2, e4, c97, esub, t2, rPg, rI_mul, nI_add, nI_1, nI_clamp, c193, pr_16_193, pr_8_40, pr_8_97, pr_i_0, pr_i_1, pr_i_4]
          refine pr_icT rfl (fun h45 => ?_) (fun h45 => ?_)
          · simp only [ab_cmp, pr_16_193, pr_8_40, pr_8_97, pr_i_0, pr_i_1, pr_i_4] at h45
            exact absurd zb h45
          · simp only [ab_cmp, pr_16_193, pr_8_40, pr_8_97, pr_i_0, pr_i_1, pr_i_4] at h45
            first
            | contradiction
            | exact absurd trivial h45
            | exact absurd h45 (by decide)
            | exact absurd (Classical.not_not.mp h45) (by decide)
            | skip
              refine pr_seqT (pc' := 50) 2 rfl ⟨⟨trivial, (by first | decide | assumption)⟩, trivial⟩ ?_
              try simp (disch := omega) only [e2, e4, c97, esub, t2, rPg, rI_mul, nI_add, nI_1, nI_clamp, c193, pr_16_193, pr_8_40, pr_8_97, pr_i_0, pr_i_1, pr_i_4]
              refine pr_cvX [_] rfl rfl rfl rfl rfl (Nat.le_of_ble_eq_true rfl) (by first | assumption | decide | (simp (disch := omega) only [e2, e4, c97, esub, t2, rPg, rI_mul, nI_add, nI_1, nI_clamp, c193, pr_16_193, pr_8_40, pr_8_97, pr_i_0, pr_i_1, pr_i_4]; first | assumption | exact ⟨Or.inl (by assumption), rvin (by assumption) (by omega) (by decide)⟩ | exact ⟨by assumption, rvin (by assumption) (by omega) (by decide)⟩ | exact ⟨⟨by omega, by omega⟩, rvin (by assumption) (by omega) (by decide)⟩ | exact ⟨Or.inr (by assumption), rvin (by assumption) (by omega) (by decide)⟩ | exact ⟨Or.inr ⟨by assumption, (by first | exact Or.inl rfl | exact Or.inr rfl | exact pr_b01 _)⟩, rvin (by assumption) (by omega) (by decide)⟩ | exact ⟨by assumption, by assumption⟩ | decide | omega)) (Nat.le_of_ble_eq_true rfl) (f4) (fun v50 M50 q50 => ?_)
              obtain ⟨rfl, w1, w2, w3⟩ := q50
              obtain ⟨I1, Z1⟩ := M50
              dsimp only at w1 w2 w3
              subst w1
              exact K I1 (rfr_tr hf w2) w3
theorem rl_b0 {w : List Nat} {P : PS} {p x c : Nat} {I : Nat → Nat → Int32} {Q : Option Value → ab_M → Prop} {z1 : Option Value} (h : ab_H) (M : ab_M) (hl : rL h M.2.2) (hw : tp_r M.1 w) (hv : pv M.1 P) (hf : rfr M.1 I) (he : rs2 I w (.ok p)) (hx : x = (tok w p).2.1) (hby : pr_C pX11_byteAt [.ref 172, .int (nI x)] h (I, M.2) (some (.int (nI c))) h (I, M.2)) (esub : nI c - nI 97 = nI (c - 97)) (zb : ¬ nI (bs P.2.2.2 26) >>> (nI (c - 97) &&& 31) &&& 1 = 1) (K : pr_T pX11_readLetter 53 [some (.ref 172), some (.int (nI (c - 97)))] [] h (I, M.2) Q) : pr_T pX11_readLetter 6 [some (.ref 172), z1] [] h (I, M.2) Q := by
  obtain ⟨k172, rS, rLs, rKn, rPg, rRl, rRk, rTp, rCu, rLe, rLt, rSm, rIk, rLn, rLg, rCe, ⟨kS, nS⟩, ⟨kLs, nLs⟩, ⟨kKn, nKn⟩, ⟨kPg, nPg⟩, ⟨kRl, nRl⟩, ⟨kRk, nRk⟩, ⟨kTp, nTp⟩, ⟨kCu, nCu⟩, ⟨kLe, nLe⟩, ⟨kLt, nLt⟩, ⟨kSm, nSm⟩, ⟨kIk, nIk⟩, ⟨kLn, nLn⟩, ⟨kLg, nLg⟩, kCe, nCe⟩ := id hl
  subst hx
  obtain ⟨e0, e1, e2, e3, e4, e5, e6⟩ := id he
  have t2 := (pv_rfr hf hv).2.2.2.2.1
  have c97 : (97 : Int32) = nI 97 := rfl
  refine pr_seqT (pc' := 10) 2 rfl ⟨⟨trivial, (by first | decide | assumption)⟩, (by assumption)⟩ ?_
  try simp (disch := omega) only [e2, e4, c97, esub, t2, rPg, rI_mul, nI_add, nI_1, nI_clamp, c193, pr_16_193, pr_8_40, pr_8_97, pr_i_0, pr_i_1, pr_i_4]
  refine pr_ifT rfl (fun h10 => ?_) (fun h10 => ?_)
  · simp only [ab_cmp, pr_16_193, pr_8_40, pr_8_97, pr_i_0, pr_i_1, pr_i_4] at h10
    exact absurd trivial h10
  · simp only [ab_cmp, pr_16_193, pr_8_40, pr_8_97, pr_i_0, pr_i_1, pr_i_4] at h10
    first
    | contradiction
    | exact absurd trivial h10
    | exact absurd h10 (by decide)
    | exact absurd (Classical.not_not.mp h10) (by decide)
    | skip
      refine pr_seqT (pc' := 18) 3 rfl ⟨⟨⟨trivial, (by first | decide | assumption)⟩, (by first | decide | assumption)⟩, (by assumption)⟩ ?_
      try simp (disch := omega) only [e2, e4, c97, esub, t2, rPg, rI_mul, nI_add, nI_1, nI_clamp, c193, pr_16_193, pr_8_40, pr_8_97, pr_i_0, pr_i_1, pr_i_4]
      refine pr_cvT [_] rfl rfl rfl rfl rfl (Nat.le_of_ble_eq_true rfl) (by first | assumption | decide | (simp (disch := omega) only [e2, e4, c97, esub, t2, rPg, rI_mul, nI_add, nI_1, nI_clamp, c193, pr_16_193, pr_8_40, pr_8_97, pr_i_0, pr_i_1, pr_i_4]; first | assumption | exact ⟨Or.inl (by assumption), rvin (by assumption) (by omega) (by decide)⟩ | exact ⟨by assumption, rvin (by assumption) (by omega) (by decide)⟩ | exact ⟨⟨by omega, by omega⟩, rvin (by assumption) (by omega) (by decide)⟩ | exact ⟨Or.inr (by assumption), rvin (by assumption) (by omega) (by decide)⟩ | exact ⟨Or.inr ⟨by assumption, (by first | exact Or.inl rfl | exact Or.inr rfl | exact pr_b01 _)⟩, rvin (by assumption) (by omega) (by decide)⟩ | exact ⟨by assumption, by assumption⟩ | decide | omega)) (Nat.le_of_ble_eq_true rfl) (hby) ?_
      refine pr_seqT (pc' := 33) 6 rfl ⟨⟨⟨⟨⟨⟨trivial, trivial⟩, trivial⟩, trivial⟩, trivial⟩, (by first | decide | assumption)⟩, (by assumption)⟩ ?_
      try simp (disch := omega) only [e2, e4, c97, esub, t2, rPg, rI_mul, nI_add, nI_1, nI_clamp, c193, pr_16_193, pr_8_40, pr_8_97, pr_i_0, pr_i_1, pr_i_4]
      refine pr_ifT rfl (fun h33 => ?_) (fun h33 => ?_)
      · simp only [ab_cmp, pr_16_193, pr_8_40, pr_8_97, pr_i_0, pr_i_1, pr_i_4] at h33
        exact absurd trivial h33
      · simp only [ab_cmp, pr_16_193, pr_8_40, pr_8_97, pr_i_0, pr_i_1, pr_i_4] at h33
        first
        | contradiction
        | exact absurd trivial h33
        | exact absurd h33 (by decide)
        | exact absurd (Classical.not_not.mp h33) (by decide)
        | skip
          refine pr_seqT (pc' := 45) 7 rfl ⟨⟨⟨⟨⟨⟨⟨trivial, (by first | decide | assumption)⟩, (by assumption)⟩, trivial⟩, trivial⟩, trivial⟩, trivial⟩, trivial⟩ ?_
          try simp (disch := omega) only [e2, e4, c97, esub, t2, rPg, rI_mul, nI_add, nI_1, nI_clamp, c193, pr_16_193, pr_8_40, pr_8_97, pr_i_0, pr_i_1, pr_i_4]
          refine pr_icT rfl (fun h45 => ?_) (fun h45 => ?_)
          · simp only [ab_cmp, pr_16_193, pr_8_40, pr_8_97, pr_i_0, pr_i_1, pr_i_4] at h45
            first
            | contradiction
            | exact absurd trivial h45
            | exact absurd h45 (by decide)
            | exact absurd (Classical.not_not.mp h45) (by decide)
            | skip
              exact K
          · simp only [ab_cmp, pr_16_193, pr_8_40, pr_8_97, pr_i_0, pr_i_1, pr_i_4] at h45
            exact absurd (Classical.not_not.mp h45) zb
theorem q_readLetter {w : List Nat} {P : PS} {p : Nat} (h : ab_H) (M : ab_M) (hl : rL h M.2.2) (hw : tp_r M.1 w) (hv : pv M.1 P) (he : rs2 M.1 w (.ok p)) : pr_X pX11_readLetter [.ref 172] h M (ln2_p M w (letE w P p) (letP w P p) none) := by
  obtain ⟨k172, rS, rLs, rKn, rPg, rRl, rRk, rTp, rCu, rLe, rLt, rSm, rIk, rLn, rLg, rCe, ⟨kS, nS⟩, ⟨kLs, nLs⟩, ⟨kKn, nKn⟩, ⟨kPg, nPg⟩, ⟨kRl, nRl⟩, ⟨kRk, nRk⟩, ⟨kTp, nTp⟩, ⟨kCu, nCu⟩, ⟨kLe, nLe⟩, ⟨kLt, nLt⟩, ⟨kSm, nSm⟩, ⟨kIk, nIk⟩, ⟨kLn, nLn⟩, ⟨kLg, nLg⟩, kCe, nCe⟩ := id hl
  have hw2 := hw.2.1
  have hw3 : ∀ j, j < w.length → w.getD j 0 < 256 := fun j hj => (hw.2.2 j hj).2
  obtain ⟨e0, e1, e2, e3, e4, e5, e6⟩ := id he
  have hle := tok_le e0
  have hlo := q_longHere (mx := 1) h M hl hw he (by decide)
  have n1 : (1 : Int32) = nI 1 := rfl
  have c97 : (97 : Int32) = nI 97 := rfl
  have hE : loE w 1 (.ok p) = match tWord w 1 p with
    | .error q => .error q
    | .ok _ => .ok p := rfl
  unfold letE letP
  cases ct : tWord w 1 p with
  | error q =>
    rw [hE, ct] at hlo
    dsimp only at hlo ⊢
    have tl := fun N hf hN => (rl_tail (l := 0) (e := .error q) (by decide) h M hl hw hv N hf hN).mono (fun r M' z => ln2_er (P' := P) z)
    refine pr_seqT (pc' := 2) 2 rfl ⟨⟨trivial, (by first | decide | assumption)⟩, trivial⟩ ?_
    try simp (disch := omega) only [rPg, rI_mul, nI_add, nI_1, nI_clamp, c193, pr_16_193, pr_8_40, pr_8_97, pr_i_0, pr_i_1, pr_i_4]
    refine pr_cvX [_] rfl rfl rfl rfl rfl (Nat.le_of_ble_eq_true rfl) (by first | assumption | decide | (simp (disch := omega) only [rPg, rI_mul, nI_add, nI_1, nI_clamp, c193, pr_16_193, pr_8_40, pr_8_97, pr_i_0, pr_i_1, pr_i_4]; first | assumption | exact ⟨Or.inl (by assumption), rvin (by assumption) (by omega) (by decide)⟩ | exact ⟨by assumption, rvin (by assumption) (by omega) (by decide)⟩ | exact ⟨⟨by omega, by omega⟩, rvin (by assumption) (by omega) (by decide)⟩ | exact ⟨Or.inr (by assumption), rvin (by assumption) (by omega) (by decide)⟩ | exact ⟨Or.inr ⟨by assumption, (by first | exact Or.inl rfl | exact Or.inr rfl | exact pr_b01 _)⟩, rvin (by assumption) (by omega) (by decide)⟩ | exact ⟨by assumption, by assumption⟩ | decide | omega)) (Nat.le_of_ble_eq_true rfl) (hlo) (fun v2 M2 q2 => ?_)
    obtain ⟨rfl, w1, w2, w3⟩ := q2
    obtain ⟨I1, Z1⟩ := M2
    dsimp only at w1 w2 w3
    subst w1
    have g := w3.1
    have en : ¬ nI q.1 = 0 := nI_ne0 (by have := w3.2.1; omega) (by have := w3.2.1; omega)
    refine pr_seqT (pc' := 10) 3 rfl ⟨⟨⟨trivial, trivial⟩, (by first | decide | assumption)⟩, (by assumption)⟩ ?_
    try simp (disch := omega) only [rPg, rI_mul, nI_add, nI_1, nI_clamp, c193, pr_16_193, pr_8_40, pr_8_97, pr_i_0, pr_i_1, pr_i_4]
    simp only [g]
    refine pr_ifT rfl (fun h10 => ?_) (fun h10 => ?_)
    · simp only [ab_cmp, pr_16_193, pr_8_40, pr_8_97, pr_i_0, pr_i_1, pr_i_4] at h10
      first
      | contradiction
      | exact absurd trivial h10
      | exact absurd h10 (by decide)
      | exact absurd (Classical.not_not.mp h10) (by decide)
      | skip
        refine pr_seqT (pc' := 33) 4 rfl ⟨⟨⟨⟨trivial, trivial⟩, trivial⟩, (by first | decide | assumption)⟩, (by assumption)⟩ ?_
        try simp (disch := omega) only [rPg, rI_mul, nI_add, nI_1, nI_clamp, c193, pr_16_193, pr_8_40, pr_8_97, pr_i_0, pr_i_1, pr_i_4]
        simp only [g]
        refine pr_ifT rfl (fun h33 => ?_) (fun h33 => ?_)
        · simp only [ab_cmp, pr_16_193, pr_8_40, pr_8_97, pr_i_0, pr_i_1, pr_i_4] at h33
          first
          | contradiction
          | exact absurd trivial h33
          | exact absurd h33 (by decide)
          | exact absurd (Classical.not_not.mp h33) (by decide)
          | skip
            exact tl I1 w2 w3
        · simp only [ab_cmp, pr_16_193, pr_8_40, pr_8_97, pr_i_0, pr_i_1, pr_i_4] at h33
          exact absurd (Classical.not_not.mp h33) en
    · simp only [ab_cmp, pr_16_193, pr_8_40, pr_8_97, pr_i_0, pr_i_1, pr_i_4] at h10
      exact absurd (Classical.not_not.mp h10) en
  | ok x =>
    rw [hE, ct] at hlo
    dsimp only at hlo ⊢
    obtain ⟨o1, o2, o3, o4, o5⟩ := tWord_ok (s := x.1) (e := x.2) e0 ct
    have hxs : x.1 = (tok w p).2.1 ∧ x.2 = (tok w p).2.2.1 := by
      unfold tWord at ct
      rw [if_neg e1] at ct
      split at ct
      · split at ct
        · cases ct; exact ⟨rfl, rfl⟩
        · cases ct
      · cases ct
    have hps := tWord_pos (s := x.1) (e := x.2) e0 ct
    obtain ⟨b1, b2⟩ := o5 x.1 (Nat.le_refl _) hps
    have t2 := hv.2.2.2.2.1
    have hl26 : w.getD x.1 0 - 97 < 26 := by omega
    have hbit : nI (bs P.2.2.2 26) >>> (nI (w.getD x.1 0 - 97) &&& 31) &&& 1 = nI (P.2.2.2 (w.getD x.1 0 - 97)).toNat := by
      rw [i_shr (bs_31 _ (by decide)) (by omega), nI_and1, bs_bit _ _ 26 hl26]
      cases P.2.2.2 (w.getD x.1 0 - 97) <;> rfl
    have esub : nI (w.getD x.1 0) - nI 97 = nI (w.getD x.1 0 - 97) := i_sub b1
    have hby : ∀ N, rfr M.1 N → pr_C pX11_byteAt [.ref 172, .int (nI x.1)] h (N, M.2) (some (.int (nI (w.getD x.1 0)))) h (N, M.2) := fun N hf => by
      have := q_byteAt (q := x.1) h (N, M.2) hl (rfr_tp hf hw) (by omega)
      rw [show bA w x.1 = nI (w.getD x.1 0) by unfold bA; rw [if_pos (by omega)]] at this
      exact this
    cases cb : P.2.2.2 (w.getD x.1 0 - 97) with
    | true =>
      rw [if_pos rfl]
      rw [cb] at hbit
      have zb : nI (bs P.2.2.2 26) >>> (nI (w.getD x.1 0 - 97) &&& 31) &&& 1 = 1 := hbit
      have tl := fun N hf hN => (rl_tail (l := w.getD x.1 0 - 97) (e := .error (4, x.1)) hl26 h M hl hw hv N hf hN).mono (fun r M' z => ln2_er (P' := pLet P (w.getD x.1 0 - 97) (nuV w 0 40 (stN w x.2))) z)
      refine pr_seqT (pc' := 2) 2 rfl ⟨⟨trivial, (by first | decide | assumption)⟩, trivial⟩ ?_
      try simp (disch := omega) only [rPg, rI_mul, nI_add, nI_1, nI_clamp, c193, pr_16_193, pr_8_40, pr_8_97, pr_i_0, pr_i_1, pr_i_4]
      refine pr_cvX [_] rfl rfl rfl rfl rfl (Nat.le_of_ble_eq_true rfl) (by first | assumption | decide | (simp (disch := omega) only [rPg, rI_mul, nI_add, nI_1, nI_clamp, c193, pr_16_193, pr_8_40, pr_8_97, pr_i_0, pr_i_1, pr_i_4]; first | assumption | exact ⟨Or.inl (by assumption), rvin (by assumption) (by omega) (by decide)⟩ | exact ⟨by assumption, rvin (by assumption) (by omega) (by decide)⟩ | exact ⟨⟨by omega, by omega⟩, rvin (by assumption) (by omega) (by decide)⟩ | exact ⟨Or.inr (by assumption), rvin (by assumption) (by omega) (by decide)⟩ | exact ⟨Or.inr ⟨by assumption, (by first | exact Or.inl rfl | exact Or.inr rfl | exact pr_b01 _)⟩, rvin (by assumption) (by omega) (by decide)⟩ | exact ⟨by assumption, by assumption⟩ | decide | omega)) (Nat.le_of_ble_eq_true rfl) (hlo) (fun v2 M2 q2 => ?_)
      obtain ⟨rfl, w1, w2, w3⟩ := q2
      obtain ⟨I1, Z1⟩ := M2
      dsimp only at w1 w2 w3
      subst w1
      refine pr_seqT (pc' := 6) 1 rfl ⟨trivial, trivial⟩ ?_
      try simp (disch := omega) only [rPg, rI_mul, nI_add, nI_1, nI_clamp, c193, pr_16_193, pr_8_40, pr_8_97, pr_i_0, pr_i_1, pr_i_4]
      exact rl_b1 h M hl hw hv w2 w3 hxs.1 (hby I1 w2) esub zb (fun N hf hN => tl N hf hN)
    | false =>
      rw [if_neg (by decide)]
      rw [cb] at hbit
      have zb : ¬ nI (bs P.2.2.2 26) >>> (nI (w.getD x.1 0 - 97) &&& 31) &&& 1 = 1 := by rw [hbit]; decide
      have tl := rl_tail (l := w.getD x.1 0 - 97) (e := .ok p) hl26 h M hl hw hv
      rw [show adN w (.ok p) = stN w x.2 by rw [hxs.2]; rfl] at tl
      refine pr_seqT (pc' := 2) 2 rfl ⟨⟨trivial, (by first | decide | assumption)⟩, trivial⟩ ?_
      try simp (disch := omega) only [rPg, rI_mul, nI_add, nI_1, nI_clamp, c193, pr_16_193, pr_8_40, pr_8_97, pr_i_0, pr_i_1, pr_i_4]
      refine pr_cvX [_] rfl rfl rfl rfl rfl (Nat.le_of_ble_eq_true rfl) (by first | assumption | decide | (simp (disch := omega) only [rPg, rI_mul, nI_add, nI_1, nI_clamp, c193, pr_16_193, pr_8_40, pr_8_97, pr_i_0, pr_i_1, pr_i_4]; first | assumption | exact ⟨Or.inl (by assumption), rvin (by assumption) (by omega) (by decide)⟩ | exact ⟨by assumption, rvin (by assumption) (by omega) (by decide)⟩ | exact ⟨⟨by omega, by omega⟩, rvin (by assumption) (by omega) (by decide)⟩ | exact ⟨Or.inr (by assumption), rvin (by assumption) (by omega) (by decide)⟩ | exact ⟨Or.inr ⟨by assumption, (by first | exact Or.inl rfl | exact Or.inr rfl | exact pr_b01 _)⟩, rvin (by assumption) (by omega) (by decide)⟩ | exact ⟨by assumption, by assumption⟩ | decide | omega)) (Nat.le_of_ble_eq_true rfl) (hlo) (fun v2 M2 q2 => ?_)
      obtain ⟨rfl, w1, w2, w3⟩ := q2
      obtain ⟨I1, Z1⟩ := M2
      dsimp only at w1 w2 w3
      subst w1
      refine pr_seqT (pc' := 6) 1 rfl ⟨trivial, trivial⟩ ?_
      try simp (disch := omega) only [rPg, rI_mul, nI_add, nI_1, nI_clamp, c193, pr_16_193, pr_8_40, pr_8_97, pr_i_0, pr_i_1, pr_i_4]
      exact rl_b0 h M hl hw hv w2 w3 hxs.1 (hby I1 w2) esub zb (tl I1 w2 w3)
