
/-! ===== what the reference changes: pages ===== -/
theorem ab_u_r {α : Type} {f : Nat → Nat → α} {a k : Nat} {v : α} : ab_u f a k v a = va_up (f a) k v := by
  funext j
  unfold ab_u va_up
  by_cases e : j = k
  · rw [if_pos ⟨rfl, e⟩, if_pos e]
  · rw [if_neg (fun q => e q.2), if_neg e]
theorem pn_cong {F F' : Nat → Int32} {a : Nat} {q : Pn} (h : ∀ j, a ≤ j → j < a + 24 → F' j = F j) (hv : pn_r F a q) : pn_r F' a q := by
  obtain ⟨y1, y2, y3, y4, y5, y6, y7, y8, y9⟩ := hv
  exact ⟨by rw [h _ (by omega) (by omega)]; exact y1, y2, by rw [h _ (by omega) (by omega)]; exact y3, y4, by rw [h _ (by omega) (by omega)]; exact y5, y6, by rw [h _ (by omega) (by omega)]; exact y7, y8, fun j hj => by rw [h _ (by omega) (by omega)]; exact y9 j hj⟩
theorem pg_cong {F F' : Nat → Int32} {d : Ld} (h : ∀ j, j < 221 → F' j = F j) (hv : pg_r F d) : pg_r F' d := by
  obtain ⟨g1, g2, g3, g4, g5, g6, g7, g8⟩ := hv
  exact ⟨by rw [h _ (by omega)]; exact g1, g2, by rw [h _ (by omega)]; exact g3, g4, by rw [h _ (by omega)]; exact g5, g6, fun l hl => by rw [h _ (by omega)]; exact g7 l hl, fun p hp => pn_cong (fun j x1 x2 => h j (by omega)) (g8 p hp)⟩
theorem im_cong {I I' : Nat → Nat → Int32} {k : Nat} {o : Option Ld} (h4 : I' 184 k = I 184 k) (h3 : ∀ j, 221 * (k + 1) ≤ j → j < 221 * (k + 1) + 221 → I' 173 j = I 173 j) (hv : im_r I k o) : im_r I' k o := by
  cases o with
  | none => show I' 184 k = 0; rw [h4]; exact hv
  | some d => exact ⟨by rw [h4]; exact hv.1, pg_cong (fun j hj => h3 _ (by omega) (by omega)) hv.2⟩
theorem sr_cong {I I' : Nat → Nat → Int32} {k : Nat} {o : Sh1} (h1 : I' 185 = I 185) (h2 : I' 186 = I 186) (h3 : I' 187 = I 187) (hv : sh_r I k o) : sh_r I' k o := by
  cases o with
  | none => show I' 185 k = -4; rw [h1]; exact hv
  | some q =>
    obtain ⟨ln, n, f⟩ := q
    show I' 185 k = nI ln ∧ ln ≤ 2 ∧ I' 186 k = nI n ∧ n ≤ 40 ∧ ∀ j, j < 40 → I' 187 (40 * k + j) = f j
    rw [h1, h2, h3]
    exact hv
theorem tr_cong {I I' : Nat → Nat → Int32} {w : List Nat} (h1 : I' 172 14 = I 172 14) (h2 : I' 179 = I 179) (hv : tp_r I w) : tp_r I' w := by
  unfold tp_r
  rw [h1, h2]
  exact hv
theorem cr_cong {I I' : Nat → Nat → Int32} (h1 : I' 180 = I 180) (h2 : I' 181 = I 181) (hv : cn_r I) : cn_r I' := by
  unfold cn_r
  rw [h1, h2]
  exact hv
/-- another land, all else as it was -/
theorem rv_land {I I' : Nat → Nat → Int32} {X : St} {d : Ld} (hv : rv I X) (h : ∀ a, 172 ≤ a → a ≠ 173 → a ≠ 182 → a ≠ 183 → I' a = I a) (hp : pg_r (I' 173) d) (ho : ∀ j, 221 ≤ j → j < 663 → I' 173 j = I 173 j) : rv I' (wLd X d) := by
  obtain ⟨v1, ⟨v2, v3, v4⟩, ⟨v5, v6, v7⟩, v8, v9, v10, v11, v12, v13⟩ := hv
  have e2 := h 172 (by decide) (by decide) (by decide) (by decide)
  refine ⟨hp, ⟨by rw [e2]; exact v2, v3, ?_⟩, ⟨by rw [e2]; exact v5, v6, ?_⟩, fun k hk => im_cong (by rw [h 184 (by decide) (by decide) (by decide) (by decide)]) (fun j x1 x2 => ho j (by omega) (by omega)) (v8 k hk), fun k hk => sr_cong (h 185 (by decide) (by decide) (by decide) (by decide)) (h 186 (by decide) (by decide) (by decide) (by decide)) (h 187 (by decide) (by decide) (by decide) (by decide)) (v9 k hk), tr_cong (by rw [e2]) (h 179 (by decide) (by decide) (by decide) (by decide)) v10, by rw [e2]; exact v11, by rw [e2]; exact v12, cr_cong (h 180 (by decide) (by decide) (by decide) (by decide)) (h 181 (by decide) (by decide) (by decide) (by decide)) v13⟩
  · show ls_r (I' 174) X.1.2.1
    rw [h 174 (by decide) (by decide) (by decide) (by decide)]; exact v4
  · show kn_r (I' 175) X.1.2.1.length X.1.2.2
    rw [h 175 (by decide) (by decide) (by decide) (by decide)]; exact v7
theorem wLd_id (X : St) : wLd X X.1.1 = X := rfl
theorem rp_I {M : ab_M} {X : St} {v : Int32} {I : Nat → Nat → Int32} (hv : rv I X) (hf : ∀ a, (a < 172 ∨ 187 < a) → I a = M.1 a) : rp M (v, X) (some (.int v)) (I, M.2.1, M.2.2) := ⟨rfl, rfl, hv, hf⟩
theorem d_pn_set {d : Ld} {p p' : Nat} {q : Pn} (hp : p < d.2.1.length) : d_pn (wOne d p q) p' = if p = p' then q else d_pn d p' := by
  unfold d_pn wOne
  rw [List.getD_eq_getElem?_getD, List.getD_eq_getElem?_getD, List.getElem?_set]
  by_cases e : p = p'
  · subst e
    rw [if_pos rfl, if_pos hp, if_pos rfl]
    rfl
  · rw [if_neg e, if_neg e]
theorem wOne_len {d : Ld} {p : Nat} {q : Pn} : (wOne d p q).2.1.length = d.2.1.length := List.length_set
theorem pg_one {F F' : Nat → Int32} {d : Ld} {p : Nat} {q : Pn} (hv : pg_r F d) (hp : p < d.2.1.length) (hf : ∀ j, j < 221 → (j < 24 * p ∨ 24 * p + 24 ≤ j) → F' j = F j) (hq : pn_r F' (24 * p) q) : pg_r F' (wOne d p q) := by
  obtain ⟨g1, g2, g3, g4, g5, g6, g7, g8⟩ := hv
  refine ⟨by rw [hf _ (by omega) (by omega), wOne_len]; exact g1, by rw [wOne_len]; exact g2, by rw [hf _ (by omega) (by omega)]; exact g3, g4, by rw [hf _ (by omega) (by omega)]; exact g5, g6, fun l hl => by rw [hf _ (by omega) (by omega)]; exact g7 l hl, fun p' hp' => ?_⟩
  rw [wOne_len] at hp'
  rw [d_pn_set hp]
  by_cases e : p = p'
  · subst e
    rw [if_pos rfl]; exact hq
  · rw [if_neg e]
    exact pn_cong (fun j x1 x2 => hf j (by omega) (by omega)) (g8 p' hp')
theorem pg_letter {F : Nat → Int32} {d : Ld} {l v : Nat} (hv : pg_r F d) (hl : l < 26) (h4 : v ≤ 40) : pg_r (va_up F (193 + l) (nI v - nI l - 1)) (va_up d.1 l v, d.2) := by
  obtain ⟨g1, g2, g3, g4, g5, g6, g7, g8⟩ := hv
  refine ⟨by rw [va_up_n (by omega)]; exact g1, g2, by rw [va_up_n (by omega)]; exact g3, g4, by rw [va_up_n (by omega)]; exact g5, g6, fun l' hl' => ?_, fun p hp => pn_cong (fun j x1 x2 => va_up_n (by have : p < d.2.1.length := hp; omega)) (g8 p hp)⟩
  show va_up F (193 + l) (nI v - nI l - 1) (193 + l') = nI (va_up d.1 l v l') - nI l' - 1 ∧ va_up d.1 l v l' ≤ 40
  by_cases e : l' = l
  · subst e
    rw [va_up_at, va_up_at]
    exact ⟨rfl, h4⟩
  · rw [va_up_n (by omega), va_up_n e]
    exact g7 l' hl'
theorem pg_law {F : Nat → Int32} {d : Ld} {v : Nat} (hv : pg_r F d) (h1 : v ≤ 1) : pg_r (va_up F 219 (nI v)) (d.1, d.2.1, v, d.2.2.2) := by
  obtain ⟨g1, g2, g3, g4, g5, g6, g7, g8⟩ := hv
  exact ⟨by rw [va_up_n (by omega)]; exact g1, g2, va_up_at _ _ _, h1, by rw [va_up_n (by omega)]; exact g5, g6, fun l hl => by rw [va_up_n (by omega)]; exact g7 l hl, fun p hp => pn_cong (fun j x1 x2 => va_up_n (by have : p < d.2.1.length := hp; omega)) (g8 p hp)⟩
theorem pg_fee {F : Nat → Int32} {d : Ld} {v : Nat} (hv : pg_r F d) (h1 : 1 ≤ v ∧ v ≤ 9) : pg_r (va_up F 220 (nI v - 1)) (d.1, d.2.1, d.2.2.1, v) := by
  obtain ⟨g1, g2, g3, g4, g5, g6, g7, g8⟩ := hv
  exact ⟨by rw [va_up_n (by omega)]; exact g1, g2, by rw [va_up_n (by omega)]; exact g3, g4, va_up_at _ _ _, h1, fun l hl => by rw [va_up_n (by omega)]; exact g7 l hl, fun p hp => pn_cong (fun j x1 x2 => va_up_n (by have : p < d.2.1.length := hp; omega)) (g8 p hp)⟩
theorem q_sets0 (x v : Int32) (h : ab_H) (M : ab_M) : pr_C pX11_sets [.ref 172, .int (pr_b false), .int x, .int v] h M (some (.int (-1))) h M := by
  refine pr_seq (pc' := 1) 1 rfl ⟨trivial, trivial⟩ ?_
  refine pr_if rfl (fun h1 => ?_) (fun h1 => ?_)
  · simp only [ab_cmp, pr_i_m1] at h1
    exact absurd rfl h1
  · simp only [ab_cmp, pr_i_m1] at h1
    first
    | contradiction
    | exact absurd trivial h1
    | exact absurd h1 (by decide)
    | exact absurd (Classical.not_not.mp h1) (by decide)
    | skip
      refine pr_seq (pc' := 5) 1 rfl ⟨trivial, trivial⟩ ?_
      exact pr_irM rfl (by first | rfl | (simp [pr_b, pr_i_m1, *]; done) | (simp_all [pr_b, pr_i_m1]; done)) trivial (by rfl)
theorem q_sets1 {k : Nat} (v : Int32) (h : ab_H) (M : ab_M) (hl : rL h M.2.2) (hk : k < 884) : pr_C pX11_sets [.ref 172, .int (pr_b true), .int (nI k), .int v] h M (some (.int (M.1 173 k))) h (ab_u M.1 173 k v, M.2.1, M.2.2) := by
  obtain ⟨k172, rS, rLs, rKn, rPg, rRl, rRk, rTp, rCu, rLe, rLt, rSm, rIk, rLn, rLg, rCe, ⟨kS, nS⟩, ⟨kLs, nLs⟩, ⟨kKn, nKn⟩, ⟨kPg, nPg⟩, ⟨kRl, nRl⟩, ⟨kRk, nRk⟩, ⟨kTp, nTp⟩, ⟨kCu, nCu⟩, ⟨kLe, nLe⟩, ⟨kLt, nLt⟩, ⟨kSm, nSm⟩, ⟨kIk, nIk⟩, ⟨kLn, nLn⟩, ⟨kLg, nLg⟩, kCe, nCe⟩ := id hl
  refine pr_seq (pc' := 1) 1 rfl ⟨trivial, trivial⟩ ?_
  try simp (disch := omega) only [rS, rI_mul, nI_add, nI_1, nI_clamp, pr_i_m1]
  refine pr_if rfl (fun h1 => ?_) (fun h1 => ?_)
  · simp only [ab_cmp, pr_i_m1] at h1
    first
    | contradiction
    | exact absurd trivial h1
    | exact absurd h1 (by decide)
    | exact absurd (Classical.not_not.mp h1) (by decide)
    | skip
      refine pr_seq (pc' := 23) 11 rfl ⟨⟨⟨⟨⟨⟨⟨⟨⟨⟨⟨trivial, (by first | decide | assumption)⟩, (by assumption)⟩, trivial⟩, (by simp (disch := omega) only [rS, rI_mul, nI_add, nI_1, nI_clamp, pr_i_m1]; exact ⟨Or.inl (by assumption), rvin (by assumption) (by omega) (by decide)⟩)⟩, trivial⟩, (by first | decide | assumption)⟩, (by assumption)⟩, trivial⟩, trivial⟩, (by simp (disch := omega) only [rS, rI_mul, nI_add, nI_1, nI_clamp, pr_i_m1]; exact ⟨by assumption, rvin (by assumption) (by omega) (by decide)⟩)⟩, trivial⟩ ?_
      try simp (disch := omega) only [rS, rI_mul, nI_add, nI_1, nI_clamp, pr_i_m1]
      exact pr_irM rfl (by rfl) trivial (by rfl)
  · simp only [ab_cmp, pr_i_m1] at h1
    exact absurd (Classical.not_not.mp h1) (by decide)
theorem q_letterIs0 (l v : Int32) (h : ab_H) (M : ab_M) (hb : (pr_in l 0 25 && pr_in v 0 40) = false) : pr_C pX11_letterIs [.ref 172, .int l, .int v] h M (some (.int (-1))) h M := by
  have h1 := q_isLetter l h M
  have h2 := q_in (a := v.toInt64) (b := Int64.ofNat 0) (c := Int64.ofNat 40) v 0 40 h M rfl rfl rfl
  cases c1 : pr_in l 0 25 with
  | false =>
    rw [c1] at h1
    refine pr_seq (pc' := 1) 1 rfl ⟨trivial, trivial⟩ ?_
    refine pr_cs [_] rfl rfl rfl rfl rfl (Nat.le_of_ble_eq_true rfl) (Nat.le_of_ble_eq_true rfl) (h1) ?_
    refine pr_if rfl (fun h4 => ?_) (fun h4 => ?_)
    · simp only [ab_cmp, pr_16_193, pr_i_1, pr_i_m1] at h4
      first
      | contradiction
      | exact absurd trivial h4
      | exact absurd h4 (by decide)
      | exact absurd (Classical.not_not.mp h4) (by decide)
      | skip
        refine pr_seq (pc' := 20) 1 rfl ⟨trivial, trivial⟩ ?_
        exact pr_irM rfl (by first | rfl | (simp [pr_b, pr_16_193, pr_i_1, pr_i_m1, *]; done) | (simp_all [pr_b, pr_16_193, pr_i_1, pr_i_m1]; done)) trivial (by rfl)
    · simp only [ab_cmp, pr_16_193, pr_i_1, pr_i_m1] at h4
      exact absurd rfl h4
  | true =>
    rw [c1, Bool.true_and] at hb
    rw [c1] at h1
    rw [hb] at h2
    refine pr_seq (pc' := 1) 1 rfl ⟨trivial, trivial⟩ ?_
    refine pr_cs [_] rfl rfl rfl rfl rfl (Nat.le_of_ble_eq_true rfl) (Nat.le_of_ble_eq_true rfl) (h1) ?_
    refine pr_if rfl (fun h4 => ?_) (fun h4 => ?_)
    · simp only [ab_cmp, pr_16_193, pr_i_1, pr_i_m1] at h4
      exact absurd h4 (by decide)
    · simp only [ab_cmp, pr_16_193, pr_i_1, pr_i_m1] at h4
      first
      | contradiction
      | exact absurd trivial h4
      | exact absurd h4 (by decide)
      | exact absurd (Classical.not_not.mp h4) (by decide)
      | skip
        refine pr_seq (pc' := 13) 4 rfl ⟨⟨⟨⟨trivial, trivial⟩, trivial⟩, trivial⟩, trivial⟩ ?_
        refine pr_cs [_, _, _] rfl rfl rfl rfl rfl (Nat.le_of_ble_eq_true rfl) (Nat.le_of_ble_eq_true rfl) (h2) ?_
        refine pr_if rfl (fun h16 => ?_) (fun h16 => ?_)
        · simp only [ab_cmp, pr_16_193, pr_i_1, pr_i_m1] at h16
          exact absurd rfl h16
        · simp only [ab_cmp, pr_16_193, pr_i_1, pr_i_m1] at h16
          first
          | contradiction
          | exact absurd trivial h16
          | exact absurd h16 (by decide)
          | exact absurd (Classical.not_not.mp h16) (by decide)
          | skip
            refine pr_seq (pc' := 20) 1 rfl ⟨trivial, trivial⟩ ?_
            exact pr_irM rfl (by first | rfl | (simp [pr_b, pr_16_193, pr_i_1, pr_i_m1, *]; done) | (simp_all [pr_b, pr_16_193, pr_i_1, pr_i_m1]; done)) trivial (by rfl)
theorem in_t {l m : Nat} {hi : Int32} (hl : l ≤ m) (hhi : hi = nI m) (hm : m ≤ 1000000) : pr_in (nI l) 0 hi = true := by
  subst hhi
  unfold pr_in
  rw [decide_eq_false (nI_pos (by omega)), decide_eq_false (nI_nlt hl (by omega))]
  rfl
theorem q_letterIs1 {d : Ld} {l v : Nat} (h : ab_H) (M : ab_M) (hl : rL h M.2.2) (hv : pg_r (M.1 173) d) (hl26 : l < 26) (hv40 : v ≤ 40) : pr_C pX11_letterIs [.ref 172, .int (nI l), .int (nI v)] h M (some (.int (nI (d.1 l)))) h (ab_u M.1 173 (193 + l) (nI v - nI l - 1), M.2.1, M.2.2) := by
  obtain ⟨k172, rS, rLs, rKn, rPg, rRl, rRk, rTp, rCu, rLe, rLt, rSm, rIk, rLn, rLg, rCe, ⟨kS, nS⟩, ⟨kLs, nLs⟩, ⟨kKn, nKn⟩, ⟨kPg, nPg⟩, ⟨kRl, nRl⟩, ⟨kRk, nRk⟩, ⟨kTp, nTp⟩, ⟨kCu, nCu⟩, ⟨kLe, nLe⟩, ⟨kLt, nLt⟩, ⟨kSm, nSm⟩, ⟨kIk, nIk⟩, ⟨kLn, nLn⟩, ⟨kLg, nLg⟩, kCe, nCe⟩ := id hl
  have h1 := q_isLetter (nI l) h M
  have h2 := q_in (a := (nI v).toInt64) (b := Int64.ofNat 0) (c := Int64.ofNat 40) (nI v) 0 40 h M rfl rfl rfl
  rw [in_t (m := 25) (hi := 25) (by omega) rfl (by decide)] at h1
  rw [in_t (m := 40) (hi := 40) (by omega) rfl (by decide)] at h2
  have h3 := q_worthOf h M hl hv hl26
  refine pr_seq (pc' := 1) 1 rfl ⟨trivial, trivial⟩ ?_
  try simp (disch := omega) only [rS, rI_mul, nI_add, nI_1, nI_clamp, c193, pr_16_193, pr_i_1, pr_i_m1]
  refine pr_cs [_] rfl rfl rfl rfl rfl (Nat.le_of_ble_eq_true rfl) (Nat.le_of_ble_eq_true rfl) (h1) ?_
  refine pr_if rfl (fun h4 => ?_) (fun h4 => ?_)
  · simp only [ab_cmp, pr_16_193, pr_i_1, pr_i_m1] at h4
    exact absurd h4 (by decide)
  · simp only [ab_cmp, pr_16_193, pr_i_1, pr_i_m1] at h4
    first
    | contradiction
    | exact absurd trivial h4
    | exact absurd h4 (by decide)
    | exact absurd (Classical.not_not.mp h4) (by decide)
    | skip
      refine pr_seq (pc' := 13) 4 rfl ⟨⟨⟨⟨trivial, trivial⟩, trivial⟩, trivial⟩, trivial⟩ ?_
      try simp (disch := omega) only [rS, rI_mul, nI_add, nI_1, nI_clamp, c193, pr_16_193, pr_i_1, pr_i_m1]
      refine pr_cs [_, _, _] rfl rfl rfl rfl rfl (Nat.le_of_ble_eq_true rfl) (Nat.le_of_ble_eq_true rfl) (h2) ?_
      refine pr_if rfl (fun h16 => ?_) (fun h16 => ?_)
      · simp only [ab_cmp, pr_16_193, pr_i_1, pr_i_m1] at h16
        first
        | contradiction
        | exact absurd trivial h16
        | exact absurd h16 (by decide)
        | exact absurd (Classical.not_not.mp h16) (by decide)
        | skip
          refine pr_seq (pc' := 23) 2 rfl ⟨⟨trivial, (by first | decide | assumption)⟩, trivial⟩ ?_
          try simp (disch := omega) only [rS, rI_mul, nI_add, nI_1, nI_clamp, c193, pr_16_193, pr_i_1, pr_i_m1]
          refine pr_cv [_] rfl rfl rfl rfl rfl (Nat.le_of_ble_eq_true rfl) (by first | assumption | decide | (simp (disch := omega) only [rS, rI_mul, nI_add, nI_1, nI_clamp, c193, pr_16_193, pr_i_1, pr_i_m1]; first | assumption | exact ⟨Or.inl (by assumption), rvin (by assumption) (by omega) (by decide)⟩ | exact ⟨by assumption, rvin (by assumption) (by omega) (by decide)⟩ | exact ⟨⟨by omega, by omega⟩, rvin (by assumption) (by omega) (by decide)⟩ | exact ⟨Or.inr (by assumption), rvin (by assumption) (by omega) (by decide)⟩ | exact ⟨Or.inr ⟨by assumption, (by first | exact Or.inl rfl | exact Or.inr rfl | exact pr_b01 _)⟩, rvin (by assumption) (by omega) (by decide)⟩ | exact ⟨by assumption, by assumption⟩ | decide | omega)) (Nat.le_of_ble_eq_true rfl) (h3) ?_
          refine pr_seq (pc' := 43) 13 rfl ⟨⟨⟨⟨⟨⟨⟨⟨⟨⟨⟨⟨⟨trivial, trivial⟩, (by first | decide | assumption)⟩, (by assumption)⟩, trivial⟩, trivial⟩, trivial⟩, trivial⟩, trivial⟩, trivial⟩, trivial⟩, trivial⟩, (by simp (disch := omega) only [rS, rI_mul, nI_add, nI_1, nI_clamp, c193, pr_16_193, pr_i_1, pr_i_m1]; exact ⟨by assumption, rvin (by assumption) (by omega) (by decide)⟩)⟩, trivial⟩ ?_
          try simp (disch := omega) only [rS, rI_mul, nI_add, nI_1, nI_clamp, c193, pr_16_193, pr_i_1, pr_i_m1]
          exact pr_irM rfl (by rfl) trivial (by rfl)
      · simp only [ab_cmp, pr_16_193, pr_i_1, pr_i_m1] at h16
        exact absurd (Classical.not_not.mp h16) (by decide)
theorem r_letterIs {X : St} (l v : Int32) (h : ab_H) (M : ab_M) (hl : rL h M.2.2) (hv : rv M.1 X) : pr_X pX11_letterIs [.ref 172, .int l, .int v] h M (rp M (f_letter X l v)) := by
  unfold f_letter
  cases c : (pr_in l 0 25 && pr_in v 0 40) with
  | false => exact pr_ofC (q_letterIs0 l v h M c) (rp_s hv)
  | true =>
    rw [if_pos rfl]
    rw [Bool.and_eq_true] at c
    rcases pr_rg l 25 25 rfl (by decide) with q | ⟨j, hj, rfl, q⟩
    · rw [q] at c; exact absurd c.1 (by decide)
    · rcases pr_rg v 40 40 rfl (by decide) with q2 | ⟨k, hk, rfl, q2⟩
      · rw [q2] at c; exact absurd c.2 (by decide)
      · refine pr_ofC (q_letterIs1 h M hl hv.1 (by omega) hk) ?_
        rw [nI_clamp (by omega), nI_clamp (by omega)]
        refine rp_I (rv_land hv (fun a a1 a2 _ _ => ab_u_ne a2) (by rw [ab_u_r]; exact pg_letter hv.1 (by omega) hk) (fun i i1 i2 => by rw [ab_u_j (by omega)])) (fun a ha => ab_u_ne (by omega))
theorem r_letter {X : St} (l v : Int32) (h : ab_H) (M : ab_M) (hl : rL h M.2.2) (hv : rv M.1 X) : pr_X pX11_letter [.ref 172, .int l, .int v] h M (rp M (f_letter X l v)) := by
  have k172 := hl.1
  have h1 := r_letterIs l v h M hl hv
  refine pr_seqT (pc' := 3) 3 rfl ⟨⟨⟨trivial, (by first | assumption | decide | exact ⟨Or.inl (by assumption), by assumption⟩ | exact ⟨by assumption, by assumption⟩ | omega)⟩, trivial⟩, trivial⟩ ?_
  refine pr_cvX [_, _] rfl rfl rfl rfl rfl (Nat.le_of_ble_eq_true rfl) (by first | assumption | decide | exact ⟨Or.inl (by assumption), by assumption⟩ | exact ⟨by assumption, by assumption⟩ | omega) (Nat.le_of_ble_eq_true rfl) (h1) (fun v3 M3 q3 => ?_)
  obtain ⟨rfl, q3⟩ := q3
  exact pr_irT rfl trivial (by exact ⟨rfl, q3⟩)
theorem r_law {X : St} (v : Int32) (h : ab_H) (M : ab_M) (hl : rL h M.2.2) (hv : rv M.1 X) : pr_X pX11_law [.ref 172, .int v] h M (rp M (f_law X v)) := by
  obtain ⟨k172, rS, rLs, rKn, rPg, rRl, rRk, rTp, rCu, rLe, rLt, rSm, rIk, rLn, rLg, rCe, ⟨kS, nS⟩, ⟨kLs, nLs⟩, ⟨kKn, nKn⟩, ⟨kPg, nPg⟩, ⟨kRl, nRl⟩, ⟨kRk, nRk⟩, ⟨kTp, nTp⟩, ⟨kCu, nCu⟩, ⟨kLe, nLe⟩, ⟨kLt, nLt⟩, ⟨kSm, nSm⟩, ⟨kIk, nIk⟩, ⟨kLn, nLn⟩, ⟨kLg, nLg⟩, kCe, nCe⟩ := id hl
  have g3 := hv.1.2.2.1
  unfold f_law
  have h1 := q_in (a := v.toInt64) (b := Int64.ofNat 0) (c := Int64.ofNat 1) v 0 1 h M rfl rfl rfl
  rcases pr_rg v 1 1 rfl (by decide) with q | ⟨j, hj, rfl, q⟩
  · rw [q] at h1 ⊢
    refine pr_ofC ?_ (rp_s hv)
    refine pr_seq (pc' := 5) 5 rfl ⟨⟨⟨⟨⟨trivial, (by first | assumption | decide | exact ⟨Or.inl (by assumption), by assumption⟩ | exact ⟨by assumption, by assumption⟩ | omega)⟩, trivial⟩, trivial⟩, trivial⟩, trivial⟩ ?_
    refine pr_cs [_, _, _] rfl rfl rfl rfl rfl (Nat.le_of_ble_eq_true rfl) (Nat.le_of_ble_eq_true rfl) (h1) ?_
    refine pr_seq (pc' := 12) 2 rfl ⟨⟨trivial, trivial⟩, trivial⟩ ?_
    refine pr_cv [_, _, _] rfl rfl rfl rfl rfl (Nat.le_of_ble_eq_true rfl) (by first | assumption | decide | exact ⟨Or.inl (by assumption), by assumption⟩ | exact ⟨by assumption, by assumption⟩ | omega) (Nat.le_of_ble_eq_true rfl) (q_sets0 _ _ h M) ?_
    exact pr_irM rfl (by first | rfl | (simp [pr_b, pr_16_219, *]; done) | (simp_all [pr_b, pr_16_219]; done)) trivial (by rfl)
  · rw [q] at h1 ⊢
    rw [if_pos rfl, nI_clamp (by omega)]
    refine pr_ofC (M1 := (ab_u M.1 173 219 (nI j), M.2.1, M.2.2)) (r := some (.int (nI X.1.1.2.2.1))) ?_ (rp_I (rv_land hv (fun a a1 a2 _ _ => ab_u_ne a2) (by rw [ab_u_r]; exact pg_law hv.1 hj) (fun i i1 i2 => by rw [ab_u_j (by omega)])) (fun a ha => ab_u_ne (by omega)))
    have hs := q_sets1 (k := 219) (nI j) h M hl (by decide)
    rw [g3] at hs
    refine pr_seq (pc' := 5) 5 rfl ⟨⟨⟨⟨⟨trivial, (by first | assumption | decide | exact ⟨Or.inl (by assumption), by assumption⟩ | exact ⟨by assumption, by assumption⟩ | omega)⟩, trivial⟩, trivial⟩, trivial⟩, trivial⟩ ?_
    refine pr_cs [_, _, _] rfl rfl rfl rfl rfl (Nat.le_of_ble_eq_true rfl) (Nat.le_of_ble_eq_true rfl) (h1) ?_
    refine pr_seq (pc' := 12) 2 rfl ⟨⟨trivial, trivial⟩, trivial⟩ ?_
    refine pr_cv [_, _, _] rfl rfl rfl rfl rfl (Nat.le_of_ble_eq_true rfl) (by first | assumption | decide | exact ⟨Or.inl (by assumption), by assumption⟩ | exact ⟨by assumption, by assumption⟩ | omega) (Nat.le_of_ble_eq_true rfl) (hs) ?_
    exact pr_irM rfl (by rfl) trivial (by rfl)
theorem i32_fee (a : Int32) : 1 + (a - 1) = a := by grind
theorem r_fee {X : St} (v : Int32) (h : ab_H) (M : ab_M) (hl : rL h M.2.2) (hv : rv M.1 X) : pr_X pX11_fee [.ref 172, .int v] h M (rp M (f_fee X v)) := by
  obtain ⟨k172, rS, rLs, rKn, rPg, rRl, rRk, rTp, rCu, rLe, rLt, rSm, rIk, rLn, rLg, rCe, ⟨kS, nS⟩, ⟨kLs, nLs⟩, ⟨kKn, nKn⟩, ⟨kPg, nPg⟩, ⟨kRl, nRl⟩, ⟨kRk, nRk⟩, ⟨kTp, nTp⟩, ⟨kCu, nCu⟩, ⟨kLe, nLe⟩, ⟨kLt, nLt⟩, ⟨kSm, nSm⟩, ⟨kIk, nIk⟩, ⟨kLn, nLn⟩, ⟨kLg, nLg⟩, kCe, nCe⟩ := id hl
  have g5 := hv.1.2.2.2.2.1
  unfold f_fee
  have h1 := q_in (a := v.toInt64) (b := Int64.ofNat 1) (c := Int64.ofNat 9) v 1 9 h M rfl rfl rfl
  rcases pr_rg1 v 9 9 rfl (by decide) with q | ⟨j, hj1, hj, rfl, q⟩
  · rw [q] at h1 ⊢
    refine pr_ofC ?_ (rp_s hv)
    refine pr_seq (pc' := 6) 4 rfl ⟨⟨⟨⟨trivial, trivial⟩, trivial⟩, trivial⟩, trivial⟩ ?_
    refine pr_cs [_, _, _] rfl rfl rfl rfl rfl (Nat.le_of_ble_eq_true rfl) (Nat.le_of_ble_eq_true rfl) (h1) ?_
    refine pr_if rfl (fun h9 => ?_) (fun h9 => ?_)
    · simp only [ab_cmp, pr_16_220, pr_i_1, pr_i_m1] at h9
      exact absurd rfl h9
    · simp only [ab_cmp, pr_16_220, pr_i_1, pr_i_m1] at h9
      first
      | contradiction
      | exact absurd trivial h9
      | exact absurd h9 (by decide)
      | exact absurd (Classical.not_not.mp h9) (by decide)
      | skip
        refine pr_seq (pc' := 13) 1 rfl ⟨trivial, trivial⟩ ?_
        exact pr_irM rfl (by first | rfl | (simp [pr_b, pr_16_220, pr_i_1, pr_i_m1, *]; done) | (simp_all [pr_b, pr_16_220, pr_i_1, pr_i_m1]; done)) trivial (by rfl)
  · rw [q] at h1 ⊢
    rw [if_pos rfl, nI_clamp (by omega)]
    refine pr_ofC (M1 := (ab_u M.1 173 220 (nI j - 1), M.2.1, M.2.2)) (r := some (.int (nI X.1.1.2.2.2))) ?_ (rp_I (rv_land hv (fun a a1 a2 _ _ => ab_u_ne a2) (by rw [ab_u_r]; exact pg_fee hv.1 ⟨hj1, hj⟩) (fun i i1 i2 => by rw [ab_u_j (by omega)])) (fun a ha => ab_u_ne (by omega)))
    have hs := q_sets1 (k := 220) (nI j - 1) h M hl (by decide)
    rw [g5] at hs
    refine pr_seq (pc' := 6) 4 rfl ⟨⟨⟨⟨trivial, trivial⟩, trivial⟩, trivial⟩, trivial⟩ ?_
    try simp only [i32_fee, pr_16_220, pr_i_1, pr_i_m1]
    refine pr_cs [_, _, _] rfl rfl rfl rfl rfl (Nat.le_of_ble_eq_true rfl) (Nat.le_of_ble_eq_true rfl) (h1) ?_
    refine pr_if rfl (fun h9 => ?_) (fun h9 => ?_)
    · simp only [ab_cmp, pr_16_220, pr_i_1, pr_i_m1] at h9
      first
      | contradiction
      | exact absurd trivial h9
      | exact absurd h9 (by decide)
      | exact absurd (Classical.not_not.mp h9) (by decide)
      | skip
        refine pr_seq (pc' := 23) 7 rfl ⟨⟨⟨⟨⟨⟨⟨trivial, trivial⟩, (by first | assumption | (simp only [i32_fee, pr_16_220, pr_i_1, pr_i_m1]; first | assumption | decide | exact ⟨by assumption, by assumption⟩ | exact ⟨Or.inl (by assumption), by assumption⟩ | omega) | decide | exact ⟨Or.inl (by assumption), by assumption⟩ | exact ⟨by assumption, by assumption⟩ | omega)⟩, trivial⟩, trivial⟩, trivial⟩, trivial⟩, trivial⟩ ?_
        try simp only [i32_fee, pr_16_220, pr_i_1, pr_i_m1]
        refine pr_cv [_, _, _] rfl rfl rfl rfl rfl (Nat.le_of_ble_eq_true rfl) (by first | assumption | (simp only [i32_fee, pr_16_220, pr_i_1, pr_i_m1]; first | assumption | decide | exact ⟨by assumption, by assumption⟩ | exact ⟨Or.inl (by assumption), by assumption⟩ | omega) | decide | exact ⟨Or.inl (by assumption), by assumption⟩ | exact ⟨by assumption, by assumption⟩ | omega) (Nat.le_of_ble_eq_true rfl) (hs) ?_
        refine pr_seq (pc' := 27) 1 rfl ⟨trivial, trivial⟩ ?_
        try simp only [i32_fee, pr_16_220, pr_i_1, pr_i_m1]
        exact pr_irM rfl (by rfl) trivial (by rfl)
    · simp only [ab_cmp, pr_16_220, pr_i_1, pr_i_m1] at h9
      exact absurd (Classical.not_not.mp h9) (by decide)
theorem r_debt {X : St} (x v : Int32) (h : ab_H) (M : ab_M) (hl : rL h M.2.2) (hv : rv M.1 X) : pr_X pX11_debt [.ref 172, .int x, .int v] h M (rp M (f_debt X x v)) := by
  obtain ⟨k172, rS, rLs, rKn, rPg, rRl, rRk, rTp, rCu, rLe, rLt, rSm, rIk, rLn, rLg, rCe, ⟨kS, nS⟩, ⟨kLs, nLs⟩, ⟨kKn, nKn⟩, ⟨kPg, nPg⟩, ⟨kRl, nRl⟩, ⟨kRk, nRk⟩, ⟨kTp, nTp⟩, ⟨kCu, nCu⟩, ⟨kLe, nLe⟩, ⟨kLt, nLt⟩, ⟨kSm, nSm⟩, ⟨kIk, nIk⟩, ⟨kLn, nLn⟩, ⟨kLg, nLg⟩, kCe, nCe⟩ := id hl
  have h8 : x_n X ≤ 8 := hv.1.2.1
  unfold f_debt
  have h1 := q_isOne x h M hl hv.1
  have h2 := q_in (a := v.toInt64) (b := Int64.ofNat 0) (c := Int64.ofNat 99) v 0 99 h M rfl rfl rfl
  rcases pr_ix x (show x_n X ≤ 1000000 by omega) with q | ⟨j, hj, rfl, q⟩
  · rw [show ixb x (x_n X) = false from q] at h1 ⊢
    refine pr_ofC ?_ (rp_s hv)
    refine pr_seq (pc' := 3) 3 rfl ⟨⟨⟨trivial, (by first | assumption | decide | exact ⟨Or.inl (by assumption), by assumption⟩ | exact ⟨by assumption, by assumption⟩ | omega)⟩, (by first | assumption | decide | exact ⟨Or.inl (by assumption), by assumption⟩ | exact ⟨by assumption, by assumption⟩ | omega)⟩, trivial⟩ ?_
    refine pr_cv [_] rfl rfl rfl rfl rfl (Nat.le_of_ble_eq_true rfl) (by first | assumption | decide | exact ⟨Or.inl (by assumption), by assumption⟩ | exact ⟨by assumption, by assumption⟩ | omega) (Nat.le_of_ble_eq_true rfl) (h1) ?_
    refine pr_if rfl (fun h6 => ?_) (fun h6 => ?_)
    · simp only [ab_cmp, pr_8_24, pr_i_0, pr_i_1] at h6
      first
      | contradiction
      | exact absurd trivial h6
      | exact absurd h6 (by decide)
      | exact absurd (Classical.not_not.mp h6) (by decide)
      | skip
        refine pr_seq (pc' := 33) 7 rfl ⟨⟨⟨⟨⟨⟨⟨trivial, trivial⟩, trivial⟩, trivial⟩, trivial⟩, trivial⟩, trivial⟩, trivial⟩ ?_
        refine pr_cv [_, _, _] rfl rfl rfl rfl rfl (Nat.le_of_ble_eq_true rfl) (by first | assumption | decide | exact ⟨Or.inl (by assumption), by assumption⟩ | exact ⟨by assumption, by assumption⟩ | omega) (Nat.le_of_ble_eq_true rfl) (q_sets0 _ _ h M) ?_
        exact pr_irM rfl (by first | rfl | (simp [pr_b, pr_8_24, pr_i_0, pr_i_1, *]; done) | (simp_all [pr_b, pr_8_24, pr_i_0, pr_i_1]; done)) trivial (by rfl)
    · simp only [ab_cmp, pr_8_24, pr_i_0, pr_i_1] at h6
      exact absurd rfl h6
  · rw [show ixb (nI j) (x_n X) = true from q] at h1 ⊢
    rcases pr_rg v 99 99 rfl (by decide) with q2 | ⟨k, hk, rfl, q2⟩
    · rw [q2] at h2 ⊢
      refine pr_ofC ?_ (rp_s hv)
      refine pr_seq (pc' := 3) 3 rfl ⟨⟨⟨trivial, (by first | assumption | decide | exact ⟨Or.inl (by assumption), by assumption⟩ | exact ⟨by assumption, by assumption⟩ | omega)⟩, (by first | assumption | decide | exact ⟨Or.inl (by assumption), by assumption⟩ | exact ⟨by assumption, by assumption⟩ | omega)⟩, trivial⟩ ?_
      refine pr_cv [_] rfl rfl rfl rfl rfl (Nat.le_of_ble_eq_true rfl) (by first | assumption | decide | exact ⟨Or.inl (by assumption), by assumption⟩ | exact ⟨by assumption, by assumption⟩ | omega) (Nat.le_of_ble_eq_true rfl) (h1) ?_
      refine pr_if rfl (fun h6 => ?_) (fun h6 => ?_)
      · simp only [ab_cmp, pr_8_24, pr_i_0, pr_i_1] at h6
        exact absurd h6 (by decide)
      · simp only [ab_cmp, pr_8_24, pr_i_0, pr_i_1] at h6
        first
        | contradiction
        | exact absurd trivial h6
        | exact absurd h6 (by decide)
        | exact absurd (Classical.not_not.mp h6) (by decide)
        | skip
          refine pr_seq (pc' := 15) 4 rfl ⟨⟨⟨⟨trivial, trivial⟩, trivial⟩, trivial⟩, trivial⟩ ?_
          refine pr_cs [_, _, _] rfl rfl rfl rfl rfl (Nat.le_of_ble_eq_true rfl) (Nat.le_of_ble_eq_true rfl) (h2) ?_
          refine pr_if rfl (fun h18 => ?_) (fun h18 => ?_)
          · simp only [ab_cmp, pr_8_24, pr_i_0, pr_i_1] at h18
            first
            | contradiction
            | exact absurd trivial h18
            | exact absurd h18 (by decide)
            | exact absurd (Classical.not_not.mp h18) (by decide)
            | skip
              refine pr_seq (pc' := 33) 7 rfl ⟨⟨⟨⟨⟨⟨⟨trivial, trivial⟩, trivial⟩, trivial⟩, trivial⟩, trivial⟩, trivial⟩, trivial⟩ ?_
              refine pr_cv [_, _, _] rfl rfl rfl rfl rfl (Nat.le_of_ble_eq_true rfl) (by first | assumption | decide | exact ⟨Or.inl (by assumption), by assumption⟩ | exact ⟨by assumption, by assumption⟩ | omega) (Nat.le_of_ble_eq_true rfl) (q_sets0 _ _ h M) ?_
              exact pr_irM rfl (by first | rfl | (simp [pr_b, pr_8_24, pr_i_0, pr_i_1, *]; done) | (simp_all [pr_b, pr_8_24, pr_i_0, pr_i_1]; done)) trivial (by rfl)
          · simp only [ab_cmp, pr_8_24, pr_i_0, pr_i_1] at h18
            exact absurd rfl h18
    · rw [q2] at h2 ⊢
      rw [if_pos (show (true && true) = true from rfl), nI_clamp (by omega), nI_clamp (by omega)]
      obtain ⟨y1, y2, y3, y4, y5, y6, y7, y8, y9⟩ := hv.1.2.2.2.2.2.2.2 j hj
      have hs := q_sets1 (k := 24 * j + 1) (nI k) h M hl (by omega)
      rw [y3] at hs
      refine pr_ofC (M1 := (ab_u M.1 173 (24 * j + 1) (nI k), M.2.1, M.2.2)) (r := some (.int (nI (x_pn X j).2.1))) ?_ (rp_I (rv_land hv (fun a a1 a2 _ _ => ab_u_ne a2) (by rw [ab_u_r]; exact pg_one hv.1 hj (fun i i1 i2 => va_up_n (by omega)) (⟨by rw [va_up_n (by omega)]; exact y1, y2, va_up_at _ _ _, hk, by rw [va_up_n (by omega)]; exact y5, y6, by rw [va_up_n (by omega)]; exact y7, y8, fun i hi => by rw [va_up_n (by omega)]; exact y9 i hi⟩)) (fun i i1 i2 => by rw [ab_u_j (by omega)])) (fun a ha => ab_u_ne (by omega)))
      refine pr_seq (pc' := 3) 3 rfl ⟨⟨⟨trivial, (by first | decide | assumption)⟩, (by first | decide | assumption)⟩, trivial⟩ ?_
      try simp (disch := omega) only [c2, rI_mul, nI_add, nI_1, nI_clamp, c24, pr_8_24, pr_i_0, pr_i_1]
      refine pr_cv [_] rfl rfl rfl rfl rfl (Nat.le_of_ble_eq_true rfl) (by first | assumption | decide | (simp (disch := omega) only [c2, rI_mul, nI_add, nI_1, nI_clamp, c24, pr_8_24, pr_i_0, pr_i_1]; first | assumption | exact ⟨Or.inl (by assumption), rvin (by assumption) (by omega) (by decide)⟩ | exact ⟨by assumption, rvin (by assumption) (by omega) (by decide)⟩ | exact ⟨⟨by omega, by omega⟩, rvin (by assumption) (by omega) (by decide)⟩ | exact ⟨Or.inr (by assumption), rvin (by assumption) (by omega) (by decide)⟩ | exact ⟨Or.inr ⟨by assumption, (by first | exact Or.inl rfl | exact Or.inr rfl | exact pr_b01 _)⟩, rvin (by assumption) (by omega) (by decide)⟩ | exact ⟨by assumption, by assumption⟩ | decide | omega)) (Nat.le_of_ble_eq_true rfl) (h1) ?_
      refine pr_if rfl (fun h6 => ?_) (fun h6 => ?_)
      · simp only [ab_cmp, pr_8_24, pr_i_0, pr_i_1] at h6
        exact absurd h6 (by decide)
      · simp only [ab_cmp, pr_8_24, pr_i_0, pr_i_1] at h6
        first
        | contradiction
        | exact absurd trivial h6
        | exact absurd h6 (by decide)
        | exact absurd (Classical.not_not.mp h6) (by decide)
        | skip
          refine pr_seq (pc' := 15) 4 rfl ⟨⟨⟨⟨trivial, trivial⟩, trivial⟩, trivial⟩, trivial⟩ ?_
          try simp (disch := omega) only [c2, rI_mul, nI_add, nI_1, nI_clamp, c24, pr_8_24, pr_i_0, pr_i_1]
          refine pr_cs [_, _, _] rfl rfl rfl rfl rfl (Nat.le_of_ble_eq_true rfl) (Nat.le_of_ble_eq_true rfl) (h2) ?_
          refine pr_if rfl (fun h18 => ?_) (fun h18 => ?_)
          · simp only [ab_cmp, pr_8_24, pr_i_0, pr_i_1] at h18
            exact absurd h18 (by decide)
          · simp only [ab_cmp, pr_8_24, pr_i_0, pr_i_1] at h18
            first
            | contradiction
            | exact absurd trivial h18
            | exact absurd h18 (by decide)
            | exact absurd (Classical.not_not.mp h18) (by decide)
            | skip
              refine pr_seq (pc' := 33) 8 rfl ⟨⟨⟨⟨⟨⟨⟨⟨trivial, trivial⟩, trivial⟩, trivial⟩, trivial⟩, trivial⟩, trivial⟩, trivial⟩, trivial⟩ ?_
              try simp (disch := omega) only [c2, rI_mul, nI_add, nI_1, nI_clamp, c24, pr_8_24, pr_i_0, pr_i_1]
              refine pr_cv [_, _, _] rfl rfl rfl rfl rfl (Nat.le_of_ble_eq_true rfl) (by first | assumption | decide | (simp (disch := omega) only [c2, rI_mul, nI_add, nI_1, nI_clamp, c24, pr_8_24, pr_i_0, pr_i_1]; first | assumption | exact ⟨Or.inl (by assumption), rvin (by assumption) (by omega) (by decide)⟩ | exact ⟨by assumption, rvin (by assumption) (by omega) (by decide)⟩ | exact ⟨⟨by omega, by omega⟩, rvin (by assumption) (by omega) (by decide)⟩ | exact ⟨Or.inr (by assumption), rvin (by assumption) (by omega) (by decide)⟩ | exact ⟨Or.inr ⟨by assumption, (by first | exact Or.inl rfl | exact Or.inr rfl | exact pr_b01 _)⟩, rvin (by assumption) (by omega) (by decide)⟩ | exact ⟨by assumption, by assumption⟩ | decide | omega)) (Nat.le_of_ble_eq_true rfl) (hs) ?_
              exact pr_irM rfl (by rfl) trivial (by rfl)
theorem r_wealth {X : St} (x v : Int32) (h : ab_H) (M : ab_M) (hl : rL h M.2.2) (hv : rv M.1 X) : pr_X pX11_wealth [.ref 172, .int x, .int v] h M (rp M (f_wealth X x v)) := by
  obtain ⟨k172, rS, rLs, rKn, rPg, rRl, rRk, rTp, rCu, rLe, rLt, rSm, rIk, rLn, rLg, rCe, ⟨kS, nS⟩, ⟨kLs, nLs⟩, ⟨kKn, nKn⟩, ⟨kPg, nPg⟩, ⟨kRl, nRl⟩, ⟨kRk, nRk⟩, ⟨kTp, nTp⟩, ⟨kCu, nCu⟩, ⟨kLe, nLe⟩, ⟨kLt, nLt⟩, ⟨kSm, nSm⟩, ⟨kIk, nIk⟩, ⟨kLn, nLn⟩, ⟨kLg, nLg⟩, kCe, nCe⟩ := id hl
  have h8 : x_n X ≤ 8 := hv.1.2.1
  unfold f_wealth
  have h1 := q_isOne x h M hl hv.1
  have h2 := q_in (a := v.toInt64) (b := Int64.ofNat 0) (c := Int64.ofNat 99) v 0 99 h M rfl rfl rfl
  rcases pr_ix x (show x_n X ≤ 1000000 by omega) with q | ⟨j, hj, rfl, q⟩
  · rw [show ixb x (x_n X) = false from q] at h1 ⊢
    refine pr_ofC ?_ (rp_s hv)
    refine pr_seq (pc' := 3) 3 rfl ⟨⟨⟨trivial, (by first | assumption | decide | exact ⟨Or.inl (by assumption), by assumption⟩ | exact ⟨by assumption, by assumption⟩ | omega)⟩, (by first | assumption | decide | exact ⟨Or.inl (by assumption), by assumption⟩ | exact ⟨by assumption, by assumption⟩ | omega)⟩, trivial⟩ ?_
    refine pr_cv [_] rfl rfl rfl rfl rfl (Nat.le_of_ble_eq_true rfl) (by first | assumption | decide | exact ⟨Or.inl (by assumption), by assumption⟩ | exact ⟨by assumption, by assumption⟩ | omega) (Nat.le_of_ble_eq_true rfl) (h1) ?_
    refine pr_if rfl (fun h6 => ?_) (fun h6 => ?_)
    · simp only [ab_cmp, pr_8_24, pr_i_0, pr_i_1, pr_i_2] at h6
      first
      | contradiction
      | exact absurd trivial h6
      | exact absurd h6 (by decide)
      | exact absurd (Classical.not_not.mp h6) (by decide)
      | skip
        refine pr_seq (pc' := 33) 7 rfl ⟨⟨⟨⟨⟨⟨⟨trivial, trivial⟩, trivial⟩, trivial⟩, trivial⟩, trivial⟩, trivial⟩, trivial⟩ ?_
        refine pr_cv [_, _, _] rfl rfl rfl rfl rfl (Nat.le_of_ble_eq_true rfl) (by first | assumption | decide | exact ⟨Or.inl (by assumption), by assumption⟩ | exact ⟨by assumption, by assumption⟩ | omega) (Nat.le_of_ble_eq_true rfl) (q_sets0 _ _ h M) ?_
        exact pr_irM rfl (by first | rfl | (simp [pr_b, pr_8_24, pr_i_0, pr_i_1, pr_i_2, *]; done) | (simp_all [pr_b, pr_8_24, pr_i_0, pr_i_1, pr_i_2]; done)) trivial (by rfl)
    · simp only [ab_cmp, pr_8_24, pr_i_0, pr_i_1, pr_i_2] at h6
      exact absurd rfl h6
  · rw [show ixb (nI j) (x_n X) = true from q] at h1 ⊢
    rcases pr_rg v 99 99 rfl (by decide) with q2 | ⟨k, hk, rfl, q2⟩
    · rw [q2] at h2 ⊢
      refine pr_ofC ?_ (rp_s hv)
      refine pr_seq (pc' := 3) 3 rfl ⟨⟨⟨trivial, (by first | assumption | decide | exact ⟨Or.inl (by assumption), by assumption⟩ | exact ⟨by assumption, by assumption⟩ | omega)⟩, (by first | assumption | decide | exact ⟨Or.inl (by assumption), by assumption⟩ | exact ⟨by assumption, by assumption⟩ | omega)⟩, trivial⟩ ?_
      refine pr_cv [_] rfl rfl rfl rfl rfl (Nat.le_of_ble_eq_true rfl) (by first | assumption | decide | exact ⟨Or.inl (by assumption), by assumption⟩ | exact ⟨by assumption, by assumption⟩ | omega) (Nat.le_of_ble_eq_true rfl) (h1) ?_
      refine pr_if rfl (fun h6 => ?_) (fun h6 => ?_)
      · simp only [ab_cmp, pr_8_24, pr_i_0, pr_i_1, pr_i_2] at h6
        exact absurd h6 (by decide)
      · simp only [ab_cmp, pr_8_24, pr_i_0, pr_i_1, pr_i_2] at h6
        first
        | contradiction
        | exact absurd trivial h6
        | exact absurd h6 (by decide)
        | exact absurd (Classical.not_not.mp h6) (by decide)
        | skip
          refine pr_seq (pc' := 15) 4 rfl ⟨⟨⟨⟨trivial, trivial⟩, trivial⟩, trivial⟩, trivial⟩ ?_
          refine pr_cs [_, _, _] rfl rfl rfl rfl rfl (Nat.le_of_ble_eq_true rfl) (Nat.le_of_ble_eq_true rfl) (h2) ?_
          refine pr_if rfl (fun h18 => ?_) (fun h18 => ?_)
          · simp only [ab_cmp, pr_8_24, pr_i_0, pr_i_1, pr_i_2] at h18
            first
            | contradiction
            | exact absurd trivial h18
            | exact absurd h18 (by decide)
            | exact absurd (Classical.not_not.mp h18) (by decide)
            | skip
              refine pr_seq (pc' := 33) 7 rfl ⟨⟨⟨⟨⟨⟨⟨trivial, trivial⟩, trivial⟩, trivial⟩, trivial⟩, trivial⟩, trivial⟩, trivial⟩ ?_
              refine pr_cv [_, _, _] rfl rfl rfl rfl rfl (Nat.le_of_ble_eq_true rfl) (by first | assumption | decide | exact ⟨Or.inl (by assumption), by assumption⟩ | exact ⟨by assumption, by assumption⟩ | omega) (Nat.le_of_ble_eq_true rfl) (q_sets0 _ _ h M) ?_
              exact pr_irM rfl (by first | rfl | (simp [pr_b, pr_8_24, pr_i_0, pr_i_1, pr_i_2, *]; done) | (simp_all [pr_b, pr_8_24, pr_i_0, pr_i_1, pr_i_2]; done)) trivial (by rfl)
          · simp only [ab_cmp, pr_8_24, pr_i_0, pr_i_1, pr_i_2] at h18
            exact absurd rfl h18
    · rw [q2] at h2 ⊢
      rw [if_pos (show (true && true) = true from rfl), nI_clamp (by omega), nI_clamp (by omega)]
      obtain ⟨y1, y2, y3, y4, y5, y6, y7, y8, y9⟩ := hv.1.2.2.2.2.2.2.2 j hj
      have hs := q_sets1 (k := 24 * j + 2) (nI k) h M hl (by omega)
      rw [y5] at hs
      refine pr_ofC (M1 := (ab_u M.1 173 (24 * j + 2) (nI k), M.2.1, M.2.2)) (r := some (.int (nI (x_pn X j).2.2.1))) ?_ (rp_I (rv_land hv (fun a a1 a2 _ _ => ab_u_ne a2) (by rw [ab_u_r]; exact pg_one hv.1 hj (fun i i1 i2 => va_up_n (by omega)) (⟨by rw [va_up_n (by omega)]; exact y1, y2, by rw [va_up_n (by omega)]; exact y3, y4, va_up_at _ _ _, hk, by rw [va_up_n (by omega)]; exact y7, y8, fun i hi => by rw [va_up_n (by omega)]; exact y9 i hi⟩)) (fun i i1 i2 => by rw [ab_u_j (by omega)])) (fun a ha => ab_u_ne (by omega)))
      refine pr_seq (pc' := 3) 3 rfl ⟨⟨⟨trivial, (by first | decide | assumption)⟩, (by first | decide | assumption)⟩, trivial⟩ ?_
      try simp (disch := omega) only [c2, rI_mul, nI_add, nI_1, nI_clamp, c24, pr_8_24, pr_i_0, pr_i_1, pr_i_2]
      refine pr_cv [_] rfl rfl rfl rfl rfl (Nat.le_of_ble_eq_true rfl) (by first | assumption | decide | (simp (disch := omega) only [c2, rI_mul, nI_add, nI_1, nI_clamp, c24, pr_8_24, pr_i_0, pr_i_1, pr_i_2]; first | assumption | exact ⟨Or.inl (by assumption), rvin (by assumption) (by omega) (by decide)⟩ | exact ⟨by assumption, rvin (by assumption) (by omega) (by decide)⟩ | exact ⟨⟨by omega, by omega⟩, rvin (by assumption) (by omega) (by decide)⟩ | exact ⟨Or.inr (by assumption), rvin (by assumption) (by omega) (by decide)⟩ | exact ⟨Or.inr ⟨by assumption, (by first | exact Or.inl rfl | exact Or.inr rfl | exact pr_b01 _)⟩, rvin (by assumption) (by omega) (by decide)⟩ | exact ⟨by assumption, by assumption⟩ | decide | omega)) (Nat.le_of_ble_eq_true rfl) (h1) ?_
      refine pr_if rfl (fun h6 => ?_) (fun h6 => ?_)
      · simp only [ab_cmp, pr_8_24, pr_i_0, pr_i_1, pr_i_2] at h6
        exact absurd h6 (by decide)
      · simp only [ab_cmp, pr_8_24, pr_i_0, pr_i_1, pr_i_2] at h6
        first
        | contradiction
        | exact absurd trivial h6
        | exact absurd h6 (by decide)
        | exact absurd (Classical.not_not.mp h6) (by decide)
        | skip
          refine pr_seq (pc' := 15) 4 rfl ⟨⟨⟨⟨trivial, trivial⟩, trivial⟩, trivial⟩, trivial⟩ ?_
          try simp (disch := omega) only [c2, rI_mul, nI_add, nI_1, nI_clamp, c24, pr_8_24, pr_i_0, pr_i_1, pr_i_2]
          refine pr_cs [_, _, _] rfl rfl rfl rfl rfl (Nat.le_of_ble_eq_true rfl) (Nat.le_of_ble_eq_true rfl) (h2) ?_
          refine pr_if rfl (fun h18 => ?_) (fun h18 => ?_)
          · simp only [ab_cmp, pr_8_24, pr_i_0, pr_i_1, pr_i_2] at h18
            exact absurd h18 (by decide)
          · simp only [ab_cmp, pr_8_24, pr_i_0, pr_i_1, pr_i_2] at h18
            first
            | contradiction
            | exact absurd trivial h18
            | exact absurd h18 (by decide)
            | exact absurd (Classical.not_not.mp h18) (by decide)
            | skip
              refine pr_seq (pc' := 33) 8 rfl ⟨⟨⟨⟨⟨⟨⟨⟨trivial, trivial⟩, trivial⟩, trivial⟩, trivial⟩, trivial⟩, trivial⟩, trivial⟩, trivial⟩ ?_
              try simp (disch := omega) only [c2, rI_mul, nI_add, nI_1, nI_clamp, c24, pr_8_24, pr_i_0, pr_i_1, pr_i_2]
              refine pr_cv [_, _, _] rfl rfl rfl rfl rfl (Nat.le_of_ble_eq_true rfl) (by first | assumption | decide | (simp (disch := omega) only [c2, rI_mul, nI_add, nI_1, nI_clamp, c24, pr_8_24, pr_i_0, pr_i_1, pr_i_2]; first | assumption | exact ⟨Or.inl (by assumption), rvin (by assumption) (by omega) (by decide)⟩ | exact ⟨by assumption, rvin (by assumption) (by omega) (by decide)⟩ | exact ⟨⟨by omega, by omega⟩, rvin (by assumption) (by omega) (by decide)⟩ | exact ⟨Or.inr (by assumption), rvin (by assumption) (by omega) (by decide)⟩ | exact ⟨Or.inr ⟨by assumption, (by first | exact Or.inl rfl | exact Or.inr rfl | exact pr_b01 _)⟩, rvin (by assumption) (by omega) (by decide)⟩ | exact ⟨by assumption, by assumption⟩ | decide | omega)) (Nat.le_of_ble_eq_true rfl) (hs) ?_
              exact pr_irM rfl (by rfl) trivial (by rfl)
theorem r_become {X : St} (x v : Int32) (h : ab_H) (M : ab_M) (hl : rL h M.2.2) (hv : rv M.1 X) : pr_X pX11_become [.ref 172, .int x, .int v] h M (rp M (f_become X x v)) := by
  obtain ⟨k172, rS, rLs, rKn, rPg, rRl, rRk, rTp, rCu, rLe, rLt, rSm, rIk, rLn, rLg, rCe, ⟨kS, nS⟩, ⟨kLs, nLs⟩, ⟨kKn, nKn⟩, ⟨kPg, nPg⟩, ⟨kRl, nRl⟩, ⟨kRk, nRk⟩, ⟨kTp, nTp⟩, ⟨kCu, nCu⟩, ⟨kLe, nLe⟩, ⟨kLt, nLt⟩, ⟨kSm, nSm⟩, ⟨kIk, nIk⟩, ⟨kLn, nLn⟩, ⟨kLg, nLg⟩, kCe, nCe⟩ := id hl
  have h8 : x_n X ≤ 8 := hv.1.2.1
  unfold f_become
  have h1 := q_isOne x h M hl hv.1
  have h2 := q_in (a := v.toInt64) (b := Int64.ofNat 0) (c := Int64.ofNat 4) v 0 4 h M rfl rfl rfl
  rcases pr_ix x (show x_n X ≤ 1000000 by omega) with q | ⟨j, hj, rfl, q⟩
  · rw [show ixb x (x_n X) = false from q] at h1 ⊢
    refine pr_ofC ?_ (rp_s hv)
    refine pr_seq (pc' := 3) 3 rfl ⟨⟨⟨trivial, (by first | assumption | decide | exact ⟨Or.inl (by assumption), by assumption⟩ | exact ⟨by assumption, by assumption⟩ | omega)⟩, (by first | assumption | decide | exact ⟨Or.inl (by assumption), by assumption⟩ | exact ⟨by assumption, by assumption⟩ | omega)⟩, trivial⟩ ?_
    refine pr_cv [_] rfl rfl rfl rfl rfl (Nat.le_of_ble_eq_true rfl) (by first | assumption | decide | exact ⟨Or.inl (by assumption), by assumption⟩ | exact ⟨by assumption, by assumption⟩ | omega) (Nat.le_of_ble_eq_true rfl) (h1) ?_
    refine pr_if rfl (fun h6 => ?_) (fun h6 => ?_)
    · simp only [ab_cmp, pr_8_24, pr_i_0, pr_i_1] at h6
      first
      | contradiction
      | exact absurd trivial h6
      | exact absurd h6 (by decide)
      | exact absurd (Classical.not_not.mp h6) (by decide)
      | skip
        refine pr_seq (pc' := 31) 5 rfl ⟨⟨⟨⟨⟨trivial, trivial⟩, trivial⟩, trivial⟩, trivial⟩, trivial⟩ ?_
        refine pr_cv [_, _, _] rfl rfl rfl rfl rfl (Nat.le_of_ble_eq_true rfl) (by first | assumption | decide | exact ⟨Or.inl (by assumption), by assumption⟩ | exact ⟨by assumption, by assumption⟩ | omega) (Nat.le_of_ble_eq_true rfl) (q_sets0 _ _ h M) ?_
        exact pr_irM rfl (by first | rfl | (simp [pr_b, pr_8_24, pr_i_0, pr_i_1, *]; done) | (simp_all [pr_b, pr_8_24, pr_i_0, pr_i_1]; done)) trivial (by rfl)
    · simp only [ab_cmp, pr_8_24, pr_i_0, pr_i_1] at h6
      exact absurd rfl h6
  · rw [show ixb (nI j) (x_n X) = true from q] at h1 ⊢
    rcases pr_rg v 4 4 rfl (by decide) with q2 | ⟨k, hk, rfl, q2⟩
    · rw [q2] at h2 ⊢
      refine pr_ofC ?_ (rp_s hv)
      refine pr_seq (pc' := 3) 3 rfl ⟨⟨⟨trivial, (by first | assumption | decide | exact ⟨Or.inl (by assumption), by assumption⟩ | exact ⟨by assumption, by assumption⟩ | omega)⟩, (by first | assumption | decide | exact ⟨Or.inl (by assumption), by assumption⟩ | exact ⟨by assumption, by assumption⟩ | omega)⟩, trivial⟩ ?_
      refine pr_cv [_] rfl rfl rfl rfl rfl (Nat.le_of_ble_eq_true rfl) (by first | assumption | decide | exact ⟨Or.inl (by assumption), by assumption⟩ | exact ⟨by assumption, by assumption⟩ | omega) (Nat.le_of_ble_eq_true rfl) (h1) ?_
      refine pr_if rfl (fun h6 => ?_) (fun h6 => ?_)
      · simp only [ab_cmp, pr_8_24, pr_i_0, pr_i_1] at h6
        exact absurd h6 (by decide)
      · simp only [ab_cmp, pr_8_24, pr_i_0, pr_i_1] at h6
        first
        | contradiction
        | exact absurd trivial h6
        | exact absurd h6 (by decide)
        | exact absurd (Classical.not_not.mp h6) (by decide)
        | skip
          refine pr_seq (pc' := 15) 4 rfl ⟨⟨⟨⟨trivial, trivial⟩, trivial⟩, trivial⟩, trivial⟩ ?_
          refine pr_cs [_, _, _] rfl rfl rfl rfl rfl (Nat.le_of_ble_eq_true rfl) (Nat.le_of_ble_eq_true rfl) (h2) ?_
          refine pr_if rfl (fun h18 => ?_) (fun h18 => ?_)
          · simp only [ab_cmp, pr_8_24, pr_i_0, pr_i_1] at h18
            first
            | contradiction
            | exact absurd trivial h18
            | exact absurd h18 (by decide)
            | exact absurd (Classical.not_not.mp h18) (by decide)
            | skip
              refine pr_seq (pc' := 31) 5 rfl ⟨⟨⟨⟨⟨trivial, trivial⟩, trivial⟩, trivial⟩, trivial⟩, trivial⟩ ?_
              refine pr_cv [_, _, _] rfl rfl rfl rfl rfl (Nat.le_of_ble_eq_true rfl) (by first | assumption | decide | exact ⟨Or.inl (by assumption), by assumption⟩ | exact ⟨by assumption, by assumption⟩ | omega) (Nat.le_of_ble_eq_true rfl) (q_sets0 _ _ h M) ?_
              exact pr_irM rfl (by first | rfl | (simp [pr_b, pr_8_24, pr_i_0, pr_i_1, *]; done) | (simp_all [pr_b, pr_8_24, pr_i_0, pr_i_1]; done)) trivial (by rfl)
          · simp only [ab_cmp, pr_8_24, pr_i_0, pr_i_1] at h18
            exact absurd rfl h18
    · rw [q2] at h2 ⊢
      rw [if_pos (show (true && true) = true from rfl), nI_clamp (by omega), nI_clamp (by omega)]
      obtain ⟨y1, y2, y3, y4, y5, y6, y7, y8, y9⟩ := hv.1.2.2.2.2.2.2.2 j hj
      have hs := q_sets1 (k := 24 * j) (nI k) h M hl (by omega)
      rw [y1] at hs
      refine pr_ofC (M1 := (ab_u M.1 173 (24 * j) (nI k), M.2.1, M.2.2)) (r := some (.int (nI (x_pn X j).1))) ?_ (rp_I (rv_land hv (fun a a1 a2 _ _ => ab_u_ne a2) (by rw [ab_u_r]; exact pg_one hv.1 hj (fun i i1 i2 => va_up_n (by omega)) (⟨va_up_at _ _ _, hk, by rw [va_up_n (by omega)]; exact y3, y4, by rw [va_up_n (by omega)]; exact y5, y6, by rw [va_up_n (by omega)]; exact y7, y8, fun i hi => by rw [va_up_n (by omega)]; exact y9 i hi⟩)) (fun i i1 i2 => by rw [ab_u_j (by omega)])) (fun a ha => ab_u_ne (by omega)))
      refine pr_seq (pc' := 3) 3 rfl ⟨⟨⟨trivial, (by first | decide | assumption)⟩, (by first | decide | assumption)⟩, trivial⟩ ?_
      try simp (disch := omega) only [c2, rI_mul, nI_add, nI_1, nI_clamp, c24, pr_8_24, pr_i_0, pr_i_1]
      refine pr_cv [_] rfl rfl rfl rfl rfl (Nat.le_of_ble_eq_true rfl) (by first | assumption | decide | (simp (disch := omega) only [c2, rI_mul, nI_add, nI_1, nI_clamp, c24, pr_8_24, pr_i_0, pr_i_1]; first | assumption | exact ⟨Or.inl (by assumption), rvin (by assumption) (by omega) (by decide)⟩ | exact ⟨by assumption, rvin (by assumption) (by omega) (by decide)⟩ | exact ⟨⟨by omega, by omega⟩, rvin (by assumption) (by omega) (by decide)⟩ | exact ⟨Or.inr (by assumption), rvin (by assumption) (by omega) (by decide)⟩ | exact ⟨Or.inr ⟨by assumption, (by first | exact Or.inl rfl | exact Or.inr rfl | exact pr_b01 _)⟩, rvin (by assumption) (by omega) (by decide)⟩ | exact ⟨by assumption, by assumption⟩ | decide | omega)) (Nat.le_of_ble_eq_true rfl) (h1) ?_
      refine pr_if rfl (fun h6 => ?_) (fun h6 => ?_)
      · simp only [ab_cmp, pr_8_24, pr_i_0, pr_i_1] at h6
        exact absurd h6 (by decide)
      · simp only [ab_cmp, pr_8_24, pr_i_0, pr_i_1] at h6
        first
        | contradiction
        | exact absurd trivial h6
        | exact absurd h6 (by decide)
        | exact absurd (Classical.not_not.mp h6) (by decide)
        | skip
          refine pr_seq (pc' := 15) 4 rfl ⟨⟨⟨⟨trivial, trivial⟩, trivial⟩, trivial⟩, trivial⟩ ?_
          try simp (disch := omega) only [c2, rI_mul, nI_add, nI_1, nI_clamp, c24, pr_8_24, pr_i_0, pr_i_1]
          refine pr_cs [_, _, _] rfl rfl rfl rfl rfl (Nat.le_of_ble_eq_true rfl) (Nat.le_of_ble_eq_true rfl) (h2) ?_
          refine pr_if rfl (fun h18 => ?_) (fun h18 => ?_)
          · simp only [ab_cmp, pr_8_24, pr_i_0, pr_i_1] at h18
            exact absurd h18 (by decide)
          · simp only [ab_cmp, pr_8_24, pr_i_0, pr_i_1] at h18
            first
            | contradiction
            | exact absurd trivial h18
            | exact absurd h18 (by decide)
            | exact absurd (Classical.not_not.mp h18) (by decide)
            | skip
              refine pr_seq (pc' := 31) 6 rfl ⟨⟨⟨⟨⟨⟨trivial, trivial⟩, trivial⟩, trivial⟩, trivial⟩, trivial⟩, trivial⟩ ?_
              try simp (disch := omega) only [c2, rI_mul, nI_add, nI_1, nI_clamp, c24, pr_8_24, pr_i_0, pr_i_1]
              refine pr_cv [_, _, _] rfl rfl rfl rfl rfl (Nat.le_of_ble_eq_true rfl) (by first | assumption | decide | (simp (disch := omega) only [c2, rI_mul, nI_add, nI_1, nI_clamp, c24, pr_8_24, pr_i_0, pr_i_1]; first | assumption | exact ⟨Or.inl (by assumption), rvin (by assumption) (by omega) (by decide)⟩ | exact ⟨by assumption, rvin (by assumption) (by omega) (by decide)⟩ | exact ⟨⟨by omega, by omega⟩, rvin (by assumption) (by omega) (by decide)⟩ | exact ⟨Or.inr (by assumption), rvin (by assumption) (by omega) (by decide)⟩ | exact ⟨Or.inr ⟨by assumption, (by first | exact Or.inl rfl | exact Or.inr rfl | exact pr_b01 _)⟩, rvin (by assumption) (by omega) (by decide)⟩ | exact ⟨by assumption, by assumption⟩ | decide | omega)) (Nat.le_of_ble_eq_true rfl) (hs) ?_
              exact pr_irM rfl (by rfl) trivial (by rfl)
