
/-! ===== the reference's reader: what it has read ===== -/
def kr_r (F : Nat → Int32) (K : List (Nat × Nat)) : Prop := ∀ i, i < K.length → F (2 * i) = nI (K.getD i (0, 0)).1 ∧ F (2 * i + 1) = nI (K.getD i (0, 0)).2 ∧ (K.getD i (0, 0)).1 ≤ 5 ∧ (K.getD i (0, 0)).2 ≤ 999
def hN (K : List (Nat × Nat)) : Int32 := K.foldl (fun v k => if v < nI k.1 then nI k.1 else v) (-1)
theorem hN_s (K : List (Nat × Nat)) (k : Nat × Nat) : hN (K ++ [k]) = if hN K < nI k.1 then nI k.1 else hN K := by
  unfold hN
  rw [List.foldl_append]
  rfl
def pv (I : Nat → Nat → Int32) (P : PS) : Prop := pg_r (I 176) P.1.1 ∧ (I 172 8 = nI P.1.2.1.length ∧ P.1.2.1.length ≤ 6 ∧ ls_r (I 177) P.1.2.1) ∧ (I 172 9 = nI P.1.2.2.length ∧ P.1.2.2.length ≤ 6 ∧ kr_r (I 178) P.1.2.2) ∧ (∃ t, t < 64 ∧ I 172 10 = nI t ∧ t % 2 = P.2.1.toNat ∧ t / 2 % 2 = P.2.2.1.toNat) ∧ I 172 11 = nI (bs P.2.2.2 26) ∧ I 172 12 = hN P.1.2.2
/-- what a line may change -/
def lfr (I I' : Nat → Nat → Int32) : Prop := (∀ a, a ≠ 172 → a ≠ 176 → a ≠ 177 → a ≠ 178 → I' a = I a) ∧ ∀ j, (j < 8 ∨ (12 < j ∧ j < 16) ∨ 21 < j) → I' 172 j = I 172 j
theorem lfr_0 {I : Nat → Nat → Int32} : lfr I I := ⟨fun _ _ _ _ _ => rfl, fun _ _ => rfl⟩
theorem lfr_tr {I I' I'' : Nat → Nat → Int32} (h1 : lfr I I') (h2 : lfr I' I'') : lfr I I'' := ⟨fun a a1 a2 a3 a4 => by rw [h2.1 a a1 a2 a3 a4]; exact h1.1 a a1 a2 a3 a4, fun j hj => by rw [h2.2 j hj]; exact h1.2 j hj⟩
theorem lfr_r {I I' : Nat → Nat → Int32} (h : rfr I I') : lfr I I' := ⟨fun a a1 _ _ _ => h.1 a a1, fun j hj => h.2 j (by omega)⟩
theorem lfr_u {I : Nat → Nat → Int32} {k : Nat} {v : Int32} (hk : 8 ≤ k ∧ k ≤ 12) : lfr I (ab_u I 172 k v) := ⟨fun a a1 _ _ _ => ab_u_ne a1, fun j hj => ab_u_j (by omega)⟩
theorem lfr_w {I : Nat → Nat → Int32} {a k : Nat} {v : Int32} (ha : a = 176 ∨ a = 177 ∨ a = 178) : lfr I (ab_u I a k v) := ⟨fun b b1 b2 b3 b4 => ab_u_ne (by omega), fun j hj => by rw [ab_u_ne (by omega)]⟩
theorem lfr_tp {I I' : Nat → Nat → Int32} {w : List Nat} (h : lfr I I') (hw : tp_r I w) : tp_r I' w := tr_cong (h.2 14 (by decide)) (h.1 179 (by decide) (by decide) (by decide) (by decide)) hw
theorem lfr_cn {I I' : Nat → Nat → Int32} (h : lfr I I') (hc : cn_r I) : cn_r I' := cr_cong (h.1 180 (by decide) (by decide) (by decide) (by decide)) (h.1 181 (by decide) (by decide) (by decide) (by decide)) hc
theorem pv_rfr {I I' : Nat → Nat → Int32} {P : PS} (h : rfr I I') (hv : pv I P) : pv I' P := by
  obtain ⟨v1, ⟨v2, v3, v4⟩, ⟨v5, v6, v7⟩, v8, v9, v10⟩ := hv
  unfold pv
  rw [h.1 176 (by decide), h.1 177 (by decide), h.1 178 (by decide), h.2 8 (by decide), h.2 9 (by decide), h.2 10 (by decide), h.2 11 (by decide), h.2 12 (by decide)]
  exact ⟨v1, ⟨v2, v3, v4⟩, ⟨v5, v6, v7⟩, v8, v9, v10⟩
theorem rs2_u {I : Nat → Nat → Int32} {w : List Nat} {e : Er} {a k : Nat} {v : Int32} (h : a ≠ 172 ∨ k < 16) (he : rs2 I w e) : rs2 (ab_u I a k v) w e := by
  have hj : ∀ j, 16 ≤ j → ab_u I a k v 172 j = I 172 j := fun j hj => by
    rcases h with h | h
    · rw [ab_u_ne (fun q => h q.symm)]
    · by_cases e : a = 172
      · subst e; exact ab_u_j (by omega)
      · rw [ab_u_ne (fun q => e q.symm)]
  cases e with
  | error q => exact ⟨by rw [hj 16 (by decide)]; exact he.1, he.2.1, by rw [hj 17 (by decide)]; exact he.2.2⟩
  | ok p =>
    obtain ⟨e0, e1, e2, e3, e4, e5, e6⟩ := he
    exact ⟨e0, e1, by rw [hj 16 (by decide)]; exact e2, by rw [hj 18 (by decide)]; exact e3, by rw [hj 19 (by decide)]; exact e4, by rw [hj 20 (by decide)]; exact e5, fun z => by rw [hj 21 (by decide)]; exact e6 z⟩
/-- the reader's fault, as a number -/
theorem rs2_16 {I : Nat → Nat → Int32} {w : List Nat} {e : Er} (he : rs2 I w e) : ∃ c, I 172 16 = nI c ∧ c ≤ 6 ∧ (c = 0 ↔ ∃ p, e = .ok p) := by
  cases e with
  | error q => exact ⟨q.1, he.1, he.2.1.2, ⟨fun z => absurd z (by have := he.2.1; omega), fun ⟨p, z⟩ => by cases z⟩⟩
  | ok p => exact ⟨0, he.2.2.1, by decide, ⟨fun _ => ⟨p, rfl⟩, fun _ => rfl⟩⟩
/-- a bit of a number set -/
theorem or_bit {t k : Nat} (ht : t < 64) (hk : k < 6) : t ||| 2 ^ k < 64 := by
  have : ∀ (t : Fin 64) (k : Fin 6), t.val ||| 2 ^ k.val < 64 := by decide
  exact this ⟨t, ht⟩ ⟨k, hk⟩
theorem or_b0 {t k : Nat} (ht : t < 64) (hk : k < 6) : (t ||| 2 ^ k) % 2 = (if k = 0 then 1 else t % 2) ∧ (t ||| 2 ^ k) / 2 % 2 = (if k = 1 then 1 else t / 2 % 2) := by
  have : ∀ (t : Fin 64) (k : Fin 6), (t.val ||| 2 ^ k.val) % 2 = (if k.val = 0 then 1 else t.val % 2) ∧ (t.val ||| 2 ^ k.val) / 2 % 2 = (if k.val = 1 then 1 else t.val / 2 % 2) := by decide
  exact this ⟨t, ht⟩ ⟨k, hk⟩
theorem bs_set {f : Nat → Bool} {l : Nat} (hl : l < 26) : bs f 26 ||| 2 ^ l = bs (va_up f l true) 26 := Nat.eq_of_testBit_eq (fun i => by
  rw [Nat.testBit_or, bs_tb, bs_tb, Nat.testBit_two_pow]
  by_cases e : i = l
  · subst e
    rw [va_up_at, decide_eq_true hl]
    simp
  · rw [va_up_n e, decide_eq_false (show ¬ l = i from fun q => e q.symm), Bool.or_false])
/-- the state after hasRoom: k the word -/
def rmE (w : List Nat) (P : PS) (k : Nat) (p : Nat) : Er := if (k = 3 ∧ P.1.1.2.1.length = 8) ∨ (k = 5 ∧ P.1.2.2.length = 6) then .error (5, (tok w p).2.1) else if (k = 0 ∧ P.2.1 = true) ∨ (k = 1 ∧ P.2.2.1 = true) then .error (4, (tok w p).2.1) else stN w (tok w p).2.2.1
def rmP (P : PS) (k : Nat) : PS := (P.1, (if k = 0 then true else P.2.1), (if k = 1 then true else P.2.2.1), P.2.2.2)
def ln2_p (M : ab_M) (w : List Nat) (e : Er) (P : PS) (v : Option Value) (r : Option Value) (M' : ab_M) : Prop := r = v ∧ M'.2 = M.2 ∧ lfr M.1 M'.1 ∧ rs2 M'.1 w e ∧ ((∃ p, e = .ok p) → pv M'.1 P)
def okE : Er → Bool
  | .ok _ => true
  | .error _ => false
theorem pv_10 {I : Nat → Nat → Int32} {P : PS} {t k : Nat} (hv : pv I P) (ht : t < 64) (h10 : I 172 10 = nI t) (hb : t % 2 = P.2.1.toNat ∧ t / 2 % 2 = P.2.2.1.toNat) (hk : k < 6) : pv (ab_u I 172 10 (nI (t ||| 2 ^ k))) (rmP P k) := by
  obtain ⟨v1, ⟨v2, v3, v4⟩, ⟨v5, v6, v7⟩, v8, v9, v10⟩ := hv
  obtain ⟨o1, o2⟩ := or_b0 ht hk
  refine ⟨by rw [ab_u_ne (by decide)]; exact v1, ⟨by rw [ab_u_j (by decide)]; exact v2, v3, by rw [ab_u_ne (by decide)]; exact v4⟩, ⟨by rw [ab_u_j (by decide)]; exact v5, v6, by rw [ab_u_ne (by decide)]; exact v7⟩, ⟨t ||| 2 ^ k, or_bit ht hk, ab_u_at, ?_, ?_⟩, by rw [ab_u_j (by decide)]; exact v9, by rw [ab_u_j (by decide)]; exact v10⟩
  · show _ = (if k = 0 then true else P.2.1).toNat
    rw [o1]
    split
    · rfl
    · exact hb.1
  · show _ = (if k = 1 then true else P.2.2.1).toNat
    rw [o2]
    split
    · rfl
    · exact hb.2
theorem hr_end {w : List Nat} {P : PS} {k t : Nat} {N I1 : Nat → Nat → Int32} {e' : Er} (h : ab_H) (M : ab_M) (hl : rL h M.2.2) (w2 : rfr (ab_u N 172 10 (nI (t ||| 2 ^ k))) I1) (w3 : rs2 I1 w e') (hf : rfr M.1 N) (hv2 : pv N P) (t1 : t < 64) (t2 : N 172 10 = nI t) (t3 : t % 2 = P.2.1.toNat ∧ t / 2 % 2 = P.2.2.1.toNat) (hk : k < 6) : pr_T pX11_hasRoom 79 [some (.ref 172), some (.int (nI k))] [] h (I1, M.2) (ln2_p M w e' (rmP P k) (some (.int (pr_b (okE e'))))) := by
  obtain ⟨k172, rS, rLs, rKn, rPg, rRl, rRk, rTp, rCu, rLe, rLt, rSm, rIk, rLn, rLg, rCe, ⟨kS, nS⟩, ⟨kLs, nLs⟩, ⟨kKn, nKn⟩, ⟨kPg, nPg⟩, ⟨kRl, nRl⟩, ⟨kRk, nRk⟩, ⟨kTp, nTp⟩, ⟨kCu, nCu⟩, ⟨kLe, nLe⟩, ⟨kLt, nLt⟩, ⟨kSm, nSm⟩, ⟨kIk, nIk⟩, ⟨kLn, nLn⟩, ⟨kLg, nLg⟩, kCe, nCe⟩ := id hl
  have fin : ln2_p M w e' (rmP P k) (some (.int (pr_b (okE e')))) (some (.int (pr_b (okE e')))) (I1, M.2.1, M.2.2) := ⟨rfl, rfl, lfr_tr (lfr_r hf) (lfr_tr (lfr_u (by decide)) (lfr_r w2)), w3, fun _ => pv_rfr w2 (pv_10 hv2 t1 t2 t3 hk)⟩
  cases e' with
  | error q =>
    have g := w3.1
    have e : ¬ nI q.1 = 0 := nI_ne0 (by have := w3.2.1; omega) (by have := w3.2.1; omega)
    refine pr_seqT (pc' := 83) 2 rfl ⟨⟨trivial, (by first | decide | assumption)⟩, (by assumption)⟩ ?_
    try simp (disch := omega) only [g, rPg, rI_mul, nI_add, nI_1, nI_clamp, c192, pr_16_192, pr_8_6, pr_8_8, pr_i_0, pr_i_1, pr_i_3, pr_i_4, pr_i_5]
    refine pr_ifT rfl (fun h83 => ?_) (fun h83 => ?_)
    · simp only [ab_cmp, pr_16_192, pr_8_6, pr_8_8, pr_i_0, pr_i_1, pr_i_3, pr_i_4, pr_i_5] at h83
      first
      | contradiction
      | exact absurd trivial h83
      | exact absurd h83 (by decide)
      | exact absurd (Classical.not_not.mp h83) (by decide)
      | skip
        refine pr_seqT (pc' := 91) 1 rfl ⟨trivial, trivial⟩ ?_
        try simp (disch := omega) only [g, rPg, rI_mul, nI_add, nI_1, nI_clamp, c192, pr_16_192, pr_8_6, pr_8_8, pr_i_0, pr_i_1, pr_i_3, pr_i_4, pr_i_5]
        exact pr_irT rfl (by first | exact Or.inl rfl | exact Or.inr rfl | exact pr_b01 _ | assumption) (by exact fin)
    · simp only [ab_cmp, pr_16_192, pr_8_6, pr_8_8, pr_i_0, pr_i_1, pr_i_3, pr_i_4, pr_i_5] at h83
      exact absurd (Classical.not_not.mp h83) e
  | ok p =>
    have g := w3.2.2.1
    refine pr_seqT (pc' := 83) 2 rfl ⟨⟨trivial, (by first | decide | assumption)⟩, (by assumption)⟩ ?_
    try simp (disch := omega) only [g, rPg, rI_mul, nI_add, nI_1, nI_clamp, c192, pr_16_192, pr_8_6, pr_8_8, pr_i_0, pr_i_1, pr_i_3, pr_i_4, pr_i_5]
    refine pr_ifT rfl (fun h83 => ?_) (fun h83 => ?_)
    · simp only [ab_cmp, pr_16_192, pr_8_6, pr_8_8, pr_i_0, pr_i_1, pr_i_3, pr_i_4, pr_i_5] at h83
      exact absurd trivial h83
    · simp only [ab_cmp, pr_16_192, pr_8_6, pr_8_8, pr_i_0, pr_i_1, pr_i_3, pr_i_4, pr_i_5] at h83
      first
      | contradiction
      | exact absurd trivial h83
      | exact absurd h83 (by decide)
      | exact absurd (Classical.not_not.mp h83) (by decide)
      | skip
        refine pr_seqT (pc' := 91) 2 rfl ⟨⟨trivial, trivial⟩, trivial⟩ ?_
        try simp (disch := omega) only [g, rPg, rI_mul, nI_add, nI_1, nI_clamp, c192, pr_16_192, pr_8_6, pr_8_8, pr_i_0, pr_i_1, pr_i_3, pr_i_4, pr_i_5]
        exact pr_irT rfl (by first | exact Or.inl rfl | exact Or.inr rfl | exact pr_b01 _ | assumption) (by exact fin)
theorem hr_tail {w : List Nat} {P : PS} {k : Nat} (hk : k < 6) (h : ab_H) (M : ab_M) (hl : rL h M.2.2) (hw : tp_r M.1 w) (hv : pv M.1 P) (N : Nat → Nat → Int32) (e : Er) (hf : rfr M.1 N) (he : rs2 N w e) : pr_T pX11_hasRoom 63 [some (.ref 172), some (.int (nI k))] [] h (N, M.2) (ln2_p M w (adN w e) (rmP P k) (some (.int (pr_b (okE (adN w e)))))) := by
  obtain ⟨k172, rS, rLs, rKn, rPg, rRl, rRk, rTp, rCu, rLe, rLt, rSm, rIk, rLn, rLg, rCe, ⟨kS, nS⟩, ⟨kLs, nLs⟩, ⟨kKn, nKn⟩, ⟨kPg, nPg⟩, ⟨kRl, nRl⟩, ⟨kRk, nRk⟩, ⟨kTp, nTp⟩, ⟨kCu, nCu⟩, ⟨kLe, nLe⟩, ⟨kLt, nLt⟩, ⟨kSm, nSm⟩, ⟨kIk, nIk⟩, ⟨kLn, nLn⟩, ⟨kLg, nLg⟩, kCe, nCe⟩ := id hl
  have hv2 := pv_rfr hf hv
  obtain ⟨t, t1, t2, t3⟩ := hv2.2.2.2.1
  have eo : nI t ||| ((1 : Int32) <<< (nI k &&& 31)) = nI (t ||| 2 ^ k) := by rw [i_bit k (by omega), i_or]
  have hst := q_adv h (ab_u N 172 10 (nI (t ||| 2 ^ k)), M.2) hl (lfr_tp (lfr_u (by decide)) (rfr_tp hf hw)) (rs2_u (Or.inr (by decide)) he)
  generalize adN w e = e' at *
  refine pr_seqT (pc' := 76) 9 rfl ⟨⟨⟨⟨⟨⟨⟨⟨⟨trivial, (by first | decide | assumption)⟩, trivial⟩, (by assumption)⟩, trivial⟩, trivial⟩, trivial⟩, trivial⟩, (by first | assumption | exact ⟨by assumption, by decide⟩ | exact ⟨by assumption, pr_b01 _⟩)⟩, (by first | decide | assumption)⟩ ?_
  try simp (disch := omega) only [t2, eo, rPg, rI_mul, nI_add, nI_1, nI_clamp, c192, pr_16_192, pr_8_6, pr_8_8, pr_i_0, pr_i_1, pr_i_3, pr_i_4, pr_i_5]
  refine pr_cvX [] rfl rfl rfl rfl rfl (Nat.le_of_ble_eq_true rfl) (by first | assumption | decide | (simp (disch := omega) only [t2, eo, rPg, rI_mul, nI_add, nI_1, nI_clamp, c192, pr_16_192, pr_8_6, pr_8_8, pr_i_0, pr_i_1, pr_i_3, pr_i_4, pr_i_5]; first | assumption | exact ⟨Or.inl (by assumption), rvin (by assumption) (by omega) (by decide)⟩ | exact ⟨by assumption, rvin (by assumption) (by omega) (by decide)⟩ | exact ⟨⟨by omega, by omega⟩, rvin (by assumption) (by omega) (by decide)⟩ | exact ⟨Or.inr (by assumption), rvin (by assumption) (by omega) (by decide)⟩ | exact ⟨Or.inr ⟨by assumption, (by first | exact Or.inl rfl | exact Or.inr rfl | exact pr_b01 _)⟩, rvin (by assumption) (by omega) (by decide)⟩ | exact ⟨by assumption, by assumption⟩ | decide | omega)) (Nat.le_of_ble_eq_true rfl) (hst) (fun v76 M76 q76 => ?_)
  obtain ⟨rfl, w1, w2, w3⟩ := q76
  obtain ⟨I1, Z1⟩ := M76
  dsimp only at w1 w2 w3
  subst w1
  exact hr_end h M hl w2 w3 hf hv2 t1 t2 t3 hk
theorem q_hasRoom {w : List Nat} {P : PS} {k p : Nat} (hk : k < 6) (h : ab_H) (M : ab_M) (hl : rL h M.2.2) (hw : tp_r M.1 w) (hv : pv M.1 P) (he : rs2 M.1 w (.ok p)) : pr_X pX11_hasRoom [.ref 172, .int (nI k)] h M (ln2_p M w (rmE w P k p) (rmP P k) (some (.int (pr_b (okE (rmE w P k p)))))) := by
  obtain ⟨k172, rS, rLs, rKn, rPg, rRl, rRk, rTp, rCu, rLe, rLt, rSm, rIk, rLn, rLg, rCe, ⟨kS, nS⟩, ⟨kLs, nLs⟩, ⟨kKn, nKn⟩, ⟨kPg, nPg⟩, ⟨kRl, nRl⟩, ⟨kRk, nRk⟩, ⟨kTp, nTp⟩, ⟨kCu, nCu⟩, ⟨kLe, nLe⟩, ⟨kLt, nLt⟩, ⟨kSm, nSm⟩, ⟨kIk, nIk⟩, ⟨kLn, nLn⟩, ⟨kLg, nLg⟩, kCe, nCe⟩ := id hl
  have g8 : M.1 176 192 = nI P.1.1.2.1.length := hv.1.1
  have g8b : P.1.1.2.1.length ≤ 8 := hv.1.2.1
  have g9 := hv.2.2.1.1
  have g9b := hv.2.2.1.2.1
  obtain ⟨t, t1, t2, t3, t4⟩ := hv.2.2.2.1
  have c6 : (6 : Int32) = nI 6 := rfl
  have c5 : (5 : Int32) = nI 5 := rfl
  have b0 : nI t >>> (nI 0 &&& 31) &&& 1 = nI (t % 2) := by rw [i_shr (by omega) (by decide), nI_and1, Nat.pow_zero, Nat.div_one]
  have b1 : nI t >>> (nI 1 &&& 31) &&& 1 = nI (t / 2 % 2) := by rw [i_shr (by omega) (by decide), nI_and1, Nat.pow_one]
  have tail := hr_tail hk h M hl hw hv M.1 (.ok p) rfr_0 he
  have tailF : ∀ c, 1 ≤ c ∧ c ≤ 6 → ∀ (N : Nat → Nat → Int32), rfr M.1 N → rs2 N w (.error (c, (tok w p).2.1)) → pr_T pX11_hasRoom 63 [some (.ref 172), some (.int (nI k))] [] h (N, M.2) (ln2_p M w (.error (c, (tok w p).2.1)) (rmP P k) (some (.int (pr_b false)))) := fun c hc N hf hN => hr_tail hk h M hl hw hv N _ hf hN
  have f5 := q_flN (c := 5) (x := 5) rfl (by decide) h M hl he
  have f4 := q_flN (c := 4) (x := 4) rfl (by decide) h M hl he
  have two : adN w (.ok p) = stN w (tok w p).2.2.1 := rfl
  rw [two] at tail
  unfold rmE
  rcases (show k = 0 ∨ k = 1 ∨ k = 2 ∨ k = 3 ∨ k = 4 ∨ k = 5 by omega) with rfl | rfl | rfl | rfl | rfl | rfl
  · have z3 : ¬ nI 0 = nI 3 := by decide
    have z5 : ¬ nI 0 = nI 5 := by decide
    rw [if_neg (by omega)]
    cases hb : P.2.1 with
    | true =>
      rw [hb] at t3
      have zb : nI (t % 2) = 1 := by rw [t3]; rfl
      rw [if_pos (Or.inl ⟨rfl, rfl⟩)]
      refine pr_seqT (pc' := 2) 2 rfl ⟨⟨trivial, trivial⟩, trivial⟩ ?_
      try simp (disch := omega) only [c3, c5, t2, b0, rPg, rI_mul, nI_add, nI_1, nI_clamp, c192, pr_16_192, pr_8_6, pr_8_8, pr_i_0, pr_i_1, pr_i_3, pr_i_4, pr_i_5]
      refine pr_icT rfl (fun h2 => ?_) (fun h2 => ?_)
      · simp only [ab_cmp, pr_16_192, pr_8_6, pr_8_8, pr_i_0, pr_i_1, pr_i_3, pr_i_4, pr_i_5] at h2
        first
        | contradiction
        | exact absurd trivial h2
        | exact absurd h2 (by decide)
        | exact absurd (Classical.not_not.mp h2) (by decide)
        | skip
          refine pr_seqT (pc' := 20) 2 rfl ⟨⟨trivial, trivial⟩, trivial⟩ ?_
          try simp (disch := omega) only [c3, c5, t2, b0, rPg, rI_mul, nI_add, nI_1, nI_clamp, c192, pr_16_192, pr_8_6, pr_8_8, pr_i_0, pr_i_1, pr_i_3, pr_i_4, pr_i_5]
          refine pr_icT rfl (fun h20 => ?_) (fun h20 => ?_)
          · simp only [ab_cmp, pr_16_192, pr_8_6, pr_8_8, pr_i_0, pr_i_1, pr_i_3, pr_i_4, pr_i_5] at h20
            first
            | contradiction
            | exact absurd trivial h20
            | exact absurd h20 (by decide)
            | exact absurd (Classical.not_not.mp h20) (by decide)
            | skip
              refine pr_seqT (pc' := 38) 1 rfl ⟨trivial, trivial⟩ ?_
              try simp (disch := omega) only [c3, c5, t2, b0, rPg, rI_mul, nI_add, nI_1, nI_clamp, c192, pr_16_192, pr_8_6, pr_8_8, pr_i_0, pr_i_1, pr_i_3, pr_i_4, pr_i_5]
              refine pr_ifT rfl (fun h38 => ?_) (fun h38 => ?_)
              · simp only [ab_cmp, pr_16_192, pr_8_6, pr_8_8, pr_i_0, pr_i_1, pr_i_3, pr_i_4, pr_i_5] at h38
                first
                | contradiction
                | exact absurd trivial h38
                | exact absurd h38 (by decide)
                | exact absurd (Classical.not_not.mp h38) (by decide)
                | skip
                  refine pr_seqT (pc' := 55) 7 rfl ⟨⟨⟨⟨⟨⟨⟨trivial, (by first | decide | assumption)⟩, (by assumption)⟩, trivial⟩, trivial⟩, trivial⟩, trivial⟩, trivial⟩ ?_
                  try simp (disch := omega) only [c3, c5, t2, b0, rPg, rI_mul, nI_add, nI_1, nI_clamp, c192, pr_16_192, pr_8_6, pr_8_8, pr_i_0, pr_i_1, pr_i_3, pr_i_4, pr_i_5]
                  refine pr_icT rfl (fun h55 => ?_) (fun h55 => ?_)
                  · simp only [ab_cmp, pr_16_192, pr_8_6, pr_8_8, pr_i_0, pr_i_1, pr_i_3, pr_i_4, pr_i_5] at h55
                    exact absurd zb h55
                  · simp only [ab_cmp, pr_16_192, pr_8_6, pr_8_8, pr_i_0, pr_i_1, pr_i_3, pr_i_4, pr_i_5] at h55
                    first
                    | contradiction
                    | exact absurd trivial h55
                    | exact absurd h55 (by decide)
                    | exact absurd (Classical.not_not.mp h55) (by decide)
                    | skip
                      refine pr_seqT (pc' := 60) 2 rfl ⟨⟨trivial, (by first | decide | assumption)⟩, trivial⟩ ?_
                      try simp (disch := omega) only [c3, c5, t2, b0, rPg, rI_mul, nI_add, nI_1, nI_clamp, c192, pr_16_192, pr_8_6, pr_8_8, pr_i_0, pr_i_1, pr_i_3, pr_i_4, pr_i_5]
                      refine pr_cvX [_] rfl rfl rfl rfl rfl (Nat.le_of_ble_eq_true rfl) (by first | assumption | decide | (simp (disch := omega) only [c3, c5, t2, b0, rPg, rI_mul, nI_add, nI_1, nI_clamp, c192, pr_16_192, pr_8_6, pr_8_8, pr_i_0, pr_i_1, pr_i_3, pr_i_4, pr_i_5]; first | assumption | exact ⟨Or.inl (by assumption), rvin (by assumption) (by omega) (by decide)⟩ | exact ⟨by assumption, rvin (by assumption) (by omega) (by decide)⟩ | exact ⟨⟨by omega, by omega⟩, rvin (by assumption) (by omega) (by decide)⟩ | exact ⟨Or.inr (by assumption), rvin (by assumption) (by omega) (by decide)⟩ | exact ⟨Or.inr ⟨by assumption, (by first | exact Or.inl rfl | exact Or.inr rfl | exact pr_b01 _)⟩, rvin (by assumption) (by omega) (by decide)⟩ | exact ⟨by assumption, by assumption⟩ | decide | omega)) (Nat.le_of_ble_eq_true rfl) (f4) (fun v60 M60 q60 => ?_)
                      obtain ⟨rfl, w1, w2, w3⟩ := q60
                      obtain ⟨I1, Z1⟩ := M60
                      dsimp only at w1 w2 w3
                      subst w1
                      exact tailF 4 (by decide) I1 w2 w3
              · simp only [ab_cmp, pr_16_192, pr_8_6, pr_8_8, pr_i_0, pr_i_1, pr_i_3, pr_i_4, pr_i_5] at h38
                exact absurd rfl h38
          · simp only [ab_cmp, pr_16_192, pr_8_6, pr_8_8, pr_i_0, pr_i_1, pr_i_3, pr_i_4, pr_i_5] at h20
            exact absurd (Classical.not_not.mp h20) z5
      · simp only [ab_cmp, pr_16_192, pr_8_6, pr_8_8, pr_i_0, pr_i_1, pr_i_3, pr_i_4, pr_i_5] at h2
        exact absurd (Classical.not_not.mp h2) z3
    | false =>
      rw [hb] at t3
      have zb : ¬ nI (t % 2) = 1 := by rw [t3]; decide
      rw [if_neg (fun q => q.elim (fun q => by cases q.2) (fun q => absurd q.1 (by decide)))]
      refine pr_seqT (pc' := 2) 2 rfl ⟨⟨trivial, trivial⟩, trivial⟩ ?_
      try simp (disch := omega) only [c3, c5, t2, b0, rPg, rI_mul, nI_add, nI_1, nI_clamp, c192, pr_16_192, pr_8_6, pr_8_8, pr_i_0, pr_i_1, pr_i_3, pr_i_4, pr_i_5]
      refine pr_icT rfl (fun h2 => ?_) (fun h2 => ?_)
      · simp only [ab_cmp, pr_16_192, pr_8_6, pr_8_8, pr_i_0, pr_i_1, pr_i_3, pr_i_4, pr_i_5] at h2
        first
        | contradiction
        | exact absurd trivial h2
        | exact absurd h2 (by decide)
        | exact absurd (Classical.not_not.mp h2) (by decide)
        | skip
          refine pr_seqT (pc' := 20) 2 rfl ⟨⟨trivial, trivial⟩, trivial⟩ ?_
          try simp (disch := omega) only [c3, c5, t2, b0, rPg, rI_mul, nI_add, nI_1, nI_clamp, c192, pr_16_192, pr_8_6, pr_8_8, pr_i_0, pr_i_1, pr_i_3, pr_i_4, pr_i_5]
          refine pr_icT rfl (fun h20 => ?_) (fun h20 => ?_)
          · simp only [ab_cmp, pr_16_192, pr_8_6, pr_8_8, pr_i_0, pr_i_1, pr_i_3, pr_i_4, pr_i_5] at h20
            first
            | contradiction
            | exact absurd trivial h20
            | exact absurd h20 (by decide)
            | exact absurd (Classical.not_not.mp h20) (by decide)
            | skip
              refine pr_seqT (pc' := 38) 1 rfl ⟨trivial, trivial⟩ ?_
              try simp (disch := omega) only [c3, c5, t2, b0, rPg, rI_mul, nI_add, nI_1, nI_clamp, c192, pr_16_192, pr_8_6, pr_8_8, pr_i_0, pr_i_1, pr_i_3, pr_i_4, pr_i_5]
              refine pr_ifT rfl (fun h38 => ?_) (fun h38 => ?_)
              · simp only [ab_cmp, pr_16_192, pr_8_6, pr_8_8, pr_i_0, pr_i_1, pr_i_3, pr_i_4, pr_i_5] at h38
                first
                | contradiction
                | exact absurd trivial h38
                | exact absurd h38 (by decide)
                | exact absurd (Classical.not_not.mp h38) (by decide)
                | skip
                  refine pr_seqT (pc' := 55) 7 rfl ⟨⟨⟨⟨⟨⟨⟨trivial, (by first | decide | assumption)⟩, (by assumption)⟩, trivial⟩, trivial⟩, trivial⟩, trivial⟩, trivial⟩ ?_
                  try simp (disch := omega) only [c3, c5, t2, b0, rPg, rI_mul, nI_add, nI_1, nI_clamp, c192, pr_16_192, pr_8_6, pr_8_8, pr_i_0, pr_i_1, pr_i_3, pr_i_4, pr_i_5]
                  refine pr_icT rfl (fun h55 => ?_) (fun h55 => ?_)
                  · simp only [ab_cmp, pr_16_192, pr_8_6, pr_8_8, pr_i_0, pr_i_1, pr_i_3, pr_i_4, pr_i_5] at h55
                    first
                    | contradiction
                    | exact absurd trivial h55
                    | exact absurd h55 (by decide)
                    | exact absurd (Classical.not_not.mp h55) (by decide)
                    | skip
                      exact tail
                  · simp only [ab_cmp, pr_16_192, pr_8_6, pr_8_8, pr_i_0, pr_i_1, pr_i_3, pr_i_4, pr_i_5] at h55
                    exact absurd (Classical.not_not.mp h55) zb
              · simp only [ab_cmp, pr_16_192, pr_8_6, pr_8_8, pr_i_0, pr_i_1, pr_i_3, pr_i_4, pr_i_5] at h38
                exact absurd rfl h38
          · simp only [ab_cmp, pr_16_192, pr_8_6, pr_8_8, pr_i_0, pr_i_1, pr_i_3, pr_i_4, pr_i_5] at h20
            exact absurd (Classical.not_not.mp h20) z5
      · simp only [ab_cmp, pr_16_192, pr_8_6, pr_8_8, pr_i_0, pr_i_1, pr_i_3, pr_i_4, pr_i_5] at h2
        exact absurd (Classical.not_not.mp h2) z3
  · have z3 : ¬ nI 1 = nI 3 := by decide
    have z5 : ¬ nI 1 = nI 5 := by decide
    have z0 : ¬ nI 1 = 0 := by decide
    have z1 : nI 1 = 1 := rfl
    rw [if_neg (by omega)]
    cases hb : P.2.2.1 with
    | true =>
      rw [hb] at t4
      have zb : nI (t / 2 % 2) = 1 := by rw [t4]; rfl
      rw [if_pos (Or.inr ⟨rfl, rfl⟩)]
      refine pr_seqT (pc' := 2) 2 rfl ⟨⟨trivial, trivial⟩, trivial⟩ ?_
      try simp (disch := omega) only [c3, c5, t2, b1, rPg, rI_mul, nI_add, nI_1, nI_clamp, c192, pr_16_192, pr_8_6, pr_8_8, pr_i_0, pr_i_1, pr_i_3, pr_i_4, pr_i_5]
      refine pr_icT rfl (fun h2 => ?_) (fun h2 => ?_)
      · simp only [ab_cmp, pr_16_192, pr_8_6, pr_8_8, pr_i_0, pr_i_1, pr_i_3, pr_i_4, pr_i_5] at h2
        first
        | contradiction
        | exact absurd trivial h2
        | exact absurd h2 (by decide)
        | exact absurd (Classical.not_not.mp h2) (by decide)
        | skip
          refine pr_seqT (pc' := 20) 2 rfl ⟨⟨trivial, trivial⟩, trivial⟩ ?_
          try simp (disch := omega) only [c3, c5, t2, b1, rPg, rI_mul, nI_add, nI_1, nI_clamp, c192, pr_16_192, pr_8_6, pr_8_8, pr_i_0, pr_i_1, pr_i_3, pr_i_4, pr_i_5]
          refine pr_icT rfl (fun h20 => ?_) (fun h20 => ?_)
          · simp only [ab_cmp, pr_16_192, pr_8_6, pr_8_8, pr_i_0, pr_i_1, pr_i_3, pr_i_4, pr_i_5] at h20
            first
            | contradiction
            | exact absurd trivial h20
            | exact absurd h20 (by decide)
            | exact absurd (Classical.not_not.mp h20) (by decide)
            | skip
              refine pr_seqT (pc' := 38) 1 rfl ⟨trivial, trivial⟩ ?_
              try simp (disch := omega) only [c3, c5, t2, b1, rPg, rI_mul, nI_add, nI_1, nI_clamp, c192, pr_16_192, pr_8_6, pr_8_8, pr_i_0, pr_i_1, pr_i_3, pr_i_4, pr_i_5]
              refine pr_ifT rfl (fun h38 => ?_) (fun h38 => ?_)
              · simp only [ab_cmp, pr_16_192, pr_8_6, pr_8_8, pr_i_0, pr_i_1, pr_i_3, pr_i_4, pr_i_5] at h38
                exact absurd h38 z0
              · simp only [ab_cmp, pr_16_192, pr_8_6, pr_8_8, pr_i_0, pr_i_1, pr_i_3, pr_i_4, pr_i_5] at h38
                first
                | contradiction
                | exact absurd trivial h38
                | exact absurd h38 (by decide)
                | exact absurd (Classical.not_not.mp h38) (by decide)
                | skip
                  refine pr_seqT (pc' := 43) 2 rfl ⟨⟨trivial, trivial⟩, trivial⟩ ?_
                  try simp (disch := omega) only [c3, c5, t2, b1, rPg, rI_mul, nI_add, nI_1, nI_clamp, c192, pr_16_192, pr_8_6, pr_8_8, pr_i_0, pr_i_1, pr_i_3, pr_i_4, pr_i_5]
                  refine pr_icT rfl (fun h43 => ?_) (fun h43 => ?_)
                  · simp only [ab_cmp, pr_16_192, pr_8_6, pr_8_8, pr_i_0, pr_i_1, pr_i_3, pr_i_4, pr_i_5] at h43
                    exact absurd z1 h43
                  · simp only [ab_cmp, pr_16_192, pr_8_6, pr_8_8, pr_i_0, pr_i_1, pr_i_3, pr_i_4, pr_i_5] at h43
                    first
                    | contradiction
                    | exact absurd trivial h43
                    | exact absurd h43 (by decide)
                    | exact absurd (Classical.not_not.mp h43) (by decide)
                    | skip
                      refine pr_seqT (pc' := 55) 7 rfl ⟨⟨⟨⟨⟨⟨⟨trivial, (by first | decide | assumption)⟩, (by assumption)⟩, trivial⟩, trivial⟩, trivial⟩, trivial⟩, trivial⟩ ?_
                      try simp (disch := omega) only [c3, c5, t2, b1, rPg, rI_mul, nI_add, nI_1, nI_clamp, c192, pr_16_192, pr_8_6, pr_8_8, pr_i_0, pr_i_1, pr_i_3, pr_i_4, pr_i_5]
                      refine pr_icT rfl (fun h55 => ?_) (fun h55 => ?_)
                      · simp only [ab_cmp, pr_16_192, pr_8_6, pr_8_8, pr_i_0, pr_i_1, pr_i_3, pr_i_4, pr_i_5] at h55
                        exact absurd zb h55
                      · simp only [ab_cmp, pr_16_192, pr_8_6, pr_8_8, pr_i_0, pr_i_1, pr_i_3, pr_i_4, pr_i_5] at h55
                        first
                        | contradiction
                        | exact absurd trivial h55
                        | exact absurd h55 (by decide)
                        | exact absurd (Classical.not_not.mp h55) (by decide)
                        | skip
                          refine pr_seqT (pc' := 60) 2 rfl ⟨⟨trivial, (by first | decide | assumption)⟩, trivial⟩ ?_
                          try simp (disch := omega) only [c3, c5, t2, b1, rPg, rI_mul, nI_add, nI_1, nI_clamp, c192, pr_16_192, pr_8_6, pr_8_8, pr_i_0, pr_i_1, pr_i_3, pr_i_4, pr_i_5]
                          refine pr_cvX [_] rfl rfl rfl rfl rfl (Nat.le_of_ble_eq_true rfl) (by first | assumption | decide | (simp (disch := omega) only [c3, c5, t2, b1, rPg, rI_mul, nI_add, nI_1, nI_clamp, c192, pr_16_192, pr_8_6, pr_8_8, pr_i_0, pr_i_1, pr_i_3, pr_i_4, pr_i_5]; first | assumption | exact ⟨Or.inl (by assumption), rvin (by assumption) (by omega) (by decide)⟩ | exact ⟨by assumption, rvin (by assumption) (by omega) (by decide)⟩ | exact ⟨⟨by omega, by omega⟩, rvin (by assumption) (by omega) (by decide)⟩ | exact ⟨Or.inr (by assumption), rvin (by assumption) (by omega) (by decide)⟩ | exact ⟨Or.inr ⟨by assumption, (by first | exact Or.inl rfl | exact Or.inr rfl | exact pr_b01 _)⟩, rvin (by assumption) (by omega) (by decide)⟩ | exact ⟨by assumption, by assumption⟩ | decide | omega)) (Nat.le_of_ble_eq_true rfl) (f4) (fun v60 M60 q60 => ?_)
                          obtain ⟨rfl, w1, w2, w3⟩ := q60
                          obtain ⟨I1, Z1⟩ := M60
                          dsimp only at w1 w2 w3
                          subst w1
                          exact tailF 4 (by decide) I1 w2 w3
          · simp only [ab_cmp, pr_16_192, pr_8_6, pr_8_8, pr_i_0, pr_i_1, pr_i_3, pr_i_4, pr_i_5] at h20
            exact absurd (Classical.not_not.mp h20) z5
      · simp only [ab_cmp, pr_16_192, pr_8_6, pr_8_8, pr_i_0, pr_i_1, pr_i_3, pr_i_4, pr_i_5] at h2
        exact absurd (Classical.not_not.mp h2) z3
    | false =>
      rw [hb] at t4
      have zb : ¬ nI (t / 2 % 2) = 1 := by rw [t4]; decide
      rw [if_neg (fun q => q.elim (fun q => absurd q.1 (by decide)) (fun q => by cases q.2))]
      refine pr_seqT (pc' := 2) 2 rfl ⟨⟨trivial, trivial⟩, trivial⟩ ?_
      try simp (disch := omega) only [c3, c5, t2, b1, rPg, rI_mul, nI_add, nI_1, nI_clamp, c192, pr_16_192, pr_8_6, pr_8_8, pr_i_0, pr_i_1, pr_i_3, pr_i_4, pr_i_5]
      refine pr_icT rfl (fun h2 => ?_) (fun h2 => ?_)
      · simp only [ab_cmp, pr_16_192, pr_8_6, pr_8_8, pr_i_0, pr_i_1, pr_i_3, pr_i_4, pr_i_5] at h2
        first
        | contradiction
        | exact absurd trivial h2
        | exact absurd h2 (by decide)
        | exact absurd (Classical.not_not.mp h2) (by decide)
        | skip
          refine pr_seqT (pc' := 20) 2 rfl ⟨⟨trivial, trivial⟩, trivial⟩ ?_
          try simp (disch := omega) only [c3, c5, t2, b1, rPg, rI_mul, nI_add, nI_1, nI_clamp, c192, pr_16_192, pr_8_6, pr_8_8, pr_i_0, pr_i_1, pr_i_3, pr_i_4, pr_i_5]
          refine pr_icT rfl (fun h20 => ?_) (fun h20 => ?_)
          · simp only [ab_cmp, pr_16_192, pr_8_6, pr_8_8, pr_i_0, pr_i_1, pr_i_3, pr_i_4, pr_i_5] at h20
            first
            | contradiction
            | exact absurd trivial h20
            | exact absurd h20 (by decide)
            | exact absurd (Classical.not_not.mp h20) (by decide)
            | skip
              refine pr_seqT (pc' := 38) 1 rfl ⟨trivial, trivial⟩ ?_
              try simp (disch := omega) only [c3, c5, t2, b1, rPg, rI_mul, nI_add, nI_1, nI_clamp, c192, pr_16_192, pr_8_6, pr_8_8, pr_i_0, pr_i_1, pr_i_3, pr_i_4, pr_i_5]
              refine pr_ifT rfl (fun h38 => ?_) (fun h38 => ?_)
              · simp only [ab_cmp, pr_16_192, pr_8_6, pr_8_8, pr_i_0, pr_i_1, pr_i_3, pr_i_4, pr_i_5] at h38
                exact absurd h38 z0
              · simp only [ab_cmp, pr_16_192, pr_8_6, pr_8_8, pr_i_0, pr_i_1, pr_i_3, pr_i_4, pr_i_5] at h38
                first
                | contradiction
                | exact absurd trivial h38
                | exact absurd h38 (by decide)
                | exact absurd (Classical.not_not.mp h38) (by decide)
                | skip
                  refine pr_seqT (pc' := 43) 2 rfl ⟨⟨trivial, trivial⟩, trivial⟩ ?_
                  try simp (disch := omega) only [c3, c5, t2, b1, rPg, rI_mul, nI_add, nI_1, nI_clamp, c192, pr_16_192, pr_8_6, pr_8_8, pr_i_0, pr_i_1, pr_i_3, pr_i_4, pr_i_5]
                  refine pr_icT rfl (fun h43 => ?_) (fun h43 => ?_)
                  · simp only [ab_cmp, pr_16_192, pr_8_6, pr_8_8, pr_i_0, pr_i_1, pr_i_3, pr_i_4, pr_i_5] at h43
                    exact absurd z1 h43
                  · simp only [ab_cmp, pr_16_192, pr_8_6, pr_8_8, pr_i_0, pr_i_1, pr_i_3, pr_i_4, pr_i_5] at h43
                    first
                    | contradiction
                    | exact absurd trivial h43
                    | exact absurd h43 (by decide)
                    | exact absurd (Classical.not_not.mp h43) (by decide)
                    | skip
                      refine pr_seqT (pc' := 55) 7 rfl ⟨⟨⟨⟨⟨⟨⟨trivial, (by first | decide | assumption)⟩, (by assumption)⟩, trivial⟩, trivial⟩, trivial⟩, trivial⟩, trivial⟩ ?_
                      try simp (disch := omega) only [c3, c5, t2, b1, rPg, rI_mul, nI_add, nI_1, nI_clamp, c192, pr_16_192, pr_8_6, pr_8_8, pr_i_0, pr_i_1, pr_i_3, pr_i_4, pr_i_5]
                      refine pr_icT rfl (fun h55 => ?_) (fun h55 => ?_)
                      · simp only [ab_cmp, pr_16_192, pr_8_6, pr_8_8, pr_i_0, pr_i_1, pr_i_3, pr_i_4, pr_i_5] at h55
                        first
                        | contradiction
                        | exact absurd trivial h55
                        | exact absurd h55 (by decide)
                        | exact absurd (Classical.not_not.mp h55) (by decide)
                        | skip
                          exact tail
                      · simp only [ab_cmp, pr_16_192, pr_8_6, pr_8_8, pr_i_0, pr_i_1, pr_i_3, pr_i_4, pr_i_5] at h55
                        exact absurd (Classical.not_not.mp h55) zb
          · simp only [ab_cmp, pr_16_192, pr_8_6, pr_8_8, pr_i_0, pr_i_1, pr_i_3, pr_i_4, pr_i_5] at h20
            exact absurd (Classical.not_not.mp h20) z5
      · simp only [ab_cmp, pr_16_192, pr_8_6, pr_8_8, pr_i_0, pr_i_1, pr_i_3, pr_i_4, pr_i_5] at h2
        exact absurd (Classical.not_not.mp h2) z3
  · have z3 : ¬ nI 2 = nI 3 := by decide
    have z5 : ¬ nI 2 = nI 5 := by decide
    have z0 : ¬ nI 2 = 0 := by decide
    have z1 : ¬ nI 2 = 1 := by decide
    rw [if_neg (by omega), if_neg (by omega)]
    refine pr_seqT (pc' := 2) 2 rfl ⟨⟨trivial, trivial⟩, trivial⟩ ?_
    try simp (disch := omega) only [c3, c5, rPg, rI_mul, nI_add, nI_1, nI_clamp, c192, pr_16_192, pr_8_6, pr_8_8, pr_i_0, pr_i_1, pr_i_3, pr_i_4, pr_i_5]
    refine pr_icT rfl (fun h2 => ?_) (fun h2 => ?_)
    · simp only [ab_cmp, pr_16_192, pr_8_6, pr_8_8, pr_i_0, pr_i_1, pr_i_3, pr_i_4, pr_i_5] at h2
      first
      | contradiction
      | exact absurd trivial h2
      | exact absurd h2 (by decide)
      | exact absurd (Classical.not_not.mp h2) (by decide)
      | skip
        refine pr_seqT (pc' := 20) 2 rfl ⟨⟨trivial, trivial⟩, trivial⟩ ?_
        try simp (disch := omega) only [c3, c5, rPg, rI_mul, nI_add, nI_1, nI_clamp, c192, pr_16_192, pr_8_6, pr_8_8, pr_i_0, pr_i_1, pr_i_3, pr_i_4, pr_i_5]
        refine pr_icT rfl (fun h20 => ?_) (fun h20 => ?_)
        · simp only [ab_cmp, pr_16_192, pr_8_6, pr_8_8, pr_i_0, pr_i_1, pr_i_3, pr_i_4, pr_i_5] at h20
          first
          | contradiction
          | exact absurd trivial h20
          | exact absurd h20 (by decide)
          | exact absurd (Classical.not_not.mp h20) (by decide)
          | skip
            refine pr_seqT (pc' := 38) 1 rfl ⟨trivial, trivial⟩ ?_
            try simp (disch := omega) only [c3, c5, rPg, rI_mul, nI_add, nI_1, nI_clamp, c192, pr_16_192, pr_8_6, pr_8_8, pr_i_0, pr_i_1, pr_i_3, pr_i_4, pr_i_5]
            refine pr_ifT rfl (fun h38 => ?_) (fun h38 => ?_)
            · simp only [ab_cmp, pr_16_192, pr_8_6, pr_8_8, pr_i_0, pr_i_1, pr_i_3, pr_i_4, pr_i_5] at h38
              exact absurd h38 z0
            · simp only [ab_cmp, pr_16_192, pr_8_6, pr_8_8, pr_i_0, pr_i_1, pr_i_3, pr_i_4, pr_i_5] at h38
              first
              | contradiction
              | exact absurd trivial h38
              | exact absurd h38 (by decide)
              | exact absurd (Classical.not_not.mp h38) (by decide)
              | skip
                refine pr_seqT (pc' := 43) 2 rfl ⟨⟨trivial, trivial⟩, trivial⟩ ?_
                try simp (disch := omega) only [c3, c5, rPg, rI_mul, nI_add, nI_1, nI_clamp, c192, pr_16_192, pr_8_6, pr_8_8, pr_i_0, pr_i_1, pr_i_3, pr_i_4, pr_i_5]
                refine pr_icT rfl (fun h43 => ?_) (fun h43 => ?_)
                · simp only [ab_cmp, pr_16_192, pr_8_6, pr_8_8, pr_i_0, pr_i_1, pr_i_3, pr_i_4, pr_i_5] at h43
                  first
                  | contradiction
                  | exact absurd trivial h43
                  | exact absurd h43 (by decide)
                  | exact absurd (Classical.not_not.mp h43) (by decide)
                  | skip
                    exact tail
                · simp only [ab_cmp, pr_16_192, pr_8_6, pr_8_8, pr_i_0, pr_i_1, pr_i_3, pr_i_4, pr_i_5] at h43
                  exact absurd (Classical.not_not.mp h43) z1
        · simp only [ab_cmp, pr_16_192, pr_8_6, pr_8_8, pr_i_0, pr_i_1, pr_i_3, pr_i_4, pr_i_5] at h20
          exact absurd (Classical.not_not.mp h20) z5
    · simp only [ab_cmp, pr_16_192, pr_8_6, pr_8_8, pr_i_0, pr_i_1, pr_i_3, pr_i_4, pr_i_5] at h2
      exact absurd (Classical.not_not.mp h2) z3
  · have z3 : nI 3 = nI 3 := rfl
    have z5 : ¬ nI 3 = nI 5 := by decide
    have z0 : ¬ nI 3 = 0 := by decide
    have z1 : ¬ nI 3 = 1 := by decide
    by_cases c8' : P.1.1.2.1.length = 8
    · have z8 : nI P.1.1.2.1.length = nI 8 := by rw [c8']
      rw [if_pos (Or.inl ⟨rfl, c8'⟩)]
      refine pr_seqT (pc' := 2) 2 rfl ⟨⟨trivial, trivial⟩, trivial⟩ ?_
      try simp (disch := omega) only [c3, c5, c8, g8, rPg, rI_mul, nI_add, nI_1, nI_clamp, c192, pr_16_192, pr_8_6, pr_8_8, pr_i_0, pr_i_1, pr_i_3, pr_i_4, pr_i_5]
      refine pr_icT rfl (fun h2 => ?_) (fun h2 => ?_)
      · simp only [ab_cmp, pr_16_192, pr_8_6, pr_8_8, pr_i_0, pr_i_1, pr_i_3, pr_i_4, pr_i_5] at h2
        exact absurd trivial h2
      · simp only [ab_cmp, pr_16_192, pr_8_6, pr_8_8, pr_i_0, pr_i_1, pr_i_3, pr_i_4, pr_i_5] at h2
        first
        | contradiction
        | exact absurd trivial h2
        | exact absurd h2 (by decide)
        | exact absurd (Classical.not_not.mp h2) (by decide)
        | skip
          refine pr_seqT (pc' := 15) 5 rfl ⟨⟨⟨⟨⟨trivial, (by first | decide | assumption)⟩, (by assumption)⟩, trivial⟩, (by (try simp (disch := omega) only [c3, c5, c8, g8, rPg, rI_mul, nI_add, nI_1, nI_clamp, c192, pr_16_192, pr_8_6, pr_8_8, pr_i_0, pr_i_1, pr_i_3, pr_i_4, pr_i_5]); exact ⟨Or.inl (by assumption), rvin (by assumption) (by omega) (by decide)⟩)⟩, trivial⟩ ?_
          try simp (disch := omega) only [c3, c5, c8, g8, rPg, rI_mul, nI_add, nI_1, nI_clamp, c192, pr_16_192, pr_8_6, pr_8_8, pr_i_0, pr_i_1, pr_i_3, pr_i_4, pr_i_5]
          refine pr_icT rfl (fun h15 => ?_) (fun h15 => ?_)
          · simp only [ab_cmp, pr_16_192, pr_8_6, pr_8_8, pr_i_0, pr_i_1, pr_i_3, pr_i_4, pr_i_5] at h15
            first
            | contradiction
            | exact absurd trivial h15
            | exact absurd h15 (by decide)
            | exact absurd (Classical.not_not.mp h15) (by decide)
            | skip
              refine pr_seqT (pc' := 34) 2 rfl ⟨⟨trivial, (by first | decide | assumption)⟩, trivial⟩ ?_
              try simp (disch := omega) only [c3, c5, c8, g8, rPg, rI_mul, nI_add, nI_1, nI_clamp, c192, pr_16_192, pr_8_6, pr_8_8, pr_i_0, pr_i_1, pr_i_3, pr_i_4, pr_i_5]
              refine pr_cvX [_] rfl rfl rfl rfl rfl (Nat.le_of_ble_eq_true rfl) (by first | assumption | decide | (simp (disch := omega) only [c3, c5, c8, g8, rPg, rI_mul, nI_add, nI_1, nI_clamp, c192, pr_16_192, pr_8_6, pr_8_8, pr_i_0, pr_i_1, pr_i_3, pr_i_4, pr_i_5]; first | assumption | exact ⟨Or.inl (by assumption), rvin (by assumption) (by omega) (by decide)⟩ | exact ⟨by assumption, rvin (by assumption) (by omega) (by decide)⟩ | exact ⟨⟨by omega, by omega⟩, rvin (by assumption) (by omega) (by decide)⟩ | exact ⟨Or.inr (by assumption), rvin (by assumption) (by omega) (by decide)⟩ | exact ⟨Or.inr ⟨by assumption, (by first | exact Or.inl rfl | exact Or.inr rfl | exact pr_b01 _)⟩, rvin (by assumption) (by omega) (by decide)⟩ | exact ⟨by assumption, by assumption⟩ | decide | omega)) (Nat.le_of_ble_eq_true rfl) (f5) (fun v34 M34 q34 => ?_)
              obtain ⟨rfl, w1, w2, w3⟩ := q34
              obtain ⟨I1, Z1⟩ := M34
              dsimp only at w1 w2 w3
              subst w1
              refine pr_seqT (pc' := 38) 1 rfl ⟨trivial, trivial⟩ ?_
              try simp (disch := omega) only [c3, c5, c8, g8, rPg, rI_mul, nI_add, nI_1, nI_clamp, c192, pr_16_192, pr_8_6, pr_8_8, pr_i_0, pr_i_1, pr_i_3, pr_i_4, pr_i_5]
              refine pr_ifT rfl (fun h38 => ?_) (fun h38 => ?_)
              · simp only [ab_cmp, pr_16_192, pr_8_6, pr_8_8, pr_i_0, pr_i_1, pr_i_3, pr_i_4, pr_i_5] at h38
                exact absurd h38 z0
              · simp only [ab_cmp, pr_16_192, pr_8_6, pr_8_8, pr_i_0, pr_i_1, pr_i_3, pr_i_4, pr_i_5] at h38
                first
                | contradiction
                | exact absurd trivial h38
                | exact absurd h38 (by decide)
                | exact absurd (Classical.not_not.mp h38) (by decide)
                | skip
                  refine pr_seqT (pc' := 43) 2 rfl ⟨⟨trivial, trivial⟩, trivial⟩ ?_
                  try simp (disch := omega) only [c3, c5, c8, g8, rPg, rI_mul, nI_add, nI_1, nI_clamp, c192, pr_16_192, pr_8_6, pr_8_8, pr_i_0, pr_i_1, pr_i_3, pr_i_4, pr_i_5]
                  refine pr_icT rfl (fun h43 => ?_) (fun h43 => ?_)
                  · simp only [ab_cmp, pr_16_192, pr_8_6, pr_8_8, pr_i_0, pr_i_1, pr_i_3, pr_i_4, pr_i_5] at h43
                    first
                    | contradiction
                    | exact absurd trivial h43
                    | exact absurd h43 (by decide)
                    | exact absurd (Classical.not_not.mp h43) (by decide)
                    | skip
                      exact tailF 5 (by decide) I1 w2 w3
                  · simp only [ab_cmp, pr_16_192, pr_8_6, pr_8_8, pr_i_0, pr_i_1, pr_i_3, pr_i_4, pr_i_5] at h43
                    exact absurd (Classical.not_not.mp h43) z1
          · simp only [ab_cmp, pr_16_192, pr_8_6, pr_8_8, pr_i_0, pr_i_1, pr_i_3, pr_i_4, pr_i_5] at h15
            exact absurd z8 h15
    · have z8 : ¬ nI P.1.1.2.1.length = nI 8 := nI_ne c8' (by omega) (by decide)
      rw [if_neg (by omega), if_neg (by omega)]
      refine pr_seqT (pc' := 2) 2 rfl ⟨⟨trivial, trivial⟩, trivial⟩ ?_
      try simp (disch := omega) only [c3, c5, c8, g8, rPg, rI_mul, nI_add, nI_1, nI_clamp, c192, pr_16_192, pr_8_6, pr_8_8, pr_i_0, pr_i_1, pr_i_3, pr_i_4, pr_i_5]
      refine pr_icT rfl (fun h2 => ?_) (fun h2 => ?_)
      · simp only [ab_cmp, pr_16_192, pr_8_6, pr_8_8, pr_i_0, pr_i_1, pr_i_3, pr_i_4, pr_i_5] at h2
        exact absurd trivial h2
      · simp only [ab_cmp, pr_16_192, pr_8_6, pr_8_8, pr_i_0, pr_i_1, pr_i_3, pr_i_4, pr_i_5] at h2
        first
        | contradiction
        | exact absurd trivial h2
        | exact absurd h2 (by decide)
        | exact absurd (Classical.not_not.mp h2) (by decide)
        | skip
          refine pr_seqT (pc' := 15) 5 rfl ⟨⟨⟨⟨⟨trivial, (by first | decide | assumption)⟩, (by assumption)⟩, trivial⟩, (by (try simp (disch := omega) only [c3, c5, c8, g8, rPg, rI_mul, nI_add, nI_1, nI_clamp, c192, pr_16_192, pr_8_6, pr_8_8, pr_i_0, pr_i_1, pr_i_3, pr_i_4, pr_i_5]); exact ⟨Or.inl (by assumption), rvin (by assumption) (by omega) (by decide)⟩)⟩, trivial⟩ ?_
          try simp (disch := omega) only [c3, c5, c8, g8, rPg, rI_mul, nI_add, nI_1, nI_clamp, c192, pr_16_192, pr_8_6, pr_8_8, pr_i_0, pr_i_1, pr_i_3, pr_i_4, pr_i_5]
          refine pr_icT rfl (fun h15 => ?_) (fun h15 => ?_)
          · simp only [ab_cmp, pr_16_192, pr_8_6, pr_8_8, pr_i_0, pr_i_1, pr_i_3, pr_i_4, pr_i_5] at h15
            exact absurd h15 z8
          · simp only [ab_cmp, pr_16_192, pr_8_6, pr_8_8, pr_i_0, pr_i_1, pr_i_3, pr_i_4, pr_i_5] at h15
            first
            | contradiction
            | exact absurd trivial h15
            | exact absurd h15 (by decide)
            | exact absurd (Classical.not_not.mp h15) (by decide)
            | skip
              refine pr_seqT (pc' := 20) 2 rfl ⟨⟨trivial, trivial⟩, trivial⟩ ?_
              try simp (disch := omega) only [c3, c5, c8, g8, rPg, rI_mul, nI_add, nI_1, nI_clamp, c192, pr_16_192, pr_8_6, pr_8_8, pr_i_0, pr_i_1, pr_i_3, pr_i_4, pr_i_5]
              refine pr_icT rfl (fun h20 => ?_) (fun h20 => ?_)
              · simp only [ab_cmp, pr_16_192, pr_8_6, pr_8_8, pr_i_0, pr_i_1, pr_i_3, pr_i_4, pr_i_5] at h20
                first
                | contradiction
                | exact absurd trivial h20
                | exact absurd h20 (by decide)
                | exact absurd (Classical.not_not.mp h20) (by decide)
                | skip
                  refine pr_seqT (pc' := 38) 1 rfl ⟨trivial, trivial⟩ ?_
                  try simp (disch := omega) only [c3, c5, c8, g8, rPg, rI_mul, nI_add, nI_1, nI_clamp, c192, pr_16_192, pr_8_6, pr_8_8, pr_i_0, pr_i_1, pr_i_3, pr_i_4, pr_i_5]
                  refine pr_ifT rfl (fun h38 => ?_) (fun h38 => ?_)
                  · simp only [ab_cmp, pr_16_192, pr_8_6, pr_8_8, pr_i_0, pr_i_1, pr_i_3, pr_i_4, pr_i_5] at h38
                    exact absurd h38 z0
                  · simp only [ab_cmp, pr_16_192, pr_8_6, pr_8_8, pr_i_0, pr_i_1, pr_i_3, pr_i_4, pr_i_5] at h38
                    first
                    | contradiction
                    | exact absurd trivial h38
                    | exact absurd h38 (by decide)
                    | exact absurd (Classical.not_not.mp h38) (by decide)
                    | skip
                      refine pr_seqT (pc' := 43) 2 rfl ⟨⟨trivial, trivial⟩, trivial⟩ ?_
                      try simp (disch := omega) only [c3, c5, c8, g8, rPg, rI_mul, nI_add, nI_1, nI_clamp, c192, pr_16_192, pr_8_6, pr_8_8, pr_i_0, pr_i_1, pr_i_3, pr_i_4, pr_i_5]
                      refine pr_icT rfl (fun h43 => ?_) (fun h43 => ?_)
                      · simp only [ab_cmp, pr_16_192, pr_8_6, pr_8_8, pr_i_0, pr_i_1, pr_i_3, pr_i_4, pr_i_5] at h43
                        first
                        | contradiction
                        | exact absurd trivial h43
                        | exact absurd h43 (by decide)
                        | exact absurd (Classical.not_not.mp h43) (by decide)
                        | skip
                          exact tail
                      · simp only [ab_cmp, pr_16_192, pr_8_6, pr_8_8, pr_i_0, pr_i_1, pr_i_3, pr_i_4, pr_i_5] at h43
                        exact absurd (Classical.not_not.mp h43) z1
              · simp only [ab_cmp, pr_16_192, pr_8_6, pr_8_8, pr_i_0, pr_i_1, pr_i_3, pr_i_4, pr_i_5] at h20
                exact absurd (Classical.not_not.mp h20) z5
  · have z3 : ¬ nI 4 = nI 3 := by decide
    have z5 : ¬ nI 4 = nI 5 := by decide
    have z0 : ¬ nI 4 = 0 := by decide
    have z1 : ¬ nI 4 = 1 := by decide
    rw [if_neg (by omega), if_neg (by omega)]
    refine pr_seqT (pc' := 2) 2 rfl ⟨⟨trivial, trivial⟩, trivial⟩ ?_
    try simp (disch := omega) only [c3, c5, rPg, rI_mul, nI_add, nI_1, nI_clamp, c192, pr_16_192, pr_8_6, pr_8_8, pr_i_0, pr_i_1, pr_i_3, pr_i_4, pr_i_5]
    refine pr_icT rfl (fun h2 => ?_) (fun h2 => ?_)
    · simp only [ab_cmp, pr_16_192, pr_8_6, pr_8_8, pr_i_0, pr_i_1, pr_i_3, pr_i_4, pr_i_5] at h2
      first
      | contradiction
      | exact absurd trivial h2
      | exact absurd h2 (by decide)
      | exact absurd (Classical.not_not.mp h2) (by decide)
      | skip
        refine pr_seqT (pc' := 20) 2 rfl ⟨⟨trivial, trivial⟩, trivial⟩ ?_
        try simp (disch := omega) only [c3, c5, rPg, rI_mul, nI_add, nI_1, nI_clamp, c192, pr_16_192, pr_8_6, pr_8_8, pr_i_0, pr_i_1, pr_i_3, pr_i_4, pr_i_5]
        refine pr_icT rfl (fun h20 => ?_) (fun h20 => ?_)
        · simp only [ab_cmp, pr_16_192, pr_8_6, pr_8_8, pr_i_0, pr_i_1, pr_i_3, pr_i_4, pr_i_5] at h20
          first
          | contradiction
          | exact absurd trivial h20
          | exact absurd h20 (by decide)
          | exact absurd (Classical.not_not.mp h20) (by decide)
          | skip
            refine pr_seqT (pc' := 38) 1 rfl ⟨trivial, trivial⟩ ?_
            try simp (disch := omega) only [c3, c5, rPg, rI_mul, nI_add, nI_1, nI_clamp, c192, pr_16_192, pr_8_6, pr_8_8, pr_i_0, pr_i_1, pr_i_3, pr_i_4, pr_i_5]
            refine pr_ifT rfl (fun h38 => ?_) (fun h38 => ?_)
            · simp only [ab_cmp, pr_16_192, pr_8_6, pr_8_8, pr_i_0, pr_i_1, pr_i_3, pr_i_4, pr_i_5] at h38
              exact absurd h38 z0
            · simp only [ab_cmp, pr_16_192, pr_8_6, pr_8_8, pr_i_0, pr_i_1, pr_i_3, pr_i_4, pr_i_5] at h38
              first
              | contradiction
              | exact absurd trivial h38
              | exact absurd h38 (by decide)
              | exact absurd (Classical.not_not.mp h38) (by decide)
              | skip
                refine pr_seqT (pc' := 43) 2 rfl ⟨⟨trivial, trivial⟩, trivial⟩ ?_
                try simp (disch := omega) only [c3, c5, rPg, rI_mul, nI_add, nI_1, nI_clamp, c192, pr_16_192, pr_8_6, pr_8_8, pr_i_0, pr_i_1, pr_i_3, pr_i_4, pr_i_5]
                refine pr_icT rfl (fun h43 => ?_) (fun h43 => ?_)
                · simp only [ab_cmp, pr_16_192, pr_8_6, pr_8_8, pr_i_0, pr_i_1, pr_i_3, pr_i_4, pr_i_5] at h43
                  first
                  | contradiction
                  | exact absurd trivial h43
                  | exact absurd h43 (by decide)
                  | exact absurd (Classical.not_not.mp h43) (by decide)
                  | skip
                    exact tail
                · simp only [ab_cmp, pr_16_192, pr_8_6, pr_8_8, pr_i_0, pr_i_1, pr_i_3, pr_i_4, pr_i_5] at h43
                  exact absurd (Classical.not_not.mp h43) z1
        · simp only [ab_cmp, pr_16_192, pr_8_6, pr_8_8, pr_i_0, pr_i_1, pr_i_3, pr_i_4, pr_i_5] at h20
          exact absurd (Classical.not_not.mp h20) z5
    · simp only [ab_cmp, pr_16_192, pr_8_6, pr_8_8, pr_i_0, pr_i_1, pr_i_3, pr_i_4, pr_i_5] at h2
      exact absurd (Classical.not_not.mp h2) z3
  · have z3 : ¬ nI 5 = nI 3 := by decide
    have z0 : ¬ nI 5 = 0 := by decide
    have z1 : ¬ nI 5 = 1 := by decide
    by_cases c6' : P.1.2.2.length = 6
    · have z6 : nI P.1.2.2.length = nI 6 := by rw [c6']
      rw [if_pos (Or.inr ⟨rfl, c6'⟩)]
      refine pr_seqT (pc' := 2) 2 rfl ⟨⟨trivial, trivial⟩, trivial⟩ ?_
      try simp (disch := omega) only [c3, c5, c6, g9, rPg, rI_mul, nI_add, nI_1, nI_clamp, c192, pr_16_192, pr_8_6, pr_8_8, pr_i_0, pr_i_1, pr_i_3, pr_i_4, pr_i_5]
      refine pr_icT rfl (fun h2 => ?_) (fun h2 => ?_)
      · simp only [ab_cmp, pr_16_192, pr_8_6, pr_8_8, pr_i_0, pr_i_1, pr_i_3, pr_i_4, pr_i_5] at h2
        first
        | contradiction
        | exact absurd trivial h2
        | exact absurd h2 (by decide)
        | exact absurd (Classical.not_not.mp h2) (by decide)
        | skip
          refine pr_seqT (pc' := 20) 2 rfl ⟨⟨trivial, trivial⟩, trivial⟩ ?_
          try simp (disch := omega) only [c3, c5, c6, g9, rPg, rI_mul, nI_add, nI_1, nI_clamp, c192, pr_16_192, pr_8_6, pr_8_8, pr_i_0, pr_i_1, pr_i_3, pr_i_4, pr_i_5]
          refine pr_icT rfl (fun h20 => ?_) (fun h20 => ?_)
          · simp only [ab_cmp, pr_16_192, pr_8_6, pr_8_8, pr_i_0, pr_i_1, pr_i_3, pr_i_4, pr_i_5] at h20
            exact absurd trivial h20
          · simp only [ab_cmp, pr_16_192, pr_8_6, pr_8_8, pr_i_0, pr_i_1, pr_i_3, pr_i_4, pr_i_5] at h20
            first
            | contradiction
            | exact absurd trivial h20
            | exact absurd h20 (by decide)
            | exact absurd (Classical.not_not.mp h20) (by decide)
            | skip
              refine pr_seqT (pc' := 29) 3 rfl ⟨⟨⟨trivial, (by first | decide | assumption)⟩, (by assumption)⟩, trivial⟩ ?_
              try simp (disch := omega) only [c3, c5, c6, g9, rPg, rI_mul, nI_add, nI_1, nI_clamp, c192, pr_16_192, pr_8_6, pr_8_8, pr_i_0, pr_i_1, pr_i_3, pr_i_4, pr_i_5]
              refine pr_icT rfl (fun h29 => ?_) (fun h29 => ?_)
              · simp only [ab_cmp, pr_16_192, pr_8_6, pr_8_8, pr_i_0, pr_i_1, pr_i_3, pr_i_4, pr_i_5] at h29
                exact absurd z6 h29
              · simp only [ab_cmp, pr_16_192, pr_8_6, pr_8_8, pr_i_0, pr_i_1, pr_i_3, pr_i_4, pr_i_5] at h29
                first
                | contradiction
                | exact absurd trivial h29
                | exact absurd h29 (by decide)
                | exact absurd (Classical.not_not.mp h29) (by decide)
                | skip
                  refine pr_seqT (pc' := 34) 2 rfl ⟨⟨trivial, (by first | decide | assumption)⟩, trivial⟩ ?_
                  try simp (disch := omega) only [c3, c5, c6, g9, rPg, rI_mul, nI_add, nI_1, nI_clamp, c192, pr_16_192, pr_8_6, pr_8_8, pr_i_0, pr_i_1, pr_i_3, pr_i_4, pr_i_5]
                  refine pr_cvX [_] rfl rfl rfl rfl rfl (Nat.le_of_ble_eq_true rfl) (by first | assumption | decide | (simp (disch := omega) only [c3, c5, c6, g9, rPg, rI_mul, nI_add, nI_1, nI_clamp, c192, pr_16_192, pr_8_6, pr_8_8, pr_i_0, pr_i_1, pr_i_3, pr_i_4, pr_i_5]; first | assumption | exact ⟨Or.inl (by assumption), rvin (by assumption) (by omega) (by decide)⟩ | exact ⟨by assumption, rvin (by assumption) (by omega) (by decide)⟩ | exact ⟨⟨by omega, by omega⟩, rvin (by assumption) (by omega) (by decide)⟩ | exact ⟨Or.inr (by assumption), rvin (by assumption) (by omega) (by decide)⟩ | exact ⟨Or.inr ⟨by assumption, (by first | exact Or.inl rfl | exact Or.inr rfl | exact pr_b01 _)⟩, rvin (by assumption) (by omega) (by decide)⟩ | exact ⟨by assumption, by assumption⟩ | decide | omega)) (Nat.le_of_ble_eq_true rfl) (f5) (fun v34 M34 q34 => ?_)
                  obtain ⟨rfl, w1, w2, w3⟩ := q34
                  obtain ⟨I1, Z1⟩ := M34
                  dsimp only at w1 w2 w3
                  subst w1
                  refine pr_seqT (pc' := 38) 1 rfl ⟨trivial, trivial⟩ ?_
                  try simp (disch := omega) only [c3, c5, c6, g9, rPg, rI_mul, nI_add, nI_1, nI_clamp, c192, pr_16_192, pr_8_6, pr_8_8, pr_i_0, pr_i_1, pr_i_3, pr_i_4, pr_i_5]
                  refine pr_ifT rfl (fun h38 => ?_) (fun h38 => ?_)
                  · simp only [ab_cmp, pr_16_192, pr_8_6, pr_8_8, pr_i_0, pr_i_1, pr_i_3, pr_i_4, pr_i_5] at h38
                    exact absurd h38 z0
                  · simp only [ab_cmp, pr_16_192, pr_8_6, pr_8_8, pr_i_0, pr_i_1, pr_i_3, pr_i_4, pr_i_5] at h38
                    first
                    | contradiction
                    | exact absurd trivial h38
                    | exact absurd h38 (by decide)
                    | exact absurd (Classical.not_not.mp h38) (by decide)
                    | skip
                      refine pr_seqT (pc' := 43) 2 rfl ⟨⟨trivial, trivial⟩, trivial⟩ ?_
                      try simp (disch := omega) only [c3, c5, c6, g9, rPg, rI_mul, nI_add, nI_1, nI_clamp, c192, pr_16_192, pr_8_6, pr_8_8, pr_i_0, pr_i_1, pr_i_3, pr_i_4, pr_i_5]
                      refine pr_icT rfl (fun h43 => ?_) (fun h43 => ?_)
                      · simp only [ab_cmp, pr_16_192, pr_8_6, pr_8_8, pr_i_0, pr_i_1, pr_i_3, pr_i_4, pr_i_5] at h43
                        first
                        | contradiction
                        | exact absurd trivial h43
                        | exact absurd h43 (by decide)
                        | exact absurd (Classical.not_not.mp h43) (by decide)
                        | skip
                          exact tailF 5 (by decide) I1 w2 w3
                      · simp only [ab_cmp, pr_16_192, pr_8_6, pr_8_8, pr_i_0, pr_i_1, pr_i_3, pr_i_4, pr_i_5] at h43
                        exact absurd (Classical.not_not.mp h43) z1
      · simp only [ab_cmp, pr_16_192, pr_8_6, pr_8_8, pr_i_0, pr_i_1, pr_i_3, pr_i_4, pr_i_5] at h2
        exact absurd (Classical.not_not.mp h2) z3
    · have z6 : ¬ nI P.1.2.2.length = nI 6 := nI_ne c6' (by omega) (by decide)
      rw [if_neg (by omega), if_neg (by omega)]
      refine pr_seqT (pc' := 2) 2 rfl ⟨⟨trivial, trivial⟩, trivial⟩ ?_
      try simp (disch := omega) only [c3, c5, c6, g9, rPg, rI_mul, nI_add, nI_1, nI_clamp, c192, pr_16_192, pr_8_6, pr_8_8, pr_i_0, pr_i_1, pr_i_3, pr_i_4, pr_i_5]
      refine pr_icT rfl (fun h2 => ?_) (fun h2 => ?_)
      · simp only [ab_cmp, pr_16_192, pr_8_6, pr_8_8, pr_i_0, pr_i_1, pr_i_3, pr_i_4, pr_i_5] at h2
        first
        | contradiction
        | exact absurd trivial h2
        | exact absurd h2 (by decide)
        | exact absurd (Classical.not_not.mp h2) (by decide)
        | skip
          refine pr_seqT (pc' := 20) 2 rfl ⟨⟨trivial, trivial⟩, trivial⟩ ?_
          try simp (disch := omega) only [c3, c5, c6, g9, rPg, rI_mul, nI_add, nI_1, nI_clamp, c192, pr_16_192, pr_8_6, pr_8_8, pr_i_0, pr_i_1, pr_i_3, pr_i_4, pr_i_5]
          refine pr_icT rfl (fun h20 => ?_) (fun h20 => ?_)
          · simp only [ab_cmp, pr_16_192, pr_8_6, pr_8_8, pr_i_0, pr_i_1, pr_i_3, pr_i_4, pr_i_5] at h20
            exact absurd trivial h20
          · simp only [ab_cmp, pr_16_192, pr_8_6, pr_8_8, pr_i_0, pr_i_1, pr_i_3, pr_i_4, pr_i_5] at h20
            first
            | contradiction
            | exact absurd trivial h20
            | exact absurd h20 (by decide)
            | exact absurd (Classical.not_not.mp h20) (by decide)
            | skip
              refine pr_seqT (pc' := 29) 3 rfl ⟨⟨⟨trivial, (by first | decide | assumption)⟩, (by assumption)⟩, trivial⟩ ?_
              try simp (disch := omega) only [c3, c5, c6, g9, rPg, rI_mul, nI_add, nI_1, nI_clamp, c192, pr_16_192, pr_8_6, pr_8_8, pr_i_0, pr_i_1, pr_i_3, pr_i_4, pr_i_5]
              refine pr_icT rfl (fun h29 => ?_) (fun h29 => ?_)
              · simp only [ab_cmp, pr_16_192, pr_8_6, pr_8_8, pr_i_0, pr_i_1, pr_i_3, pr_i_4, pr_i_5] at h29
                first
                | contradiction
                | exact absurd trivial h29
                | exact absurd h29 (by decide)
                | exact absurd (Classical.not_not.mp h29) (by decide)
                | skip
                  refine pr_seqT (pc' := 38) 1 rfl ⟨trivial, trivial⟩ ?_
                  try simp (disch := omega) only [c3, c5, c6, g9, rPg, rI_mul, nI_add, nI_1, nI_clamp, c192, pr_16_192, pr_8_6, pr_8_8, pr_i_0, pr_i_1, pr_i_3, pr_i_4, pr_i_5]
                  refine pr_ifT rfl (fun h38 => ?_) (fun h38 => ?_)
                  · simp only [ab_cmp, pr_16_192, pr_8_6, pr_8_8, pr_i_0, pr_i_1, pr_i_3, pr_i_4, pr_i_5] at h38
                    exact absurd h38 z0
                  · simp only [ab_cmp, pr_16_192, pr_8_6, pr_8_8, pr_i_0, pr_i_1, pr_i_3, pr_i_4, pr_i_5] at h38
                    first
                    | contradiction
                    | exact absurd trivial h38
                    | exact absurd h38 (by decide)
                    | exact absurd (Classical.not_not.mp h38) (by decide)
                    | skip
                      refine pr_seqT (pc' := 43) 2 rfl ⟨⟨trivial, trivial⟩, trivial⟩ ?_
                      try simp (disch := omega) only [c3, c5, c6, g9, rPg, rI_mul, nI_add, nI_1, nI_clamp, c192, pr_16_192, pr_8_6, pr_8_8, pr_i_0, pr_i_1, pr_i_3, pr_i_4, pr_i_5]
                      refine pr_icT rfl (fun h43 => ?_) (fun h43 => ?_)
                      · simp only [ab_cmp, pr_16_192, pr_8_6, pr_8_8, pr_i_0, pr_i_1, pr_i_3, pr_i_4, pr_i_5] at h43
                        first
                        | contradiction
                        | exact absurd trivial h43
                        | exact absurd h43 (by decide)
                        | exact absurd (Classical.not_not.mp h43) (by decide)
                        | skip
                          exact tail
                      · simp only [ab_cmp, pr_16_192, pr_8_6, pr_8_8, pr_i_0, pr_i_1, pr_i_3, pr_i_4, pr_i_5] at h43
                        exact absurd (Classical.not_not.mp h43) z1
              · simp only [ab_cmp, pr_16_192, pr_8_6, pr_8_8, pr_i_0, pr_i_1, pr_i_3, pr_i_4, pr_i_5] at h29
                exact absurd (Classical.not_not.mp h29) z6
      · simp only [ab_cmp, pr_16_192, pr_8_6, pr_8_8, pr_i_0, pr_i_1, pr_i_3, pr_i_4, pr_i_5] at h2
        exact absurd (Classical.not_not.mp h2) z3
