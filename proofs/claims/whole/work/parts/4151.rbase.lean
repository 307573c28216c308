
/-! ===== the reference: where its cells lie, what they hold ===== -/
theorem rI_mul (a b : Nat) : nI a * nI b = nI (a * b) := (Int32.ofNat_mul a b).symm
theorem c2 : (2 : Int32) = nI 2 := rfl
theorem c3 : (3 : Int32) = nI 3 := rfl
theorem c4 : (4 : Int32) = nI 4 := rfl
theorem c8 : (8 : Int32) = nI 8 := rfl
theorem c9 : (9 : Int32) = nI 9 := rfl
theorem c10 : (10 : Int32) = nI 10 := rfl
theorem c11 : (11 : Int32) = nI 11 := rfl
theorem c20 : (20 : Int32) = nI 20 := rfl
theorem c24 : (24 : Int32) = nI 24 := rfl
theorem c26 : (26 : Int32) = nI 26 := rfl
theorem c40 : (40 : Int32) = nI 40 := rfl
theorem c192 : (192 : Int32) = nI 192 := rfl
theorem c193 : (193 : Int32) = nI 193 := rfl
theorem c219 : (219 : Int32) = nI 219 := rfl
theorem c220 : (220 : Int32) = nI 220 := rfl
theorem c221 : (221 : Int32) = nI 221 := rfl
theorem c663 : (663 : Int32) = nI 663 := rfl
theorem rvin {h : ab_H} {a n k : Nat} (hn : ab_n h a = n) (hk : k < n) (hb : n < 2 ^ 31) : vp_in (nI k) (ab_n h a) := by rw [hn]; exact vp_in_nI hk hb
def rL (h : ab_H) (R : Nat → Nat → Nat) : Prop := ab_k h 172 = 12 ∧ R 172 0 = 173 ∧ R 172 1 = 174 ∧ R 172 3 = 175 ∧ R 172 5 = 176 ∧ R 172 6 = 177 ∧ R 172 7 = 178 ∧ R 172 13 = 179 ∧ R 172 22 = 180 ∧ R 172 23 = 181 ∧ R 172 24 = 182 ∧ R 172 25 = 183 ∧ R 172 26 = 184 ∧ R 172 27 = 185 ∧ R 172 28 = 186 ∧ R 172 29 = 187 ∧ (ab_k h 173 = 20 ∧ ab_n h 173 = 884) ∧ (ab_k h 174 = 20 ∧ ab_n h 174 = 66) ∧ (ab_k h 175 = 20 ∧ ab_n h 175 = 12) ∧ (ab_k h 176 = 20 ∧ ab_n h 176 = 221) ∧ (ab_k h 177 = 20 ∧ ab_n h 177 = 66) ∧ (ab_k h 178 = 20 ∧ ab_n h 178 = 12) ∧ (ab_k h 179 = 20 ∧ ab_n h 179 = 320) ∧ (ab_k h 180 = 20 ∧ ab_n h 180 = 12) ∧ (ab_k h 181 = 20 ∧ ab_n h 181 = 48) ∧ (ab_k h 182 = 20 ∧ ab_n h 182 = 176421) ∧ (ab_k h 183 = 20 ∧ ab_n h 183 = 28) ∧ (ab_k h 184 = 22 ∧ ab_n h 184 = 2) ∧ (ab_k h 185 = 20 ∧ ab_n h 185 = 4) ∧ (ab_k h 186 = 20 ∧ ab_n h 186 = 4) ∧ ab_k h 187 = 20 ∧ ab_n h 187 = 160
/-- one at a of a page; a page -/
def pn_r (F : Nat → Int32) (a : Nat) (q : Pn) : Prop := F a = nI q.1 ∧ q.1 ≤ 4 ∧ F (a + 1) = nI q.2.1 ∧ q.2.1 ≤ 99 ∧ F (a + 2) = nI q.2.2.1 ∧ q.2.2.1 ≤ 99 ∧ F (a + 3) = nI q.2.2.2.length ∧ q.2.2.2.length ≤ 20 ∧ ∀ j, j < q.2.2.2.length → F (a + 4 + j) = nI (q.2.2.2.getD j 0) ∧ q.2.2.2.getD j 0 < 26
def pg_r (F : Nat → Int32) (d : Ld) : Prop := F 192 = nI d.2.1.length ∧ d.2.1.length ≤ 8 ∧ F 219 = nI d.2.2.1 ∧ d.2.2.1 ≤ 1 ∧ F 220 = nI d.2.2.2 - 1 ∧ (1 ≤ d.2.2.2 ∧ d.2.2.2 ≤ 9) ∧ (∀ l, l < 26 → F (193 + l) = nI (d.1 l) - nI l - 1 ∧ d.1 l ≤ 40) ∧ ∀ p, p < d.2.1.length → pn_r F (24 * p) (d_pn d p)
def ls_r (F : Nat → Int32) (L : List (List Nat)) : Prop := ∀ n, n < L.length → F (11 * n) = nI (L.getD n []).length ∧ (L.getD n []).length ≤ 10 ∧ ∀ j, j < (L.getD n []).length → F (11 * n + 1 + j) = nI ((L.getD n []).getD j 0) ∧ (L.getD n []).getD j 0 < 26
def kn_r (F : Nat → Int32) (m : Nat) (K : List (Nat × Nat)) : Prop := ∀ i, i < K.length → F (2 * i) = nI (K.getD i (0, 0)).1 ∧ F (2 * i + 1) = nI (K.getD i (0, 0)).2 ∧ (K.getD i (0, 0)).1 < m ∧ (K.getD i (0, 0)).2 ≤ 999
def sh_r (I : Nat → Nat → Int32) (k : Nat) : Sh1 → Prop
  | none => I 185 k = -4
  | some (ln, n, f) => I 185 k = nI ln ∧ ln ≤ 2 ∧ I 186 k = nI n ∧ n ≤ 40 ∧ ∀ j, j < 40 → I 187 (40 * k + j) = f j
def im_r (I : Nat → Nat → Int32) (k : Nat) : Option Ld → Prop
  | none => I 184 k = 0
  | some d => I 184 k = 1 ∧ pg_r (fun j => I 173 (221 * (k + 1) + j)) d
def tp_r (I : Nat → Nat → Int32) (w : List Nat) : Prop := I 172 14 = nI w.length ∧ w.length ≤ 320 ∧ ∀ j, j < w.length → I 179 j = nI (w.getD j 0) ∧ w.getD j 0 < 256
def cutsL : List Nat := [0, 3, 6, 12, 15, 19, 24, 29, 33, 40, 44, 48]
def ltsL : List Nat := [108, 97, 119, 102, 101, 101, 108, 101, 116, 116, 101, 114, 111, 110, 101, 108, 105, 115, 116, 107, 110, 111, 119, 110, 112, 108, 97, 105, 110, 100, 101, 97, 100, 102, 111, 114, 101, 105, 103, 110, 109, 117, 116, 101, 116, 119, 105, 110]
def cn_r (I : Nat → Nat → Int32) : Prop := (∀ j, j < 12 → I 180 j = nI (cutsL.getD j 0)) ∧ ∀ j, j < 48 → I 181 j = nI (ltsL.getD j 0)
def rv (I : Nat → Nat → Int32) (X : St) : Prop := pg_r (I 173) X.1.1 ∧ (I 172 2 = nI X.1.2.1.length ∧ X.1.2.1.length ≤ 6 ∧ ls_r (I 174) X.1.2.1) ∧ (I 172 4 = nI X.1.2.2.length ∧ X.1.2.2.length ≤ 6 ∧ kn_r (I 175) X.1.2.1.length X.1.2.2) ∧ (∀ k, k < 2 → im_r I k (X.2.1 k)) ∧ (∀ k, k < 4 → sh_r I k (X.2.2.1 k)) ∧ tp_r I X.2.2.2.1 ∧ I 172 15 = nI X.2.2.2.2.1 ∧ I 172 30 = nI X.2.2.2.2.2 ∧ cn_r I
/-- the post of an operation of the reference -/
def rp (M : ab_M) (A : Int32 × St) (r : Option Value) (M' : ab_M) : Prop := r = some (.int A.1) ∧ M'.2 = M.2 ∧ rv M'.1 A.2 ∧ ∀ a, (a < 172 ∨ 187 < a) → M'.1 a = M.1 a
theorem rp_s {M : ab_M} {X : St} {v : Int32} (hv : rv M.1 X) : rp M (v, X) (some (.int v)) M := ⟨rfl, rfl, hv, fun _ _ => rfl⟩
/-! ===== within ===== -/
theorem q_inL (a b c : Int64) (h : ab_H) (M : ab_M) : pr_C pX11_in [.long a, .long b, .long c] h M (some (.int (pr_b (!decide (a < b) && !decide (c < a))))) h M := by
  by_cases q1 : a < b
  · rw [decide_eq_true q1]
    have e1 := (lg_cmp_lt a b).mpr q1
    refine pr_seq (pc' := 3) 3 rfl ⟨⟨⟨trivial, trivial⟩, trivial⟩, trivial⟩ ?_
    refine pr_if rfl (fun h3 => ?_) (fun h3 => ?_)
    · simp only [ab_cmp, pr_i_0, pr_i_1] at h3
      first
      | contradiction
      | exact absurd trivial h3
      | exact absurd h3 (by decide)
      | exact absurd (Classical.not_not.mp h3) (by decide)
      | skip
        refine pr_seq (pc' := 18) 1 rfl ⟨trivial, trivial⟩ ?_
        exact pr_irM rfl (by first | rfl | (simp [pr_b, pr_i_0, pr_i_1, *]; done) | (simp_all [pr_b, pr_i_0, pr_i_1]; done)) (by first | exact Or.inl rfl | exact Or.inr rfl | exact pr_b01 _ | assumption) (by rfl)
    · simp only [ab_cmp, pr_i_0, pr_i_1] at h3
      exact absurd e1 h3
  · rw [decide_eq_false q1]
    have e1 : ¬ lg_cmp a b < 0 := fun q => q1 ((lg_cmp_lt a b).mp q)
    by_cases q2 : c < a
    · rw [decide_eq_true q2]
      have e2 := (lg_cmp_gt a c).mpr q2
      refine pr_seq (pc' := 3) 3 rfl ⟨⟨⟨trivial, trivial⟩, trivial⟩, trivial⟩ ?_
      refine pr_if rfl (fun h3 => ?_) (fun h3 => ?_)
      · simp only [ab_cmp, pr_i_0, pr_i_1] at h3
        exact absurd h3 e1
      · simp only [ab_cmp, pr_i_0, pr_i_1] at h3
        first
        | contradiction
        | exact absurd trivial h3
        | exact absurd h3 (by decide)
        | exact absurd (Classical.not_not.mp h3) (by decide)
        | skip
          refine pr_seq (pc' := 10) 3 rfl ⟨⟨⟨trivial, trivial⟩, trivial⟩, trivial⟩ ?_
          refine pr_if rfl (fun h10 => ?_) (fun h10 => ?_)
          · simp only [ab_cmp, pr_i_0, pr_i_1] at h10
            first
            | contradiction
            | exact absurd trivial h10
            | exact absurd h10 (by decide)
            | exact absurd (Classical.not_not.mp h10) (by decide)
            | skip
              refine pr_seq (pc' := 18) 1 rfl ⟨trivial, trivial⟩ ?_
              exact pr_irM rfl (by first | rfl | (simp [pr_b, pr_i_0, pr_i_1, *]; done) | (simp_all [pr_b, pr_i_0, pr_i_1]; done)) (by first | exact Or.inl rfl | exact Or.inr rfl | exact pr_b01 _ | assumption) (by rfl)
          · simp only [ab_cmp, pr_i_0, pr_i_1] at h10
            exact absurd e2 h10
    · rw [decide_eq_false q2]
      have e2 : ¬ 0 < lg_cmp a c := fun q => q2 ((lg_cmp_gt a c).mp q)
      refine pr_seq (pc' := 3) 3 rfl ⟨⟨⟨trivial, trivial⟩, trivial⟩, trivial⟩ ?_
      refine pr_if rfl (fun h3 => ?_) (fun h3 => ?_)
      · simp only [ab_cmp, pr_i_0, pr_i_1] at h3
        exact absurd h3 e1
      · simp only [ab_cmp, pr_i_0, pr_i_1] at h3
        first
        | contradiction
        | exact absurd trivial h3
        | exact absurd h3 (by decide)
        | exact absurd (Classical.not_not.mp h3) (by decide)
        | skip
          refine pr_seq (pc' := 10) 3 rfl ⟨⟨⟨trivial, trivial⟩, trivial⟩, trivial⟩ ?_
          refine pr_if rfl (fun h10 => ?_) (fun h10 => ?_)
          · simp only [ab_cmp, pr_i_0, pr_i_1] at h10
            exact absurd h10 e2
          · simp only [ab_cmp, pr_i_0, pr_i_1] at h10
            first
            | contradiction
            | exact absurd trivial h10
            | exact absurd h10 (by decide)
            | exact absurd (Classical.not_not.mp h10) (by decide)
            | skip
              refine pr_seq (pc' := 18) 2 rfl ⟨⟨trivial, trivial⟩, trivial⟩ ?_
              exact pr_irM rfl (by first | rfl | (simp [pr_b, pr_i_0, pr_i_1, *]; done) | (simp_all [pr_b, pr_i_0, pr_i_1]; done)) (by first | exact Or.inl rfl | exact Or.inr rfl | exact pr_b01 _ | assumption) (by rfl)
theorem i64_lt (x y : Int32) : x.toInt64 < y.toInt64 ↔ x < y := by
  rw [Int64.lt_iff_toInt_lt, Int32.lt_iff_toInt_lt, Int32.toInt_toInt64, Int32.toInt_toInt64]
theorem q_in {a b c : Int64} (x lo hi : Int32) (h : ab_H) (M : ab_M) (ha : a = x.toInt64) (hb : b = lo.toInt64) (hc : c = hi.toInt64) : pr_C pX11_in [.long a, .long b, .long c] h M (some (.int (pr_b (pr_in x lo hi)))) h M := by
  subst ha hb hc
  have := q_inL x.toInt64 lo.toInt64 hi.toInt64 h M
  rw [decide_eq_decide.mpr (i64_lt x lo), decide_eq_decide.mpr (i64_lt hi x)] at this
  exact this
theorem i_m1 (m : Nat) (hm : m ≤ 1000000) : (nI m - 1).toInt = (m : Int) - 1 := by
  cases m with
  | zero => decide
  | succ m => rw [nI_pred, nI_toInt (by omega)]; omega
theorem ix_in (x : Int32) (m : Nat) (hm : m ≤ 1000000) : pr_in x 0 (nI m - 1) = ixb x m := by
  unfold pr_in
  have : decide (nI m - 1 < x) = decide (nI m ≤ x) := decide_eq_decide.mpr (by rw [Int32.lt_iff_toInt_lt, Int32.le_iff_toInt_le, i_m1 m hm, nI_toInt (by omega)]; omega)
  rw [this]
theorem nI_m10 (j : Nat) : nI (j + 10) - 10 = nI j := by
  rw [← nI_add]
  show nI j + 10 - 10 = nI j
  rw [Int32.add_sub_cancel]
theorem ix_pl (w : Int32) (n : Nat) (hn : n ≤ 1000) : pr_in w 10 (9 + nI n) = ixb (w - 10) n := by
  have e9 : (9 : Int32) + nI n = nI (9 + n) := nI_add 9 n
  rw [e9]
  rcases pr_ix (w - 10) (show n ≤ 1000000 by omega) with q | ⟨j, hj, e, q⟩
  · rw [show ixb (w - 10) n = false from q]
    cases hc : pr_in w 10 (nI (9 + n)) with
    | false => rfl
    | true =>
      exfalso
      unfold pr_in at hc
      simp only [Bool.and_eq_true, Bool.not_eq_true', decide_eq_false_iff_not] at hc
      obtain ⟨a1, a2⟩ := hc
      have a0 : ¬ w < 0 := fun q => a1 (Int32.lt_iff_toInt_lt.mpr (Int.lt_of_lt_of_le (Int32.lt_iff_toInt_lt.mp q) (by decide)))
      obtain ⟨k, hk, rfl⟩ := nI_of a0
      have b1 : ¬ k < 10 := fun q => a1 ((nI_ltI (b := 10) hk (by decide)).mpr q)
      have b2 : ¬ 9 + n < k := fun q => a2 ((nI_ltI (by omega) hk).mpr q)
      obtain ⟨i, rfl⟩ : ∃ i, k = i + 10 := ⟨k - 10, by omega⟩
      rw [nI_m10] at q
      have c1 : ¬ nI i < 0 := nI_pos (by omega)
      have c2 : ¬ nI n ≤ nI i := nI_ge (by omega) (by omega)
      rw [decide_eq_false c1, decide_eq_false c2] at q
      cases q
  · rw [show ixb (w - 10) n = true from q]
    have hw : w = nI (j + 10) := by
      have : w = w - 10 + 10 := (Int32.sub_add_cancel w 10).symm
      rw [e] at this
      rw [this]
      exact nI_add j 10
    subst hw
    unfold pr_in
    rw [decide_eq_false (show ¬ nI (j + 10) < 10 from nI_nlt (b := 10) (by omega) (by omega)), decide_eq_false (show ¬ nI (9 + n) < nI (j + 10) from nI_nlt (by omega) (by omega))]
    rfl
/-! ===== asked of the land ===== -/
theorem i32_wo (a b : Int32) : a - b - 1 + b + 1 = a := by grind
theorem q_people {d : Ld} (h : ab_H) (M : ab_M) (hl : rL h M.2.2) (hv : pg_r (M.1 173) d) : pr_C pX11_people [.ref 172] h M (some (.int (nI d.2.1.length))) h M := by
  obtain ⟨k172, rS, rLs, rKn, rPg, rRl, rRk, rTp, rCu, rLe, rLt, rSm, rIk, rLn, rLg, rCe, ⟨kS, nS⟩, ⟨kLs, nLs⟩, ⟨kKn, nKn⟩, ⟨kPg, nPg⟩, ⟨kRl, nRl⟩, ⟨kRk, nRk⟩, ⟨kTp, nTp⟩, ⟨kCu, nCu⟩, ⟨kLe, nLe⟩, ⟨kLt, nLt⟩, ⟨kSm, nSm⟩, ⟨kIk, nIk⟩, ⟨kLn, nLn⟩, ⟨kLg, nLg⟩, kCe, nCe⟩ := id hl
  obtain ⟨g1, g2, g3, g4, g5, ⟨g6, g6'⟩, g7, g8⟩ := id hv
  refine pr_seq (pc' := 8) 4 rfl ⟨⟨⟨⟨trivial, (by first | decide | assumption)⟩, (by assumption)⟩, trivial⟩, (by first | assumption | decide | (simp (disch := omega) only [g1, rS, rI_mul, nI_add, nI_1, nI_clamp, c192, pr_16_192]; first | assumption | exact ⟨Or.inl (by assumption), rvin (by assumption) (by omega) (by decide)⟩ | exact ⟨by assumption, rvin (by assumption) (by omega) (by decide)⟩ | exact ⟨⟨by omega, by omega⟩, rvin (by assumption) (by omega) (by decide)⟩ | exact ⟨Or.inl (by assumption), by assumption⟩ | exact ⟨Or.inr (by assumption), by assumption⟩ | exact ⟨by assumption, by assumption⟩ | decide | omega))⟩ ?_
  try simp (disch := omega) only [g1, rS, rI_mul, nI_add, nI_1, nI_clamp, c192, pr_16_192]
  exact pr_irM rfl (by first | rfl | (simp (disch := omega) only [g1, rS, rI_mul, nI_add, nI_1, nI_clamp, c192, pr_16_192]; done) | (simp [pr_b, pr_16_192, *]; done) | (simp_all [pr_b, pr_16_192]; done)) trivial (by rfl)
theorem q_isOne {d : Ld} (x : Int32) (h : ab_H) (M : ab_M) (hl : rL h M.2.2) (hv : pg_r (M.1 173) d) : pr_C pX11_isOne [.ref 172, .int x] h M (some (.int (pr_b (ixb x d.2.1.length)))) h M := by
  obtain ⟨k172, rS, rLs, rKn, rPg, rRl, rRk, rTp, rCu, rLe, rLt, rSm, rIk, rLn, rLg, rCe, ⟨kS, nS⟩, ⟨kLs, nLs⟩, ⟨kKn, nKn⟩, ⟨kPg, nPg⟩, ⟨kRl, nRl⟩, ⟨kRk, nRk⟩, ⟨kTp, nTp⟩, ⟨kCu, nCu⟩, ⟨kLe, nLe⟩, ⟨kLt, nLt⟩, ⟨kSm, nSm⟩, ⟨kIk, nIk⟩, ⟨kLn, nLn⟩, ⟨kLg, nLg⟩, kCe, nCe⟩ := id hl
  obtain ⟨g1, g2, g3, g4, g5, ⟨g6, g6'⟩, g7, g8⟩ := id hv
  have hp := q_people h M hl hv
  have hi := q_in (a := x.toInt64) (b := Int64.ofNat 0) (c := (nI d.2.1.length - 1).toInt64) x 0 (nI d.2.1.length - 1) h M rfl rfl rfl
  rw [ix_in x _ (by omega)] at hi
  refine pr_seq (pc' := 4) 4 rfl ⟨⟨⟨⟨trivial, trivial⟩, trivial⟩, trivial⟩, (by first | decide | assumption)⟩ ?_
  try simp (disch := omega) only [rI_mul, nI_add, nI_1, nI_clamp, pr_i_1]
  refine pr_cv [] rfl rfl rfl rfl rfl (Nat.le_of_ble_eq_true rfl) (by first | assumption | decide | (simp (disch := omega) only [rI_mul, nI_add, nI_1, nI_clamp, pr_i_1]; first | assumption | exact ⟨Or.inl (by assumption), rvin (by assumption) (by omega) (by decide)⟩ | exact ⟨by assumption, rvin (by assumption) (by omega) (by decide)⟩ | exact ⟨⟨by omega, by omega⟩, rvin (by assumption) (by omega) (by decide)⟩ | exact ⟨Or.inl (by assumption), by assumption⟩ | exact ⟨Or.inr (by assumption), by assumption⟩ | exact ⟨by assumption, by assumption⟩ | decide | omega)) (Nat.le_of_ble_eq_true rfl) (hp) ?_
  refine pr_seq (pc' := 10) 3 rfl ⟨⟨⟨trivial, trivial⟩, trivial⟩, trivial⟩ ?_
  try simp (disch := omega) only [rI_mul, nI_add, nI_1, nI_clamp, pr_i_1]
  refine pr_cs [_, _, _] rfl rfl rfl rfl rfl (Nat.le_of_ble_eq_true rfl) (Nat.le_of_ble_eq_true rfl) (hi) ?_
  exact pr_irM rfl (by first | rfl | (simp (disch := omega) only [rI_mul, nI_add, nI_1, nI_clamp, pr_i_1]; done) | (simp [pr_b, pr_i_1, *]; done) | (simp_all [pr_b, pr_i_1]; done)) (by first | exact Or.inl rfl | exact Or.inr rfl | exact pr_b01 _ | assumption) (by rfl)
theorem q_isListed {m : Nat} (x : Int32) (h : ab_H) (M : ab_M) (hl : rL h M.2.2) (hm : M.1 172 2 = nI m) (hm6 : m ≤ 6) : pr_C pX11_isListed [.ref 172, .int x] h M (some (.int (pr_b (ixb x m)))) h M := by
  obtain ⟨k172, rS, rLs, rKn, rPg, rRl, rRk, rTp, rCu, rLe, rLt, rSm, rIk, rLn, rLg, rCe, ⟨kS, nS⟩, ⟨kLs, nLs⟩, ⟨kKn, nKn⟩, ⟨kPg, nPg⟩, ⟨kRl, nRl⟩, ⟨kRk, nRk⟩, ⟨kTp, nTp⟩, ⟨kCu, nCu⟩, ⟨kLe, nLe⟩, ⟨kLt, nLt⟩, ⟨kSm, nSm⟩, ⟨kIk, nIk⟩, ⟨kLn, nLn⟩, ⟨kLg, nLg⟩, kCe, nCe⟩ := id hl
  have hi := q_in (a := x.toInt64) (b := Int64.ofNat 0) (c := (nI m - 1).toInt64) x 0 (nI m - 1) h M rfl rfl rfl
  rw [ix_in x _ (by omega)] at hi
  refine pr_seq (pc' := 10) 8 rfl ⟨⟨⟨⟨⟨⟨⟨⟨trivial, trivial⟩, trivial⟩, trivial⟩, (by first | decide | assumption)⟩, (by assumption)⟩, trivial⟩, trivial⟩, trivial⟩ ?_
  try simp (disch := omega) only [hm, rI_mul, nI_add, nI_1, nI_clamp, pr_i_1]
  refine pr_cs [_, _, _] rfl rfl rfl rfl rfl (Nat.le_of_ble_eq_true rfl) (Nat.le_of_ble_eq_true rfl) (hi) ?_
  exact pr_irM rfl (by first | rfl | (simp (disch := omega) only [hm, rI_mul, nI_add, nI_1, nI_clamp, pr_i_1]; done) | (simp [pr_b, pr_i_1, *]; done) | (simp_all [pr_b, pr_i_1]; done)) (by first | exact Or.inl rfl | exact Or.inr rfl | exact pr_b01 _ | assumption) (by rfl)
theorem q_isLetter (x : Int32) (h : ab_H) (M : ab_M) : pr_C pX11_isLetter [.int x] h M (some (.int (pr_b (pr_in x 0 25)))) h M := by
  have hi := q_in (a := x.toInt64) (b := Int64.ofNat 0) (c := Int64.ofNat 25) x 0 25 h M rfl rfl rfl
  refine pr_seq (pc' := 6) 4 rfl ⟨⟨⟨⟨trivial, trivial⟩, trivial⟩, trivial⟩, trivial⟩ ?_
  refine pr_cs [_, _, _] rfl rfl rfl rfl rfl (Nat.le_of_ble_eq_true rfl) (Nat.le_of_ble_eq_true rfl) (hi) ?_
  exact pr_irM rfl (by first | rfl | (simp [pr_b, *]; done) | (simp_all [pr_b]; done)) (by first | exact Or.inl rfl | exact Or.inr rfl | exact pr_b01 _ | assumption) (by rfl)
theorem q_feeNow {d : Ld} (h : ab_H) (M : ab_M) (hl : rL h M.2.2) (hv : pg_r (M.1 173) d) : pr_C pX11_feeNow [.ref 172] h M (some (.int (nI d.2.2.2))) h M := by
  obtain ⟨k172, rS, rLs, rKn, rPg, rRl, rRk, rTp, rCu, rLe, rLt, rSm, rIk, rLn, rLg, rCe, ⟨kS, nS⟩, ⟨kLs, nLs⟩, ⟨kKn, nKn⟩, ⟨kPg, nPg⟩, ⟨kRl, nRl⟩, ⟨kRk, nRk⟩, ⟨kTp, nTp⟩, ⟨kCu, nCu⟩, ⟨kLe, nLe⟩, ⟨kLt, nLt⟩, ⟨kSm, nSm⟩, ⟨kIk, nIk⟩, ⟨kLn, nLn⟩, ⟨kLg, nLg⟩, kCe, nCe⟩ := id hl
  obtain ⟨g1, g2, g3, g4, g5, ⟨g6, g6'⟩, g7, g8⟩ := id hv
  have e : nI d.2.2.2 - 1 + 1 = nI d.2.2.2 := Int32.sub_add_cancel _ _
  refine pr_seq (pc' := 10) 6 rfl ⟨⟨⟨⟨⟨⟨trivial, (by first | decide | assumption)⟩, (by assumption)⟩, trivial⟩, (by first | assumption | decide | (simp (disch := omega) only [g5, e, rS, rI_mul, nI_add, nI_1, nI_clamp, c220, pr_16_220, pr_i_1]; first | assumption | exact ⟨Or.inl (by assumption), rvin (by assumption) (by omega) (by decide)⟩ | exact ⟨by assumption, rvin (by assumption) (by omega) (by decide)⟩ | exact ⟨⟨by omega, by omega⟩, rvin (by assumption) (by omega) (by decide)⟩ | exact ⟨Or.inl (by assumption), by assumption⟩ | exact ⟨Or.inr (by assumption), by assumption⟩ | exact ⟨by assumption, by assumption⟩ | decide | omega))⟩, trivial⟩, trivial⟩ ?_
  try simp (disch := omega) only [g5, e, rS, rI_mul, nI_add, nI_1, nI_clamp, c220, pr_16_220, pr_i_1]
  exact pr_irM rfl (by first | rfl | (simp (disch := omega) only [g5, e, rS, rI_mul, nI_add, nI_1, nI_clamp, c220, pr_16_220, pr_i_1]; done) | (simp [pr_b, pr_16_220, pr_i_1, *]; done) | (simp_all [pr_b, pr_16_220, pr_i_1]; done)) trivial (by rfl)
theorem q_worthOf {d : Ld} {l : Nat} (h : ab_H) (M : ab_M) (hl : rL h M.2.2) (hv : pg_r (M.1 173) d) (hl26 : l < 26) : pr_C pX11_worthOf [.ref 172, .int (nI l)] h M (some (.int (nI (d.1 l)))) h M := by
  obtain ⟨k172, rS, rLs, rKn, rPg, rRl, rRk, rTp, rCu, rLe, rLt, rSm, rIk, rLn, rLg, rCe, ⟨kS, nS⟩, ⟨kLs, nLs⟩, ⟨kKn, nKn⟩, ⟨kPg, nPg⟩, ⟨kRl, nRl⟩, ⟨kRk, nRk⟩, ⟨kTp, nTp⟩, ⟨kCu, nCu⟩, ⟨kLe, nLe⟩, ⟨kLt, nLt⟩, ⟨kSm, nSm⟩, ⟨kIk, nIk⟩, ⟨kLn, nLn⟩, ⟨kLg, nLg⟩, kCe, nCe⟩ := id hl
  obtain ⟨g1, g2, g3, g4, g5, ⟨g6, g6'⟩, g7, g8⟩ := id hv
  have y := (g7 l hl26).1
  refine pr_seq (pc' := 14) 10 rfl ⟨⟨⟨⟨⟨⟨⟨⟨⟨⟨trivial, (by first | decide | assumption)⟩, (by assumption)⟩, trivial⟩, trivial⟩, trivial⟩, (by first | assumption | decide | (simp (disch := omega) only [y, i32_wo, rS, rI_mul, nI_add, nI_1, nI_clamp, c193, pr_16_193, pr_i_1]; first | assumption | exact ⟨Or.inl (by assumption), rvin (by assumption) (by omega) (by decide)⟩ | exact ⟨by assumption, rvin (by assumption) (by omega) (by decide)⟩ | exact ⟨⟨by omega, by omega⟩, rvin (by assumption) (by omega) (by decide)⟩ | exact ⟨Or.inl (by assumption), by assumption⟩ | exact ⟨Or.inr (by assumption), by assumption⟩ | exact ⟨by assumption, by assumption⟩ | decide | omega))⟩, trivial⟩, trivial⟩, trivial⟩, trivial⟩ ?_
  try simp (disch := omega) only [y, i32_wo, rS, rI_mul, nI_add, nI_1, nI_clamp, c193, pr_16_193, pr_i_1]
  exact pr_irM rfl (by first | rfl | (simp (disch := omega) only [y, i32_wo, rS, rI_mul, nI_add, nI_1, nI_clamp, c193, pr_16_193, pr_i_1]; done) | (simp [pr_b, pr_16_193, pr_i_1, *]; done) | (simp_all [pr_b, pr_16_193, pr_i_1]; done)) trivial (by rfl)
theorem q_longOf {d : Ld} {p : Nat} (h : ab_H) (M : ab_M) (hl : rL h M.2.2) (hv : pg_r (M.1 173) d) (hp : p < d.2.1.length) : pr_C pX11_longOf [.ref 172, .int (nI p)] h M (some (.int (nI (d_pn d p).2.2.2.length))) h M := by
  obtain ⟨k172, rS, rLs, rKn, rPg, rRl, rRk, rTp, rCu, rLe, rLt, rSm, rIk, rLn, rLg, rCe, ⟨kS, nS⟩, ⟨kLs, nLs⟩, ⟨kKn, nKn⟩, ⟨kPg, nPg⟩, ⟨kRl, nRl⟩, ⟨kRk, nRk⟩, ⟨kTp, nTp⟩, ⟨kCu, nCu⟩, ⟨kLe, nLe⟩, ⟨kLt, nLt⟩, ⟨kSm, nSm⟩, ⟨kIk, nIk⟩, ⟨kLn, nLn⟩, ⟨kLg, nLg⟩, kCe, nCe⟩ := id hl
  obtain ⟨g1, g2, g3, g4, g5, ⟨g6, g6'⟩, g7, g8⟩ := id hv
  obtain ⟨y1, y2, y3, y4, y5, y6, y7, y8, y9⟩ := g8 p hp
  refine pr_seq (pc' := 11) 8 rfl ⟨⟨⟨⟨⟨⟨⟨⟨trivial, (by first | decide | assumption)⟩, (by assumption)⟩, trivial⟩, trivial⟩, trivial⟩, trivial⟩, trivial⟩, (by first | assumption | decide | (simp (disch := omega) only [c3, y7, rS, rI_mul, nI_add, nI_1, nI_clamp, c24, pr_8_24, pr_i_3]; first | assumption | exact ⟨Or.inl (by assumption), rvin (by assumption) (by omega) (by decide)⟩ | exact ⟨by assumption, rvin (by assumption) (by omega) (by decide)⟩ | exact ⟨⟨by omega, by omega⟩, rvin (by assumption) (by omega) (by decide)⟩ | exact ⟨Or.inl (by assumption), by assumption⟩ | exact ⟨Or.inr (by assumption), by assumption⟩ | exact ⟨by assumption, by assumption⟩ | decide | omega))⟩ ?_
  try simp (disch := omega) only [c3, y7, rS, rI_mul, nI_add, nI_1, nI_clamp, c24, pr_8_24, pr_i_3]
  exact pr_irM rfl (by first | rfl | (simp (disch := omega) only [c3, y7, rS, rI_mul, nI_add, nI_1, nI_clamp, c24, pr_8_24, pr_i_3]; done) | (simp [pr_b, pr_8_24, pr_i_3, *]; done) | (simp_all [pr_b, pr_8_24, pr_i_3]; done)) trivial (by rfl)
theorem q_kindOf {d : Ld} {p : Nat} (h : ab_H) (M : ab_M) (hl : rL h M.2.2) (hv : pg_r (M.1 173) d) (hp : p < d.2.1.length) : pr_C pX11_kindOf [.ref 172, .int (nI p)] h M (some (.int (nI (d_pn d p).1))) h M := by
  obtain ⟨k172, rS, rLs, rKn, rPg, rRl, rRk, rTp, rCu, rLe, rLt, rSm, rIk, rLn, rLg, rCe, ⟨kS, nS⟩, ⟨kLs, nLs⟩, ⟨kKn, nKn⟩, ⟨kPg, nPg⟩, ⟨kRl, nRl⟩, ⟨kRk, nRk⟩, ⟨kTp, nTp⟩, ⟨kCu, nCu⟩, ⟨kLe, nLe⟩, ⟨kLt, nLt⟩, ⟨kSm, nSm⟩, ⟨kIk, nIk⟩, ⟨kLn, nLn⟩, ⟨kLg, nLg⟩, kCe, nCe⟩ := id hl
  obtain ⟨g1, g2, g3, g4, g5, ⟨g6, g6'⟩, g7, g8⟩ := id hv
  obtain ⟨y1, y2, y3, y4, y5, y6, y7, y8, y9⟩ := g8 p hp
  refine pr_seq (pc' := 9) 6 rfl ⟨⟨⟨⟨⟨⟨trivial, (by first | decide | assumption)⟩, (by assumption)⟩, trivial⟩, trivial⟩, trivial⟩, (by first | assumption | decide | (simp (disch := omega) only [y1, rS, rI_mul, nI_add, nI_1, nI_clamp, c24, pr_8_24]; first | assumption | exact ⟨Or.inl (by assumption), rvin (by assumption) (by omega) (by decide)⟩ | exact ⟨by assumption, rvin (by assumption) (by omega) (by decide)⟩ | exact ⟨⟨by omega, by omega⟩, rvin (by assumption) (by omega) (by decide)⟩ | exact ⟨Or.inl (by assumption), by assumption⟩ | exact ⟨Or.inr (by assumption), by assumption⟩ | exact ⟨by assumption, by assumption⟩ | decide | omega))⟩ ?_
  try simp (disch := omega) only [y1, rS, rI_mul, nI_add, nI_1, nI_clamp, c24, pr_8_24]
  exact pr_irM rfl (by first | rfl | (simp (disch := omega) only [y1, rS, rI_mul, nI_add, nI_1, nI_clamp, c24, pr_8_24]; done) | (simp [pr_b, pr_8_24, *]; done) | (simp_all [pr_b, pr_8_24]; done)) trivial (by rfl)
theorem a_w_m {law kind l i : Nat} (h : kind = 3 ∨ kind = 2 ∧ 12 < l) : a_w law kind l i = 0 := by
  unfold a_w
  rcases h with h | ⟨h1, h2⟩
  · rw [if_pos h]
  · rw [if_neg (by omega), if_pos ⟨h1, by omega⟩]
theorem a_w_n {law kind l i : Nat} (h1 : kind ≠ 3) (h2 : ¬ (kind = 2 ∧ 12 < l)) : a_w law kind l i = if law = 0 then 1 else i + 1 := by
  unfold a_w
  rw [if_neg h1, if_neg (fun q => h2 ⟨q.1, by omega⟩)]
theorem q_counts {d : Ld} {l i kind : Nat} (h : ab_H) (M : ab_M) (hl : rL h M.2.2) (hv : pg_r (M.1 173) d) (hl26 : l < 26) (hi : i < 1000) (hk : kind < 1000) : pr_C pX11_counts [.ref 172, .int (nI l), .int (nI i), .int (nI kind)] h M (some (.int (nI (a_w d.2.2.1 kind l i * d.1 l)))) h M := by
  obtain ⟨k172, rS, rLs, rKn, rPg, rRl, rRk, rTp, rCu, rLe, rLt, rSm, rIk, rLn, rLg, rCe, ⟨kS, nS⟩, ⟨kLs, nLs⟩, ⟨kKn, nKn⟩, ⟨kPg, nPg⟩, ⟨kRl, nRl⟩, ⟨kRk, nRk⟩, ⟨kTp, nTp⟩, ⟨kCu, nCu⟩, ⟨kLe, nLe⟩, ⟨kLt, nLt⟩, ⟨kSm, nSm⟩, ⟨kIk, nIk⟩, ⟨kLn, nLn⟩, ⟨kLg, nLg⟩, kCe, nCe⟩ := id hl
  obtain ⟨g1, g2, g3, g4, g5, ⟨g6, g6'⟩, g7, g8⟩ := id hv
  have hw := q_worthOf h M hl hv hl26
  have n12 : (12 : Int32) = nI 12 := rfl
  by_cases k3 : kind = 3
  · rw [a_w_m (Or.inl k3), Nat.zero_mul]
    have z : nI kind = nI 3 := by rw [k3]
    refine pr_seq (pc' := 2) 2 rfl ⟨⟨trivial, trivial⟩, trivial⟩ ?_
    try simp (disch := omega) only [c3, c2, n12, rS, rI_mul, nI_add, nI_1, nI_clamp, c219, pr_16_219, pr_8_12, pr_i_0, pr_i_1, pr_i_2, pr_i_3]
    refine pr_ic rfl (fun h2 => ?_) (fun h2 => ?_)
    · simp only [ab_cmp, pr_16_219, pr_8_12, pr_i_0, pr_i_1, pr_i_2, pr_i_3] at h2
      first
      | contradiction
      | exact absurd trivial h2
      | exact absurd h2 (by decide)
      | exact absurd (Classical.not_not.mp h2) (by decide)
      | skip
        refine pr_seq (pc' := 25) 4 rfl ⟨⟨⟨⟨trivial, trivial⟩, trivial⟩, trivial⟩, trivial⟩ ?_
        try simp (disch := omega) only [c3, c2, n12, rS, rI_mul, nI_add, nI_1, nI_clamp, c219, pr_16_219, pr_8_12, pr_i_0, pr_i_1, pr_i_2, pr_i_3]
        refine pr_if rfl (fun h25 => ?_) (fun h25 => ?_)
        · simp only [ab_cmp, pr_16_219, pr_8_12, pr_i_0, pr_i_1, pr_i_2, pr_i_3] at h25
          first
          | contradiction
          | exact absurd trivial h25
          | exact absurd h25 (by decide)
          | exact absurd (Classical.not_not.mp h25) (by decide)
          | skip
            refine pr_seq (pc' := 34) 2 rfl ⟨⟨trivial, (by first | decide | assumption)⟩, trivial⟩ ?_
            try simp (disch := omega) only [c3, c2, n12, rS, rI_mul, nI_add, nI_1, nI_clamp, c219, pr_16_219, pr_8_12, pr_i_0, pr_i_1, pr_i_2, pr_i_3]
            fail "no call@34 yX11_worthOf"
        · simp only [ab_cmp, pr_16_219, pr_8_12, pr_i_0, pr_i_1, pr_i_2, pr_i_3] at h25
          first
          | contradiction
          | exact absurd trivial h25
          | exact absurd h25 (by decide)
          | exact absurd (Classical.not_not.mp h25) (by decide)
          | skip
            refine pr_seq (pc' := 57) 2 rfl ⟨⟨trivial, trivial⟩, trivial⟩ ?_
            try simp (disch := omega) only [c3, c2, n12, rS, rI_mul, nI_add, nI_1, nI_clamp, c219, pr_16_219, pr_8_12, pr_i_0, pr_i_1, pr_i_2, pr_i_3]
            exact pr_irM rfl (by first | rfl | (simp (disch := omega) only [c3, c2, n12, rS, rI_mul, nI_add, nI_1, nI_clamp, c219, pr_16_219, pr_8_12, pr_i_0, pr_i_1, pr_i_2, pr_i_3]; done) | (simp [pr_b, pr_16_219, pr_8_12, pr_i_0, pr_i_1, pr_i_2, pr_i_3, *]; done) | (simp_all [pr_b, pr_16_219, pr_8_12, pr_i_0, pr_i_1, pr_i_2, pr_i_3]; done)) trivial (by rfl)
    · simp only [ab_cmp, pr_16_219, pr_8_12, pr_i_0, pr_i_1, pr_i_2, pr_i_3] at h2
      exact absurd z h2
  · have z : ¬ nI kind = nI 3 := nI_ne k3 (by omega) (by decide)
    by_cases k2 : kind = 2
    · have z2 : nI kind = nI 2 := by rw [k2]
      by_cases l12 : 12 < l
      · rw [a_w_m (Or.inr ⟨k2, l12⟩), Nat.zero_mul]
        have z3 : ¬ nI l ≤ nI 12 := nI_ge l12 (by omega)
        refine pr_seq (pc' := 2) 2 rfl ⟨⟨trivial, trivial⟩, trivial⟩ ?_
        try simp (disch := omega) only [c3, c2, n12, rS, rI_mul, nI_add, nI_1, nI_clamp, c219, pr_16_219, pr_8_12, pr_i_0, pr_i_1, pr_i_2, pr_i_3]
        refine pr_ic rfl (fun h2 => ?_) (fun h2 => ?_)
        · simp only [ab_cmp, pr_16_219, pr_8_12, pr_i_0, pr_i_1, pr_i_2, pr_i_3] at h2
          exact absurd h2 z
        · simp only [ab_cmp, pr_16_219, pr_8_12, pr_i_0, pr_i_1, pr_i_2, pr_i_3] at h2
          first
          | contradiction
          | exact absurd trivial h2
          | exact absurd h2 (by decide)
          | exact absurd (Classical.not_not.mp h2) (by decide)
          | skip
            refine pr_seq (pc' := 7) 2 rfl ⟨⟨trivial, trivial⟩, trivial⟩ ?_
            try simp (disch := omega) only [c3, c2, n12, rS, rI_mul, nI_add, nI_1, nI_clamp, c219, pr_16_219, pr_8_12, pr_i_0, pr_i_1, pr_i_2, pr_i_3]
            refine pr_ic rfl (fun h7 => ?_) (fun h7 => ?_)
            · simp only [ab_cmp, pr_16_219, pr_8_12, pr_i_0, pr_i_1, pr_i_2, pr_i_3] at h7
              exact absurd z2 h7
            · simp only [ab_cmp, pr_16_219, pr_8_12, pr_i_0, pr_i_1, pr_i_2, pr_i_3] at h7
              first
              | contradiction
              | exact absurd trivial h7
              | exact absurd h7 (by decide)
              | exact absurd (Classical.not_not.mp h7) (by decide)
              | skip
                refine pr_seq (pc' := 13) 2 rfl ⟨⟨trivial, trivial⟩, trivial⟩ ?_
                try simp (disch := omega) only [c3, c2, n12, rS, rI_mul, nI_add, nI_1, nI_clamp, c219, pr_16_219, pr_8_12, pr_i_0, pr_i_1, pr_i_2, pr_i_3]
                refine pr_ic rfl (fun h13 => ?_) (fun h13 => ?_)
                · simp only [ab_cmp, pr_16_219, pr_8_12, pr_i_0, pr_i_1, pr_i_2, pr_i_3] at h13
                  exact absurd h13 z3
                · simp only [ab_cmp, pr_16_219, pr_8_12, pr_i_0, pr_i_1, pr_i_2, pr_i_3] at h13
                  first
                  | contradiction
                  | exact absurd trivial h13
                  | exact absurd h13 (by decide)
                  | exact absurd (Classical.not_not.mp h13) (by decide)
                  | skip
                    refine pr_seq (pc' := 25) 4 rfl ⟨⟨⟨⟨trivial, trivial⟩, trivial⟩, trivial⟩, trivial⟩ ?_
                    try simp (disch := omega) only [c3, c2, n12, rS, rI_mul, nI_add, nI_1, nI_clamp, c219, pr_16_219, pr_8_12, pr_i_0, pr_i_1, pr_i_2, pr_i_3]
                    refine pr_if rfl (fun h25 => ?_) (fun h25 => ?_)
                    · simp only [ab_cmp, pr_16_219, pr_8_12, pr_i_0, pr_i_1, pr_i_2, pr_i_3] at h25
                      first
                      | contradiction
                      | exact absurd trivial h25
                      | exact absurd h25 (by decide)
                      | exact absurd (Classical.not_not.mp h25) (by decide)
                      | skip
                        refine pr_seq (pc' := 34) 2 rfl ⟨⟨trivial, (by first | decide | assumption)⟩, trivial⟩ ?_
                        try simp (disch := omega) only [c3, c2, n12, rS, rI_mul, nI_add, nI_1, nI_clamp, c219, pr_16_219, pr_8_12, pr_i_0, pr_i_1, pr_i_2, pr_i_3]
                        fail "no call@34 yX11_worthOf"
                    · simp only [ab_cmp, pr_16_219, pr_8_12, pr_i_0, pr_i_1, pr_i_2, pr_i_3] at h25
                      first
                      | contradiction
                      | exact absurd trivial h25
                      | exact absurd h25 (by decide)
                      | exact absurd (Classical.not_not.mp h25) (by decide)
                      | skip
                        refine pr_seq (pc' := 57) 2 rfl ⟨⟨trivial, trivial⟩, trivial⟩ ?_
                        try simp (disch := omega) only [c3, c2, n12, rS, rI_mul, nI_add, nI_1, nI_clamp, c219, pr_16_219, pr_8_12, pr_i_0, pr_i_1, pr_i_2, pr_i_3]
                        exact pr_irM rfl (by first | rfl | (simp (disch := omega) only [c3, c2, n12, rS, rI_mul, nI_add, nI_1, nI_clamp, c219, pr_16_219, pr_8_12, pr_i_0, pr_i_1, pr_i_2, pr_i_3]; done) | (simp [pr_b, pr_16_219, pr_8_12, pr_i_0, pr_i_1, pr_i_2, pr_i_3, *]; done) | (simp_all [pr_b, pr_16_219, pr_8_12, pr_i_0, pr_i_1, pr_i_2, pr_i_3]; done)) trivial (by rfl)
      · rw [a_w_n k3 (fun q => l12 q.2)]
        have z3 : nI l ≤ nI 12 := nI_le (by omega) (by decide)
        by_cases la : d.2.2.1 = 1
        · rw [if_neg (by omega)]
          have z4 : nI d.2.2.1 = 1 := by rw [la]; rfl
          have e : nI (d.1 l) * nI (i + 1) = nI ((i + 1) * d.1 l) := by rw [rI_mul, Nat.mul_comm]
          refine pr_seq (pc' := 2) 2 rfl ⟨⟨trivial, trivial⟩, trivial⟩ ?_
          try simp (disch := omega) only [c3, c2, n12, g3, rS, rI_mul, nI_add, nI_1, nI_clamp, c219, pr_16_219, pr_8_12, pr_i_0, pr_i_1, pr_i_2, pr_i_3]
          refine pr_ic rfl (fun h2 => ?_) (fun h2 => ?_)
          · simp only [ab_cmp, pr_16_219, pr_8_12, pr_i_0, pr_i_1, pr_i_2, pr_i_3] at h2
            exact absurd h2 z
          · simp only [ab_cmp, pr_16_219, pr_8_12, pr_i_0, pr_i_1, pr_i_2, pr_i_3] at h2
            first
            | contradiction
            | exact absurd trivial h2
            | exact absurd h2 (by decide)
            | exact absurd (Classical.not_not.mp h2) (by decide)
            | skip
              refine pr_seq (pc' := 7) 2 rfl ⟨⟨trivial, trivial⟩, trivial⟩ ?_
              try simp (disch := omega) only [c3, c2, n12, g3, rS, rI_mul, nI_add, nI_1, nI_clamp, c219, pr_16_219, pr_8_12, pr_i_0, pr_i_1, pr_i_2, pr_i_3]
              refine pr_ic rfl (fun h7 => ?_) (fun h7 => ?_)
              · simp only [ab_cmp, pr_16_219, pr_8_12, pr_i_0, pr_i_1, pr_i_2, pr_i_3] at h7
                exact absurd z2 h7
              · simp only [ab_cmp, pr_16_219, pr_8_12, pr_i_0, pr_i_1, pr_i_2, pr_i_3] at h7
                first
                | contradiction
                | exact absurd trivial h7
                | exact absurd h7 (by decide)
                | exact absurd (Classical.not_not.mp h7) (by decide)
                | skip
                  refine pr_seq (pc' := 13) 2 rfl ⟨⟨trivial, trivial⟩, trivial⟩ ?_
                  try simp (disch := omega) only [c3, c2, n12, g3, rS, rI_mul, nI_add, nI_1, nI_clamp, c219, pr_16_219, pr_8_12, pr_i_0, pr_i_1, pr_i_2, pr_i_3]
                  refine pr_ic rfl (fun h13 => ?_) (fun h13 => ?_)
                  · simp only [ab_cmp, pr_16_219, pr_8_12, pr_i_0, pr_i_1, pr_i_2, pr_i_3] at h13
                    first
                    | contradiction
                    | exact absurd trivial h13
                    | exact absurd h13 (by decide)
                    | exact absurd (Classical.not_not.mp h13) (by decide)
                    | skip
                      refine pr_seq (pc' := 25) 3 rfl ⟨⟨⟨trivial, trivial⟩, trivial⟩, trivial⟩ ?_
                      try simp (disch := omega) only [c3, c2, n12, g3, rS, rI_mul, nI_add, nI_1, nI_clamp, c219, pr_16_219, pr_8_12, pr_i_0, pr_i_1, pr_i_2, pr_i_3]
                      refine pr_if rfl (fun h25 => ?_) (fun h25 => ?_)
                      · simp only [ab_cmp, pr_16_219, pr_8_12, pr_i_0, pr_i_1, pr_i_2, pr_i_3] at h25
                        first
                        | contradiction
                        | exact absurd trivial h25
                        | exact absurd h25 (by decide)
                        | exact absurd (Classical.not_not.mp h25) (by decide)
                        | skip
                          refine pr_seq (pc' := 34) 2 rfl ⟨⟨trivial, (by first | decide | assumption)⟩, trivial⟩ ?_
                          try simp (disch := omega) only [c3, c2, n12, g3, rS, rI_mul, nI_add, nI_1, nI_clamp, c219, pr_16_219, pr_8_12, pr_i_0, pr_i_1, pr_i_2, pr_i_3]
                          refine pr_cv [_] rfl rfl rfl rfl rfl (Nat.le_of_ble_eq_true rfl) (by first | assumption | decide | (simp (disch := omega) only [c3, c2, n12, g3, rS, rI_mul, nI_add, nI_1, nI_clamp, c219, pr_16_219, pr_8_12, pr_i_0, pr_i_1, pr_i_2, pr_i_3]; first | assumption | exact ⟨Or.inl (by assumption), rvin (by assumption) (by omega) (by decide)⟩ | exact ⟨by assumption, rvin (by assumption) (by omega) (by decide)⟩ | exact ⟨⟨by omega, by omega⟩, rvin (by assumption) (by omega) (by decide)⟩ | exact ⟨Or.inl (by assumption), by assumption⟩ | exact ⟨Or.inr (by assumption), by assumption⟩ | exact ⟨by assumption, by assumption⟩ | decide | omega)) (Nat.le_of_ble_eq_true rfl) (hw) ?_
                          refine pr_seq (pc' := 46) 5 rfl ⟨⟨⟨⟨⟨trivial, (by first | decide | assumption)⟩, (by assumption)⟩, trivial⟩, (by first | assumption | decide | (simp (disch := omega) only [c3, c2, n12, g3, rS, rI_mul, nI_add, nI_1, nI_clamp, c219, pr_16_219, pr_8_12, pr_i_0, pr_i_1, pr_i_2, pr_i_3]; first | assumption | exact ⟨Or.inl (by assumption), rvin (by assumption) (by omega) (by decide)⟩ | exact ⟨by assumption, rvin (by assumption) (by omega) (by decide)⟩ | exact ⟨⟨by omega, by omega⟩, rvin (by assumption) (by omega) (by decide)⟩ | exact ⟨Or.inl (by assumption), by assumption⟩ | exact ⟨Or.inr (by assumption), by assumption⟩ | exact ⟨by assumption, by assumption⟩ | decide | omega))⟩, trivial⟩ ?_
                          try simp (disch := omega) only [c3, c2, n12, g3, rS, rI_mul, nI_add, nI_1, nI_clamp, c219, pr_16_219, pr_8_12, pr_i_0, pr_i_1, pr_i_2, pr_i_3]
                          refine pr_ic rfl (fun h46 => ?_) (fun h46 => ?_)
                          · simp only [ab_cmp, pr_16_219, pr_8_12, pr_i_0, pr_i_1, pr_i_2, pr_i_3] at h46
                            exact absurd z4 h46
                          · simp only [ab_cmp, pr_16_219, pr_8_12, pr_i_0, pr_i_1, pr_i_2, pr_i_3] at h46
                            first
                            | contradiction
                            | exact absurd trivial h46
                            | exact absurd h46 (by decide)
                            | exact absurd (Classical.not_not.mp h46) (by decide)
                            | skip
                              refine pr_seq (pc' := 57) 5 rfl ⟨⟨⟨⟨⟨trivial, trivial⟩, trivial⟩, trivial⟩, trivial⟩, trivial⟩ ?_
                              try simp (disch := omega) only [c3, c2, n12, g3, rS, rI_mul, nI_add, nI_1, nI_clamp, c219, pr_16_219, pr_8_12, pr_i_0, pr_i_1, pr_i_2, pr_i_3]
                              exact pr_irM rfl (by first | rfl | rw [Nat.mul_comm]) trivial (by rfl)
                      · simp only [ab_cmp, pr_16_219, pr_8_12, pr_i_0, pr_i_1, pr_i_2, pr_i_3] at h25
                        first
                        | contradiction
                        | exact absurd trivial h25
                        | exact absurd h25 (by decide)
                        | exact absurd (Classical.not_not.mp h25) (by decide)
                        | skip
                          refine pr_seq (pc' := 57) 2 rfl ⟨⟨trivial, trivial⟩, trivial⟩ ?_
                          try simp (disch := omega) only [c3, c2, n12, g3, rS, rI_mul, nI_add, nI_1, nI_clamp, c219, pr_16_219, pr_8_12, pr_i_0, pr_i_1, pr_i_2, pr_i_3]
                          exact pr_irM rfl (by first | rfl | rw [Nat.mul_comm]) trivial (by rfl)
                  · simp only [ab_cmp, pr_16_219, pr_8_12, pr_i_0, pr_i_1, pr_i_2, pr_i_3] at h13
                    exact absurd z3 h13
        · have l0 : d.2.2.1 = 0 := by omega
          rw [if_pos l0, Nat.one_mul]
          have z4 : ¬ nI d.2.2.1 = 1 := by rw [l0]; decide
          have e : nI (d.1 l) * 1 = nI (d.1 l) := Int32.mul_one _
          refine pr_seq (pc' := 2) 2 rfl ⟨⟨trivial, trivial⟩, trivial⟩ ?_
          try simp (disch := omega) only [c3, c2, n12, g3, e, rS, rI_mul, nI_add, nI_1, nI_clamp, c219, pr_16_219, pr_8_12, pr_i_0, pr_i_1, pr_i_2, pr_i_3]
          refine pr_ic rfl (fun h2 => ?_) (fun h2 => ?_)
          · simp only [ab_cmp, pr_16_219, pr_8_12, pr_i_0, pr_i_1, pr_i_2, pr_i_3] at h2
            exact absurd h2 z
          · simp only [ab_cmp, pr_16_219, pr_8_12, pr_i_0, pr_i_1, pr_i_2, pr_i_3] at h2
            first
            | contradiction
            | exact absurd trivial h2
            | exact absurd h2 (by decide)
            | exact absurd (Classical.not_not.mp h2) (by decide)
            | skip
              refine pr_seq (pc' := 7) 2 rfl ⟨⟨trivial, trivial⟩, trivial⟩ ?_
              try simp (disch := omega) only [c3, c2, n12, g3, e, rS, rI_mul, nI_add, nI_1, nI_clamp, c219, pr_16_219, pr_8_12, pr_i_0, pr_i_1, pr_i_2, pr_i_3]
              refine pr_ic rfl (fun h7 => ?_) (fun h7 => ?_)
              · simp only [ab_cmp, pr_16_219, pr_8_12, pr_i_0, pr_i_1, pr_i_2, pr_i_3] at h7
                exact absurd z2 h7
              · simp only [ab_cmp, pr_16_219, pr_8_12, pr_i_0, pr_i_1, pr_i_2, pr_i_3] at h7
                first
                | contradiction
                | exact absurd trivial h7
                | exact absurd h7 (by decide)
                | exact absurd (Classical.not_not.mp h7) (by decide)
                | skip
                  refine pr_seq (pc' := 13) 2 rfl ⟨⟨trivial, trivial⟩, trivial⟩ ?_
                  try simp (disch := omega) only [c3, c2, n12, g3, e, rS, rI_mul, nI_add, nI_1, nI_clamp, c219, pr_16_219, pr_8_12, pr_i_0, pr_i_1, pr_i_2, pr_i_3]
                  refine pr_ic rfl (fun h13 => ?_) (fun h13 => ?_)
                  · simp only [ab_cmp, pr_16_219, pr_8_12, pr_i_0, pr_i_1, pr_i_2, pr_i_3] at h13
                    first
                    | contradiction
                    | exact absurd trivial h13
                    | exact absurd h13 (by decide)
                    | exact absurd (Classical.not_not.mp h13) (by decide)
                    | skip
                      refine pr_seq (pc' := 25) 3 rfl ⟨⟨⟨trivial, trivial⟩, trivial⟩, trivial⟩ ?_
                      try simp (disch := omega) only [c3, c2, n12, g3, e, rS, rI_mul, nI_add, nI_1, nI_clamp, c219, pr_16_219, pr_8_12, pr_i_0, pr_i_1, pr_i_2, pr_i_3]
                      refine pr_if rfl (fun h25 => ?_) (fun h25 => ?_)
                      · simp only [ab_cmp, pr_16_219, pr_8_12, pr_i_0, pr_i_1, pr_i_2, pr_i_3] at h25
                        first
                        | contradiction
                        | exact absurd trivial h25
                        | exact absurd h25 (by decide)
                        | exact absurd (Classical.not_not.mp h25) (by decide)
                        | skip
                          refine pr_seq (pc' := 34) 2 rfl ⟨⟨trivial, (by first | decide | assumption)⟩, trivial⟩ ?_
                          try simp (disch := omega) only [c3, c2, n12, g3, e, rS, rI_mul, nI_add, nI_1, nI_clamp, c219, pr_16_219, pr_8_12, pr_i_0, pr_i_1, pr_i_2, pr_i_3]
                          refine pr_cv [_] rfl rfl rfl rfl rfl (Nat.le_of_ble_eq_true rfl) (by first | assumption | decide | (simp (disch := omega) only [c3, c2, n12, g3, e, rS, rI_mul, nI_add, nI_1, nI_clamp, c219, pr_16_219, pr_8_12, pr_i_0, pr_i_1, pr_i_2, pr_i_3]; first | assumption | exact ⟨Or.inl (by assumption), rvin (by assumption) (by omega) (by decide)⟩ | exact ⟨by assumption, rvin (by assumption) (by omega) (by decide)⟩ | exact ⟨⟨by omega, by omega⟩, rvin (by assumption) (by omega) (by decide)⟩ | exact ⟨Or.inl (by assumption), by assumption⟩ | exact ⟨Or.inr (by assumption), by assumption⟩ | exact ⟨by assumption, by assumption⟩ | decide | omega)) (Nat.le_of_ble_eq_true rfl) (hw) ?_
                          refine pr_seq (pc' := 46) 5 rfl ⟨⟨⟨⟨⟨trivial, (by first | decide | assumption)⟩, (by assumption)⟩, trivial⟩, (by first | assumption | decide | (simp (disch := omega) only [c3, c2, n12, g3, e, rS, rI_mul, nI_add, nI_1, nI_clamp, c219, pr_16_219, pr_8_12, pr_i_0, pr_i_1, pr_i_2, pr_i_3]; first | assumption | exact ⟨Or.inl (by assumption), rvin (by assumption) (by omega) (by decide)⟩ | exact ⟨by assumption, rvin (by assumption) (by omega) (by decide)⟩ | exact ⟨⟨by omega, by omega⟩, rvin (by assumption) (by omega) (by decide)⟩ | exact ⟨Or.inl (by assumption), by assumption⟩ | exact ⟨Or.inr (by assumption), by assumption⟩ | exact ⟨by assumption, by assumption⟩ | decide | omega))⟩, trivial⟩ ?_
                          try simp (disch := omega) only [c3, c2, n12, g3, e, rS, rI_mul, nI_add, nI_1, nI_clamp, c219, pr_16_219, pr_8_12, pr_i_0, pr_i_1, pr_i_2, pr_i_3]
                          refine pr_ic rfl (fun h46 => ?_) (fun h46 => ?_)
                          · simp only [ab_cmp, pr_16_219, pr_8_12, pr_i_0, pr_i_1, pr_i_2, pr_i_3] at h46
                            first
                            | contradiction
                            | exact absurd trivial h46
                            | exact absurd h46 (by decide)
                            | exact absurd (Classical.not_not.mp h46) (by decide)
                            | skip
                              refine pr_seq (pc' := 57) 2 rfl ⟨⟨trivial, trivial⟩, trivial⟩ ?_
                              try simp (disch := omega) only [c3, c2, n12, g3, e, rS, rI_mul, nI_add, nI_1, nI_clamp, c219, pr_16_219, pr_8_12, pr_i_0, pr_i_1, pr_i_2, pr_i_3]
                              exact pr_irM rfl (by first | rfl | (simp (disch := omega) only [c3, c2, n12, g3, e, rS, rI_mul, nI_add, nI_1, nI_clamp, c219, pr_16_219, pr_8_12, pr_i_0, pr_i_1, pr_i_2, pr_i_3]; done) | (simp [pr_b, pr_16_219, pr_8_12, pr_i_0, pr_i_1, pr_i_2, pr_i_3, *]; done) | (simp_all [pr_b, pr_16_219, pr_8_12, pr_i_0, pr_i_1, pr_i_2, pr_i_3]; done)) trivial (by rfl)
                          · simp only [ab_cmp, pr_16_219, pr_8_12, pr_i_0, pr_i_1, pr_i_2, pr_i_3] at h46
                            exact absurd (Classical.not_not.mp h46) z4
                      · simp only [ab_cmp, pr_16_219, pr_8_12, pr_i_0, pr_i_1, pr_i_2, pr_i_3] at h25
                        first
                        | contradiction
                        | exact absurd trivial h25
                        | exact absurd h25 (by decide)
                        | exact absurd (Classical.not_not.mp h25) (by decide)
                        | skip
                          refine pr_seq (pc' := 57) 2 rfl ⟨⟨trivial, trivial⟩, trivial⟩ ?_
                          try simp (disch := omega) only [c3, c2, n12, g3, e, rS, rI_mul, nI_add, nI_1, nI_clamp, c219, pr_16_219, pr_8_12, pr_i_0, pr_i_1, pr_i_2, pr_i_3]
                          exact pr_irM rfl (by first | rfl | (simp (disch := omega) only [c3, c2, n12, g3, e, rS, rI_mul, nI_add, nI_1, nI_clamp, c219, pr_16_219, pr_8_12, pr_i_0, pr_i_1, pr_i_2, pr_i_3]; done) | (simp [pr_b, pr_16_219, pr_8_12, pr_i_0, pr_i_1, pr_i_2, pr_i_3, *]; done) | (simp_all [pr_b, pr_16_219, pr_8_12, pr_i_0, pr_i_1, pr_i_2, pr_i_3]; done)) trivial (by rfl)
                  · simp only [ab_cmp, pr_16_219, pr_8_12, pr_i_0, pr_i_1, pr_i_2, pr_i_3] at h13
                    exact absurd z3 h13
    · have z2 : ¬ nI kind = nI 2 := nI_ne k2 (by omega) (by decide)
      rw [a_w_n k3 (fun q => k2 q.1)]
      by_cases la : d.2.2.1 = 1
      · rw [if_neg (by omega)]
        have z4 : nI d.2.2.1 = 1 := by rw [la]; rfl
        refine pr_seq (pc' := 2) 2 rfl ⟨⟨trivial, trivial⟩, trivial⟩ ?_
        try simp (disch := omega) only [c3, c2, n12, g3, rS, rI_mul, nI_add, nI_1, nI_clamp, c219, pr_16_219, pr_8_12, pr_i_0, pr_i_1, pr_i_2, pr_i_3]
        refine pr_ic rfl (fun h2 => ?_) (fun h2 => ?_)
        · simp only [ab_cmp, pr_16_219, pr_8_12, pr_i_0, pr_i_1, pr_i_2, pr_i_3] at h2
          exact absurd h2 z
        · simp only [ab_cmp, pr_16_219, pr_8_12, pr_i_0, pr_i_1, pr_i_2, pr_i_3] at h2
          first
          | contradiction
          | exact absurd trivial h2
          | exact absurd h2 (by decide)
          | exact absurd (Classical.not_not.mp h2) (by decide)
          | skip
            refine pr_seq (pc' := 7) 2 rfl ⟨⟨trivial, trivial⟩, trivial⟩ ?_
            try simp (disch := omega) only [c3, c2, n12, g3, rS, rI_mul, nI_add, nI_1, nI_clamp, c219, pr_16_219, pr_8_12, pr_i_0, pr_i_1, pr_i_2, pr_i_3]
            refine pr_ic rfl (fun h7 => ?_) (fun h7 => ?_)
            · simp only [ab_cmp, pr_16_219, pr_8_12, pr_i_0, pr_i_1, pr_i_2, pr_i_3] at h7
              first
              | contradiction
              | exact absurd trivial h7
              | exact absurd h7 (by decide)
              | exact absurd (Classical.not_not.mp h7) (by decide)
              | skip
                refine pr_seq (pc' := 25) 3 rfl ⟨⟨⟨trivial, trivial⟩, trivial⟩, trivial⟩ ?_
                try simp (disch := omega) only [c3, c2, n12, g3, rS, rI_mul, nI_add, nI_1, nI_clamp, c219, pr_16_219, pr_8_12, pr_i_0, pr_i_1, pr_i_2, pr_i_3]
                refine pr_if rfl (fun h25 => ?_) (fun h25 => ?_)
                · simp only [ab_cmp, pr_16_219, pr_8_12, pr_i_0, pr_i_1, pr_i_2, pr_i_3] at h25
                  first
                  | contradiction
                  | exact absurd trivial h25
                  | exact absurd h25 (by decide)
                  | exact absurd (Classical.not_not.mp h25) (by decide)
                  | skip
                    refine pr_seq (pc' := 34) 2 rfl ⟨⟨trivial, (by first | decide | assumption)⟩, trivial⟩ ?_
                    try simp (disch := omega) only [c3, c2, n12, g3, rS, rI_mul, nI_add, nI_1, nI_clamp, c219, pr_16_219, pr_8_12, pr_i_0, pr_i_1, pr_i_2, pr_i_3]
                    refine pr_cv [_] rfl rfl rfl rfl rfl (Nat.le_of_ble_eq_true rfl) (by first | assumption | decide | (simp (disch := omega) only [c3, c2, n12, g3, rS, rI_mul, nI_add, nI_1, nI_clamp, c219, pr_16_219, pr_8_12, pr_i_0, pr_i_1, pr_i_2, pr_i_3]; first | assumption | exact ⟨Or.inl (by assumption), rvin (by assumption) (by omega) (by decide)⟩ | exact ⟨by assumption, rvin (by assumption) (by omega) (by decide)⟩ | exact ⟨⟨by omega, by omega⟩, rvin (by assumption) (by omega) (by decide)⟩ | exact ⟨Or.inl (by assumption), by assumption⟩ | exact ⟨Or.inr (by assumption), by assumption⟩ | exact ⟨by assumption, by assumption⟩ | decide | omega)) (Nat.le_of_ble_eq_true rfl) (hw) ?_
                    refine pr_seq (pc' := 46) 5 rfl ⟨⟨⟨⟨⟨trivial, (by first | decide | assumption)⟩, (by assumption)⟩, trivial⟩, (by first | assumption | decide | (simp (disch := omega) only [c3, c2, n12, g3, rS, rI_mul, nI_add, nI_1, nI_clamp, c219, pr_16_219, pr_8_12, pr_i_0, pr_i_1, pr_i_2, pr_i_3]; first | assumption | exact ⟨Or.inl (by assumption), rvin (by assumption) (by omega) (by decide)⟩ | exact ⟨by assumption, rvin (by assumption) (by omega) (by decide)⟩ | exact ⟨⟨by omega, by omega⟩, rvin (by assumption) (by omega) (by decide)⟩ | exact ⟨Or.inl (by assumption), by assumption⟩ | exact ⟨Or.inr (by assumption), by assumption⟩ | exact ⟨by assumption, by assumption⟩ | decide | omega))⟩, trivial⟩ ?_
                    try simp (disch := omega) only [c3, c2, n12, g3, rS, rI_mul, nI_add, nI_1, nI_clamp, c219, pr_16_219, pr_8_12, pr_i_0, pr_i_1, pr_i_2, pr_i_3]
                    refine pr_ic rfl (fun h46 => ?_) (fun h46 => ?_)
                    · simp only [ab_cmp, pr_16_219, pr_8_12, pr_i_0, pr_i_1, pr_i_2, pr_i_3] at h46
                      exact absurd z4 h46
                    · simp only [ab_cmp, pr_16_219, pr_8_12, pr_i_0, pr_i_1, pr_i_2, pr_i_3] at h46
                      first
                      | contradiction
                      | exact absurd trivial h46
                      | exact absurd h46 (by decide)
                      | exact absurd (Classical.not_not.mp h46) (by decide)
                      | skip
                        refine pr_seq (pc' := 57) 5 rfl ⟨⟨⟨⟨⟨trivial, trivial⟩, trivial⟩, trivial⟩, trivial⟩, trivial⟩ ?_
                        try simp (disch := omega) only [c3, c2, n12, g3, rS, rI_mul, nI_add, nI_1, nI_clamp, c219, pr_16_219, pr_8_12, pr_i_0, pr_i_1, pr_i_2, pr_i_3]
                        exact pr_irM rfl (by first | rfl | rw [Nat.mul_comm]) trivial (by rfl)
                · simp only [ab_cmp, pr_16_219, pr_8_12, pr_i_0, pr_i_1, pr_i_2, pr_i_3] at h25
                  first
                  | contradiction
                  | exact absurd trivial h25
                  | exact absurd h25 (by decide)
                  | exact absurd (Classical.not_not.mp h25) (by decide)
                  | skip
                    refine pr_seq (pc' := 57) 2 rfl ⟨⟨trivial, trivial⟩, trivial⟩ ?_
                    try simp (disch := omega) only [c3, c2, n12, g3, rS, rI_mul, nI_add, nI_1, nI_clamp, c219, pr_16_219, pr_8_12, pr_i_0, pr_i_1, pr_i_2, pr_i_3]
                    exact pr_irM rfl (by first | rfl | rw [Nat.mul_comm]) trivial (by rfl)
            · simp only [ab_cmp, pr_16_219, pr_8_12, pr_i_0, pr_i_1, pr_i_2, pr_i_3] at h7
              exact absurd (Classical.not_not.mp h7) z2
      · have l0 : d.2.2.1 = 0 := by omega
        rw [if_pos l0, Nat.one_mul]
        have z4 : ¬ nI d.2.2.1 = 1 := by rw [l0]; decide
        have e : nI (d.1 l) * 1 = nI (d.1 l) := Int32.mul_one _
        refine pr_seq (pc' := 2) 2 rfl ⟨⟨trivial, trivial⟩, trivial⟩ ?_
        try simp (disch := omega) only [c3, c2, n12, g3, e, rS, rI_mul, nI_add, nI_1, nI_clamp, c219, pr_16_219, pr_8_12, pr_i_0, pr_i_1, pr_i_2, pr_i_3]
        refine pr_ic rfl (fun h2 => ?_) (fun h2 => ?_)
        · simp only [ab_cmp, pr_16_219, pr_8_12, pr_i_0, pr_i_1, pr_i_2, pr_i_3] at h2
          exact absurd h2 z
        · simp only [ab_cmp, pr_16_219, pr_8_12, pr_i_0, pr_i_1, pr_i_2, pr_i_3] at h2
          first
          | contradiction
          | exact absurd trivial h2
          | exact absurd h2 (by decide)
          | exact absurd (Classical.not_not.mp h2) (by decide)
          | skip
            refine pr_seq (pc' := 7) 2 rfl ⟨⟨trivial, trivial⟩, trivial⟩ ?_
            try simp (disch := omega) only [c3, c2, n12, g3, e, rS, rI_mul, nI_add, nI_1, nI_clamp, c219, pr_16_219, pr_8_12, pr_i_0, pr_i_1, pr_i_2, pr_i_3]
            refine pr_ic rfl (fun h7 => ?_) (fun h7 => ?_)
            · simp only [ab_cmp, pr_16_219, pr_8_12, pr_i_0, pr_i_1, pr_i_2, pr_i_3] at h7
              first
              | contradiction
              | exact absurd trivial h7
              | exact absurd h7 (by decide)
              | exact absurd (Classical.not_not.mp h7) (by decide)
              | skip
                refine pr_seq (pc' := 25) 3 rfl ⟨⟨⟨trivial, trivial⟩, trivial⟩, trivial⟩ ?_
                try simp (disch := omega) only [c3, c2, n12, g3, e, rS, rI_mul, nI_add, nI_1, nI_clamp, c219, pr_16_219, pr_8_12, pr_i_0, pr_i_1, pr_i_2, pr_i_3]
                refine pr_if rfl (fun h25 => ?_) (fun h25 => ?_)
                · simp only [ab_cmp, pr_16_219, pr_8_12, pr_i_0, pr_i_1, pr_i_2, pr_i_3] at h25
                  first
                  | contradiction
                  | exact absurd trivial h25
                  | exact absurd h25 (by decide)
                  | exact absurd (Classical.not_not.mp h25) (by decide)
                  | skip
                    refine pr_seq (pc' := 34) 2 rfl ⟨⟨trivial, (by first | decide | assumption)⟩, trivial⟩ ?_
                    try simp (disch := omega) only [c3, c2, n12, g3, e, rS, rI_mul, nI_add, nI_1, nI_clamp, c219, pr_16_219, pr_8_12, pr_i_0, pr_i_1, pr_i_2, pr_i_3]
                    refine pr_cv [_] rfl rfl rfl rfl rfl (Nat.le_of_ble_eq_true rfl) (by first | assumption | decide | (simp (disch := omega) only [c3, c2, n12, g3, e, rS, rI_mul, nI_add, nI_1, nI_clamp, c219, pr_16_219, pr_8_12, pr_i_0, pr_i_1, pr_i_2, pr_i_3]; first | assumption | exact ⟨Or.inl (by assumption), rvin (by assumption) (by omega) (by decide)⟩ | exact ⟨by assumption, rvin (by assumption) (by omega) (by decide)⟩ | exact ⟨⟨by omega, by omega⟩, rvin (by assumption) (by omega) (by decide)⟩ | exact ⟨Or.inl (by assumption), by assumption⟩ | exact ⟨Or.inr (by assumption), by assumption⟩ | exact ⟨by assumption, by assumption⟩ | decide | omega)) (Nat.le_of_ble_eq_true rfl) (hw) ?_
                    refine pr_seq (pc' := 46) 5 rfl ⟨⟨⟨⟨⟨trivial, (by first | decide | assumption)⟩, (by assumption)⟩, trivial⟩, (by first | assumption | decide | (simp (disch := omega) only [c3, c2, n12, g3, e, rS, rI_mul, nI_add, nI_1, nI_clamp, c219, pr_16_219, pr_8_12, pr_i_0, pr_i_1, pr_i_2, pr_i_3]; first | assumption | exact ⟨Or.inl (by assumption), rvin (by assumption) (by omega) (by decide)⟩ | exact ⟨by assumption, rvin (by assumption) (by omega) (by decide)⟩ | exact ⟨⟨by omega, by omega⟩, rvin (by assumption) (by omega) (by decide)⟩ | exact ⟨Or.inl (by assumption), by assumption⟩ | exact ⟨Or.inr (by assumption), by assumption⟩ | exact ⟨by assumption, by assumption⟩ | decide | omega))⟩, trivial⟩ ?_
                    try simp (disch := omega) only [c3, c2, n12, g3, e, rS, rI_mul, nI_add, nI_1, nI_clamp, c219, pr_16_219, pr_8_12, pr_i_0, pr_i_1, pr_i_2, pr_i_3]
                    refine pr_ic rfl (fun h46 => ?_) (fun h46 => ?_)
                    · simp only [ab_cmp, pr_16_219, pr_8_12, pr_i_0, pr_i_1, pr_i_2, pr_i_3] at h46
                      first
                      | contradiction
                      | exact absurd trivial h46
                      | exact absurd h46 (by decide)
                      | exact absurd (Classical.not_not.mp h46) (by decide)
                      | skip
                        refine pr_seq (pc' := 57) 2 rfl ⟨⟨trivial, trivial⟩, trivial⟩ ?_
                        try simp (disch := omega) only [c3, c2, n12, g3, e, rS, rI_mul, nI_add, nI_1, nI_clamp, c219, pr_16_219, pr_8_12, pr_i_0, pr_i_1, pr_i_2, pr_i_3]
                        exact pr_irM rfl (by first | rfl | (simp (disch := omega) only [c3, c2, n12, g3, e, rS, rI_mul, nI_add, nI_1, nI_clamp, c219, pr_16_219, pr_8_12, pr_i_0, pr_i_1, pr_i_2, pr_i_3]; done) | (simp [pr_b, pr_16_219, pr_8_12, pr_i_0, pr_i_1, pr_i_2, pr_i_3, *]; done) | (simp_all [pr_b, pr_16_219, pr_8_12, pr_i_0, pr_i_1, pr_i_2, pr_i_3]; done)) trivial (by rfl)
                    · simp only [ab_cmp, pr_16_219, pr_8_12, pr_i_0, pr_i_1, pr_i_2, pr_i_3] at h46
                      exact absurd (Classical.not_not.mp h46) z4
                · simp only [ab_cmp, pr_16_219, pr_8_12, pr_i_0, pr_i_1, pr_i_2, pr_i_3] at h25
                  first
                  | contradiction
                  | exact absurd trivial h25
                  | exact absurd h25 (by decide)
                  | exact absurd (Classical.not_not.mp h25) (by decide)
                  | skip
                    refine pr_seq (pc' := 57) 2 rfl ⟨⟨trivial, trivial⟩, trivial⟩ ?_
                    try simp (disch := omega) only [c3, c2, n12, g3, e, rS, rI_mul, nI_add, nI_1, nI_clamp, c219, pr_16_219, pr_8_12, pr_i_0, pr_i_1, pr_i_2, pr_i_3]
                    exact pr_irM rfl (by first | rfl | (simp (disch := omega) only [c3, c2, n12, g3, e, rS, rI_mul, nI_add, nI_1, nI_clamp, c219, pr_16_219, pr_8_12, pr_i_0, pr_i_1, pr_i_2, pr_i_3]; done) | (simp [pr_b, pr_16_219, pr_8_12, pr_i_0, pr_i_1, pr_i_2, pr_i_3, *]; done) | (simp_all [pr_b, pr_16_219, pr_8_12, pr_i_0, pr_i_1, pr_i_2, pr_i_3]; done)) trivial (by rfl)
            · simp only [ab_cmp, pr_16_219, pr_8_12, pr_i_0, pr_i_1, pr_i_2, pr_i_3] at h7
              exact absurd (Classical.not_not.mp h7) z2
theorem q_sumOf {d : Ld} {p : Nat} (h : ab_H) (M : ab_M) (hl : rL h M.2.2) (hv : pg_r (M.1 173) d) (hp : p < d.2.1.length) : pr_C pX11_sumOf [.ref 172, .int (nI p)] h M (some (.int (nI (d_S d p)))) h M := by
  obtain ⟨k172, rS, rLs, rKn, rPg, rRl, rRk, rTp, rCu, rLe, rLt, rSm, rIk, rLn, rLg, rCe, ⟨kS, nS⟩, ⟨kLs, nLs⟩, ⟨kKn, nKn⟩, ⟨kPg, nPg⟩, ⟨kRl, nRl⟩, ⟨kRk, nRk⟩, ⟨kTp, nTp⟩, ⟨kCu, nCu⟩, ⟨kLe, nLe⟩, ⟨kLt, nLt⟩, ⟨kSm, nSm⟩, ⟨kIk, nIk⟩, ⟨kLn, nLn⟩, ⟨kLg, nLg⟩, kCe, nCe⟩ := id hl
  obtain ⟨g1, g2, g3, g4, g5, ⟨g6, g6'⟩, g7, g8⟩ := id hv
  obtain ⟨y1, y2, y3, y4, y5, y6, y7, y8, y9⟩ := g8 p hp
  unfold d_S a_sum
  have hlo := q_longOf h M hl hv hp
  have hki := q_kindOf h M hl hv hp
  generalize (d_pn d p).2.2.2 = w at *
  generalize (d_pn d p).1 = kd at *
  have loop : ∀ dd k, k + dd = w.length → pr_E pX11_sumOf 4 [some (.ref 172), some (.int (nI p)), some (.int (nI (a_to (fun i => a_w d.2.2.1 kd (w.getD i 0) i * d.1 (w.getD i 0)) k))), some (.int (nI k))] [] h M (some (.int (nI (a_to (fun i => a_w d.2.2.1 kd (w.getD i 0) i * d.1 (w.getD i 0)) w.length)))) h M := by
    intro dd
    induction dd with
    | zero =>
      intro k hk
      obtain rfl : k = w.length := by omega
      have e1 : nI w.length ≤ nI w.length := nI_le (Nat.le_refl _) (by omega)
      refine pr_seq (pc' := 7) 3 rfl ⟨⟨⟨trivial, trivial⟩, (by first | decide | assumption)⟩, trivial⟩ ?_
      try simp (disch := omega) only [rS, rI_mul, nI_add, nI_1, nI_clamp, c24, pr_8_24, pr_i_0, pr_i_1, pr_i_4]
      refine pr_cv [_] rfl rfl rfl rfl rfl (Nat.le_of_ble_eq_true rfl) (by first | assumption | decide | (simp (disch := omega) only [rS, rI_mul, nI_add, nI_1, nI_clamp, c24, pr_8_24, pr_i_0, pr_i_1, pr_i_4]; first | assumption | exact ⟨Or.inl (by assumption), rvin (by assumption) (by omega) (by decide)⟩ | exact ⟨by assumption, rvin (by assumption) (by omega) (by decide)⟩ | exact ⟨⟨by omega, by omega⟩, rvin (by assumption) (by omega) (by decide)⟩ | exact ⟨Or.inl (by assumption), by assumption⟩ | exact ⟨Or.inr (by assumption), by assumption⟩ | exact ⟨by assumption, by assumption⟩ | decide | omega)) (Nat.le_of_ble_eq_true rfl) (hlo) ?_
      refine pr_ic rfl (fun h10 => ?_) (fun h10 => ?_)
      · simp only [ab_cmp, pr_8_24, pr_i_0, pr_i_1, pr_i_4] at h10
        first
        | contradiction
        | exact absurd trivial h10
        | exact absurd h10 (by decide)
        | exact absurd (Classical.not_not.mp h10) (by decide)
        | skip
          refine pr_seq (pc' := 46) 1 rfl ⟨trivial, trivial⟩ ?_
          try simp (disch := omega) only [rS, rI_mul, nI_add, nI_1, nI_clamp, c24, pr_8_24, pr_i_0, pr_i_1, pr_i_4]
          exact pr_irM rfl (by rfl) trivial (by rfl)
      · simp only [ab_cmp, pr_8_24, pr_i_0, pr_i_1, pr_i_4] at h10
        exact absurd e1 h10
    | succ dd ih =>
      intro k hk
      have e1 : ¬ nI w.length ≤ nI k := nI_ge (by omega) (by omega)
      obtain ⟨e4, e5⟩ := y9 k (by omega)
      have hh := ih (k + 1) (by omega)
      rw [show a_to (fun i => a_w d.2.2.1 kd (w.getD i 0) i * d.1 (w.getD i 0)) (k + 1) = a_to (fun i => a_w d.2.2.1 kd (w.getD i 0) i * d.1 (w.getD i 0)) k + a_w d.2.2.1 kd (w.getD k 0) k * d.1 (w.getD k 0) from rfl] at hh
      refine pr_seq (pc' := 7) 3 rfl ⟨⟨⟨trivial, trivial⟩, (by first | decide | assumption)⟩, trivial⟩ ?_
      try simp (disch := omega) only [c4, e4, rS, rI_mul, nI_add, nI_1, nI_clamp, c24, pr_8_24, pr_i_0, pr_i_1, pr_i_4]
      refine pr_cv [_] rfl rfl rfl rfl rfl (Nat.le_of_ble_eq_true rfl) (by first | assumption | decide | (simp (disch := omega) only [c4, e4, rS, rI_mul, nI_add, nI_1, nI_clamp, c24, pr_8_24, pr_i_0, pr_i_1, pr_i_4]; first | assumption | exact ⟨Or.inl (by assumption), rvin (by assumption) (by omega) (by decide)⟩ | exact ⟨by assumption, rvin (by assumption) (by omega) (by decide)⟩ | exact ⟨⟨by omega, by omega⟩, rvin (by assumption) (by omega) (by decide)⟩ | exact ⟨Or.inl (by assumption), by assumption⟩ | exact ⟨Or.inr (by assumption), by assumption⟩ | exact ⟨by assumption, by assumption⟩ | decide | omega)) (Nat.le_of_ble_eq_true rfl) (hlo) ?_
      refine pr_ic rfl (fun h10 => ?_) (fun h10 => ?_)
      · simp only [ab_cmp, pr_8_24, pr_i_0, pr_i_1, pr_i_4] at h10
        exact absurd h10 e1
      · simp only [ab_cmp, pr_8_24, pr_i_0, pr_i_1, pr_i_4] at h10
        first
        | contradiction
        | exact absurd trivial h10
        | exact absurd h10 (by decide)
        | exact absurd (Classical.not_not.mp h10) (by decide)
        | skip
          refine pr_seq (pc' := 31) 15 rfl ⟨⟨⟨⟨⟨⟨⟨⟨⟨⟨⟨⟨⟨⟨⟨trivial, trivial⟩, (by first | decide | assumption)⟩, (by first | decide | assumption)⟩, (by assumption)⟩, trivial⟩, trivial⟩, trivial⟩, trivial⟩, trivial⟩, trivial⟩, trivial⟩, (by first | assumption | decide | (simp (disch := omega) only [c4, e4, rS, rI_mul, nI_add, nI_1, nI_clamp, c24, pr_8_24, pr_i_0, pr_i_1, pr_i_4]; first | assumption | exact ⟨Or.inl (by assumption), rvin (by assumption) (by omega) (by decide)⟩ | exact ⟨by assumption, rvin (by assumption) (by omega) (by decide)⟩ | exact ⟨⟨by omega, by omega⟩, rvin (by assumption) (by omega) (by decide)⟩ | exact ⟨Or.inl (by assumption), by assumption⟩ | exact ⟨Or.inr (by assumption), by assumption⟩ | exact ⟨by assumption, by assumption⟩ | decide | omega))⟩, trivial⟩, (by first | decide | assumption)⟩, trivial⟩ ?_
          try simp (disch := omega) only [c4, e4, rS, rI_mul, nI_add, nI_1, nI_clamp, c24, pr_8_24, pr_i_0, pr_i_1, pr_i_4]
          refine pr_cv [_] rfl rfl rfl rfl rfl (Nat.le_of_ble_eq_true rfl) (by first | assumption | decide | (simp (disch := omega) only [c4, e4, rS, rI_mul, nI_add, nI_1, nI_clamp, c24, pr_8_24, pr_i_0, pr_i_1, pr_i_4]; first | assumption | exact ⟨Or.inl (by assumption), rvin (by assumption) (by omega) (by decide)⟩ | exact ⟨by assumption, rvin (by assumption) (by omega) (by decide)⟩ | exact ⟨⟨by omega, by omega⟩, rvin (by assumption) (by omega) (by decide)⟩ | exact ⟨Or.inl (by assumption), by assumption⟩ | exact ⟨Or.inr (by assumption), by assumption⟩ | exact ⟨by assumption, by assumption⟩ | decide | omega)) (Nat.le_of_ble_eq_true rfl) (hki) ?_
          refine pr_cv [_, _, _] rfl rfl rfl rfl rfl (Nat.le_of_ble_eq_true rfl) (by first | assumption | decide | (simp (disch := omega) only [c4, e4, rS, rI_mul, nI_add, nI_1, nI_clamp, c24, pr_8_24, pr_i_0, pr_i_1, pr_i_4]; first | assumption | exact ⟨Or.inl (by assumption), rvin (by assumption) (by omega) (by decide)⟩ | exact ⟨by assumption, rvin (by assumption) (by omega) (by decide)⟩ | exact ⟨⟨by omega, by omega⟩, rvin (by assumption) (by omega) (by decide)⟩ | exact ⟨Or.inl (by assumption), by assumption⟩ | exact ⟨Or.inr (by assumption), by assumption⟩ | exact ⟨by assumption, by assumption⟩ | decide | omega)) (Nat.le_of_ble_eq_true rfl) (q_counts h M hl hv e5 (by omega) (by omega)) ?_
          refine pr_seq (pc' := 4) 4 rfl ⟨⟨⟨⟨trivial, trivial⟩, trivial⟩, trivial⟩, trivial⟩ ?_
          try simp (disch := omega) only [c4, e4, rS, rI_mul, nI_add, nI_1, nI_clamp, c24, pr_8_24, pr_i_0, pr_i_1, pr_i_4]
          exact hh
  refine pr_seq (pc' := 4) 4 rfl ⟨⟨⟨⟨trivial, trivial⟩, trivial⟩, trivial⟩, trivial⟩ ?_
  exact loop w.length 0 (by omega)
theorem q_listSum {X : St} {n : Nat} (h : ab_H) (M : ab_M) (hl : rL h M.2.2) (hv : pg_r (M.1 173) X.1.1) (hls : ls_r (M.1 174) X.1.2.1) (h6 : X.1.2.1.length ≤ 6) (hn : n < X.1.2.1.length) : pr_C pX11_listSum [.ref 172, .int (nI n)] h M (some (.int (nI (x_ls X n)))) h M := by
  obtain ⟨k172, rS, rLs, rKn, rPg, rRl, rRk, rTp, rCu, rLe, rLt, rSm, rIk, rLn, rLg, rCe, ⟨kS, nS⟩, ⟨kLs, nLs⟩, ⟨kKn, nKn⟩, ⟨kPg, nPg⟩, ⟨kRl, nRl⟩, ⟨kRk, nRk⟩, ⟨kTp, nTp⟩, ⟨kCu, nCu⟩, ⟨kLe, nLe⟩, ⟨kLt, nLt⟩, ⟨kSm, nSm⟩, ⟨kIk, nIk⟩, ⟨kLn, nLn⟩, ⟨kLg, nLg⟩, kCe, nCe⟩ := id hl
  obtain ⟨g1, g2, g3, g4, g5, ⟨g6, g6'⟩, g7, g8⟩ := id hv
  obtain ⟨y1, y2, y9⟩ := hls n hn
  unfold x_ls a_sum x_ln
  generalize X.1.2.1.getD n [] = w at *
  have loop : ∀ dd k, k + dd = w.length → pr_E pX11_listSum 4 [some (.ref 172), some (.int (nI n)), some (.int (nI (a_to (fun i => a_w X.1.1.2.2.1 0 (w.getD i 0) i * X.1.1.1 (w.getD i 0)) k))), some (.int (nI k))] [] h M (some (.int (nI (a_to (fun i => a_w X.1.1.2.2.1 0 (w.getD i 0) i * X.1.1.1 (w.getD i 0)) w.length)))) h M := by
    intro dd
    induction dd with
    | zero =>
      intro k hk
      obtain rfl : k = w.length := by omega
      have e1 : nI w.length ≤ nI w.length := nI_le (Nat.le_refl _) (by omega)
      refine pr_seq (pc' := 14) 7 rfl ⟨⟨⟨⟨⟨⟨⟨trivial, trivial⟩, (by first | decide | assumption)⟩, (by assumption)⟩, trivial⟩, trivial⟩, trivial⟩, (by first | assumption | decide | (simp (disch := omega) only [y1, rLs, rI_mul, nI_add, nI_1, nI_clamp, c11, pr_8_11, pr_i_0, pr_i_1]; first | assumption | exact ⟨Or.inl (by assumption), rvin (by assumption) (by omega) (by decide)⟩ | exact ⟨by assumption, rvin (by assumption) (by omega) (by decide)⟩ | exact ⟨⟨by omega, by omega⟩, rvin (by assumption) (by omega) (by decide)⟩ | exact ⟨Or.inl (by assumption), by assumption⟩ | exact ⟨Or.inr (by assumption), by assumption⟩ | exact ⟨by assumption, by assumption⟩ | decide | omega))⟩ ?_
      try simp (disch := omega) only [y1, rLs, rI_mul, nI_add, nI_1, nI_clamp, c11, pr_8_11, pr_i_0, pr_i_1]
      refine pr_ic rfl (fun h14 => ?_) (fun h14 => ?_)
      · simp only [ab_cmp, pr_8_11, pr_i_0, pr_i_1] at h14
        first
        | contradiction
        | exact absurd trivial h14
        | exact absurd h14 (by decide)
        | exact absurd (Classical.not_not.mp h14) (by decide)
        | skip
          refine pr_seq (pc' := 46) 1 rfl ⟨trivial, trivial⟩ ?_
          try simp (disch := omega) only [y1, rLs, rI_mul, nI_add, nI_1, nI_clamp, c11, pr_8_11, pr_i_0, pr_i_1]
          exact pr_irM rfl (by rfl) trivial (by rfl)
      · simp only [ab_cmp, pr_8_11, pr_i_0, pr_i_1] at h14
        exact absurd e1 h14
    | succ dd ih =>
      intro k hk
      have e1 : ¬ nI w.length ≤ nI k := nI_ge (by omega) (by omega)
      obtain ⟨e4, e5⟩ := y9 k (by omega)
      have hh := ih (k + 1) (by omega)
      rw [show a_to (fun i => a_w X.1.1.2.2.1 0 (w.getD i 0) i * X.1.1.1 (w.getD i 0)) (k + 1) = a_to (fun i => a_w X.1.1.2.2.1 0 (w.getD i 0) i * X.1.1.1 (w.getD i 0)) k + a_w X.1.1.2.2.1 0 (w.getD k 0) k * X.1.1.1 (w.getD k 0) from rfl] at hh
      refine pr_seq (pc' := 14) 7 rfl ⟨⟨⟨⟨⟨⟨⟨trivial, trivial⟩, (by first | decide | assumption)⟩, (by assumption)⟩, trivial⟩, trivial⟩, trivial⟩, (by first | assumption | decide | (simp (disch := omega) only [y1, e4, rLs, rI_mul, nI_add, nI_1, nI_clamp, c11, pr_8_11, pr_i_0, pr_i_1]; first | assumption | exact ⟨Or.inl (by assumption), rvin (by assumption) (by omega) (by decide)⟩ | exact ⟨by assumption, rvin (by assumption) (by omega) (by decide)⟩ | exact ⟨⟨by omega, by omega⟩, rvin (by assumption) (by omega) (by decide)⟩ | exact ⟨Or.inl (by assumption), by assumption⟩ | exact ⟨Or.inr (by assumption), by assumption⟩ | exact ⟨by assumption, by assumption⟩ | decide | omega))⟩ ?_
      try simp (disch := omega) only [y1, e4, rLs, rI_mul, nI_add, nI_1, nI_clamp, c11, pr_8_11, pr_i_0, pr_i_1]
      refine pr_ic rfl (fun h14 => ?_) (fun h14 => ?_)
      · simp only [ab_cmp, pr_8_11, pr_i_0, pr_i_1] at h14
        exact absurd h14 e1
      · simp only [ab_cmp, pr_8_11, pr_i_0, pr_i_1] at h14
        first
        | contradiction
        | exact absurd trivial h14
        | exact absurd h14 (by decide)
        | exact absurd (Classical.not_not.mp h14) (by decide)
        | skip
          refine pr_seq (pc' := 34) 14 rfl ⟨⟨⟨⟨⟨⟨⟨⟨⟨⟨⟨⟨⟨⟨trivial, trivial⟩, (by first | decide | assumption)⟩, (by first | decide | assumption)⟩, (by assumption)⟩, trivial⟩, trivial⟩, trivial⟩, trivial⟩, trivial⟩, trivial⟩, trivial⟩, (by first | assumption | decide | (simp (disch := omega) only [y1, e4, rLs, rI_mul, nI_add, nI_1, nI_clamp, c11, pr_8_11, pr_i_0, pr_i_1]; first | assumption | exact ⟨Or.inl (by assumption), rvin (by assumption) (by omega) (by decide)⟩ | exact ⟨by assumption, rvin (by assumption) (by omega) (by decide)⟩ | exact ⟨⟨by omega, by omega⟩, rvin (by assumption) (by omega) (by decide)⟩ | exact ⟨Or.inl (by assumption), by assumption⟩ | exact ⟨Or.inr (by assumption), by assumption⟩ | exact ⟨by assumption, by assumption⟩ | decide | omega))⟩, trivial⟩, trivial⟩ ?_
          try simp (disch := omega) only [y1, e4, rLs, rI_mul, nI_add, nI_1, nI_clamp, c11, pr_8_11, pr_i_0, pr_i_1]
          refine pr_cv [_, _, _] rfl rfl rfl rfl rfl (Nat.le_of_ble_eq_true rfl) (by first | assumption | decide | (simp (disch := omega) only [y1, e4, rLs, rI_mul, nI_add, nI_1, nI_clamp, c11, pr_8_11, pr_i_0, pr_i_1]; first | assumption | exact ⟨Or.inl (by assumption), rvin (by assumption) (by omega) (by decide)⟩ | exact ⟨by assumption, rvin (by assumption) (by omega) (by decide)⟩ | exact ⟨⟨by omega, by omega⟩, rvin (by assumption) (by omega) (by decide)⟩ | exact ⟨Or.inl (by assumption), by assumption⟩ | exact ⟨Or.inr (by assumption), by assumption⟩ | exact ⟨by assumption, by assumption⟩ | decide | omega)) (Nat.le_of_ble_eq_true rfl) (q_counts (kind := 0) h M hl hv e5 (by omega) (by omega)) ?_
          refine pr_seq (pc' := 4) 4 rfl ⟨⟨⟨⟨trivial, trivial⟩, trivial⟩, trivial⟩, trivial⟩ ?_
          try simp (disch := omega) only [y1, e4, rLs, rI_mul, nI_add, nI_1, nI_clamp, c11, pr_8_11, pr_i_0, pr_i_1]
          exact hh
  refine pr_seq (pc' := 4) 4 rfl ⟨⟨⟨⟨trivial, trivial⟩, trivial⟩, trivial⟩, trivial⟩ ?_
  exact loop w.length 0 (by omega)
