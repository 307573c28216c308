
/-! ===== the reference: text ===== -/
def f_text (X : St) : Int32 × St := match parse X.2.2.2.1 with
  | .error q => (-10 - nI q.2, (X.1, X.2.1, X.2.2.1, [], q.1, X.2.2.2.2.2))
  | .ok x => (nI x.2, (x.1.1, fun _ => none, X.2.2.1, [], 0, X.2.2.2.2.2))
theorem hN_lt {m : Nat} (hm : m ≤ 1000) : ∀ (K : List (Nat × Nat)) (v : Int32), (∀ i, i < K.length → (K.getD i (0, 0)).1 ≤ 5) → (K.foldl (fun v k => if v < nI k.1 then nI k.1 else v) v < nI m ↔ v < nI m ∧ ∀ i, i < K.length → (K.getD i (0, 0)).1 < m)
  | [], v, _ => ⟨fun z => ⟨z, fun i hi => absurd hi (by show ¬ i < 0; omega)⟩, fun z => z.1⟩
  | k :: K, v, hb => by
    have hk : k.1 ≤ 5 := hb 0 (by show 0 < K.length + 1; omega)
    have ih := hN_lt hm K (if v < nI k.1 then nI k.1 else v) (fun i hi => hb (i + 1) (by show i + 1 < K.length + 1; omega))
    show K.foldl _ (if v < nI k.1 then nI k.1 else v) < nI m ↔ _
    rw [ih]
    have hg : (if v < nI k.1 then nI k.1 else v) < nI m ↔ v < nI m ∧ k.1 < m := by
      by_cases c : v < nI k.1
      · rw [if_pos c, nI_ltI (by omega) (by omega)]
        exact ⟨fun z => ⟨Int32.lt_trans c (nI_lt z (by omega)), z⟩, fun z => z.2⟩
      · rw [if_neg c]
        refine ⟨fun z => ⟨z, ?_⟩, fun z => z.1⟩
        rcases Nat.lt_or_ge k.1 m with y | y
        · exact y
        · exfalso
          have h1 : nI m ≤ nI k.1 := nI_le y (by omega)
          rw [Int32.lt_iff_toInt_lt] at c z
          rw [Int32.le_iff_toInt_le] at h1
          omega
    rw [hg]
    constructor
    · intro ⟨⟨a, b⟩, c⟩
      refine ⟨a, fun i hi => ?_⟩
      cases i with
      | zero => exact b
      | succ i => exact c i (by have : i + 1 < K.length + 1 := hi; omega)
    · intro ⟨a, b⟩
      exact ⟨⟨a, b 0 (by show 0 < K.length + 1; omega)⟩, fun i hi => b (i + 1) (by show i + 1 < K.length + 1; omega)⟩
theorem hN_all {T : Tl} (h6 : T.2.1.length ≤ 6) (hb : ∀ i, i < T.2.2.length → (T.2.2.getD i (0, 0)).1 ≤ 5) : hN T.2.2 < nI T.2.1.length ↔ allL T = true := by
  unfold hN allL
  rw [hN_lt (by omega) T.2.2 (-1) hb, nb_iff]
  constructor
  · intro ⟨_, a⟩ i hi
    rw [decide_eq_true (a i hi)]; rfl
  · intro a
    refine ⟨?_, fun i hi => of_decide_eq_true (b_nf (a i hi))⟩
    rw [Int32.lt_iff_toInt_lt, nI_toInt (by omega)]
    have : (-1 : Int32).toInt = -1 := by decide
    omega
theorem tx_end {w : List Nat} {X : St} {q : Nat × Nat} {I : Nat → Nat → Int32} {z1 z2 : Option Value} (h : ab_H) (M : ab_M) (hl : rL h M.2.2) (hv : rv M.1 X) (hf : lfr M.1 I) (he : rs2 I w (.error q)) (hq : parse X.2.2.2.1 = .error q) : pr_T pX11_text 111 [some (.ref 172), z1, z2] [] h (I, M.2) (rp M (f_text X)) := by
  obtain ⟨k172, rS, rLs, rKn, rPg, rRl, rRk, rTp, rCu, rLe, rLt, rSm, rIk, rLn, rLg, rCe, ⟨kS, nS⟩, ⟨kLs, nLs⟩, ⟨kKn, nKn⟩, ⟨kPg, nPg⟩, ⟨kRl, nRl⟩, ⟨kRk, nRk⟩, ⟨kTp, nTp⟩, ⟨kCu, nCu⟩, ⟨kLe, nLe⟩, ⟨kLt, nLt⟩, ⟨kSm, nSm⟩, ⟨kIk, nIk⟩, ⟨kLn, nLn⟩, ⟨kLg, nLg⟩, kCe, nCe⟩ := id hl
  unfold f_text
  rw [hq]
  dsimp only
  obtain ⟨a1, a2, a3⟩ := he
  have g16 : ab_u I 172 14 0 172 16 = nI q.1 := by rw [ab_u_j (by decide)]; exact a1
  have g16b : ab_u (ab_u I 172 14 0) 172 15 (nI q.1) 172 16 = nI q.1 := by rw [ab_u_j (by decide)]; exact g16
  have g17b : ab_u (ab_u I 172 14 0) 172 15 (nI q.1) 172 17 = nI q.2 := by rw [ab_u_j (by decide), ab_u_j (by decide)]; exact a3
  have en : ¬ nI q.1 ≤ 0 := nI_nle (by omega) (by omega)
  have hr : ∀ a, a ≠ 172 → a ≠ 176 → a ≠ 177 → a ≠ 178 → ab_u (ab_u I 172 14 0) 172 15 (nI q.1) a = M.1 a := fun a b1 b2 b3 b4 => by rw [ab_u_ne b1, ab_u_ne b1]; exact hf.1 a b1 b2 b3 b4
  have hj : ∀ j, (j < 8 ∨ 21 < j) → ab_u (ab_u I 172 14 0) 172 15 (nI q.1) 172 j = M.1 172 j := fun j hj => by rw [ab_u_j (by omega), ab_u_j (by omega)]; exact hf.2 j (by omega)
  have hrv : rv (ab_u (ab_u I 172 14 0) 172 15 (nI q.1)) (X.1, X.2.1, X.2.2.1, [], q.1, X.2.2.2.2.2) := by
    obtain ⟨v1, ⟨v2, v3, v4⟩, ⟨v5, v6, v7⟩, v8, v9, v10, v11, v12, v13⟩ := hv
    have k14 : ab_u (ab_u I 172 14 0) 172 15 (nI q.1) 172 14 = nI 0 := by rw [ab_u_j (by decide), ab_u_at]; rfl
    have k15 : ab_u (ab_u I 172 14 0) 172 15 (nI q.1) 172 15 = nI q.1 := ab_u_at
    generalize ab_u (ab_u I 172 14 0) 172 15 (nI q.1) = N at *
    exact ⟨by rw [hr 173 (by decide) (by decide) (by decide) (by decide)]; exact v1, ⟨by rw [hj 2 (by decide)]; exact v2, v3, by rw [hr 174 (by decide) (by decide) (by decide) (by decide)]; exact v4⟩, ⟨by rw [hj 4 (by decide)]; exact v5, v6, by rw [hr 175 (by decide) (by decide) (by decide) (by decide)]; exact v7⟩, fun k hk => im_cong (by rw [hr 184 (by decide) (by decide) (by decide) (by decide)]) (fun j x1 x2 => by rw [hr 173 (by decide) (by decide) (by decide) (by decide)]) (v8 k hk), fun k hk => sr_cong (hr 185 (by decide) (by decide) (by decide) (by decide)) (hr 186 (by decide) (by decide) (by decide) (by decide)) (hr 187 (by decide) (by decide) (by decide) (by decide)) (v9 k hk), ⟨k14, Nat.zero_le _, fun j hj => absurd hj (by show ¬ j < 0; omega)⟩, k15, by rw [hj 30 (by decide)]; exact v12, cr_cong (hr 180 (by decide) (by decide) (by decide) (by decide)) (hr 181 (by decide) (by decide) (by decide) (by decide)) v13⟩
  refine pr_seqT (pc' := 128) 9 rfl ⟨⟨⟨⟨⟨⟨⟨⟨⟨trivial, (by first | decide | assumption)⟩, trivial⟩, (by first | assumption | exact ⟨by assumption, by decide⟩ | exact ⟨by assumption, pr_b01 _⟩)⟩, (by first | decide | assumption)⟩, (by first | decide | assumption)⟩, (by assumption)⟩, (by first | assumption | exact ⟨by assumption, by decide⟩ | exact ⟨by assumption, pr_b01 _⟩)⟩, (by first | decide | assumption)⟩, (by assumption)⟩ ?_
  try simp (disch := omega) only [g16, g16b, g17b, rPg, rS, rLs, rRl, rKn, rRk, rIk, rI_mul, nI_add, nI_1, nI_clamp, c221, pr_16_221, pr_8_12, pr_8_6, pr_8_66, pr_8_m10, pr_i_0, pr_i_1, pr_i_m1]
  refine pr_ifT rfl (fun h128 => ?_) (fun h128 => ?_)
  · simp only [ab_cmp, pr_16_221, pr_8_12, pr_8_6, pr_8_66, pr_8_m10, pr_i_0, pr_i_1, pr_i_m1] at h128
    exact absurd h128 en
  · simp only [ab_cmp, pr_16_221, pr_8_12, pr_8_6, pr_8_66, pr_8_m10, pr_i_0, pr_i_1, pr_i_m1] at h128
    skip
    refine pr_seqT (pc' := 138) 4 rfl ⟨⟨⟨⟨trivial, trivial⟩, (by first | decide | assumption)⟩, (by assumption)⟩, trivial⟩ ?_
    try simp (disch := omega) only [g16, g16b, g17b, rPg, rS, rLs, rRl, rKn, rRk, rIk, rI_mul, nI_add, nI_1, nI_clamp, c221, pr_16_221, pr_8_12, pr_8_6, pr_8_66, pr_8_m10, pr_i_0, pr_i_1, pr_i_m1]
    exact pr_irT rfl trivial (by exact rp_I hrv (fun a ha => hr a (by omega) (by omega) (by omega) (by omega)))
theorem tx_87e {w : List Nat} {X : St} {q : Nat × Nat} {I : Nat → Nat → Int32} {z1 z2 : Option Value} (h : ab_H) (M : ab_M) (hl : rL h M.2.2) (hv : rv M.1 X) (hf : lfr M.1 I) (he : rs2 I w (.error q)) (hq : parse X.2.2.2.1 = .error q) : pr_T pX11_text 87 [some (.ref 172), z1, z2] [] h (I, M.2) (rp M (f_text X)) := by
  obtain ⟨k172, rS, rLs, rKn, rPg, rRl, rRk, rTp, rCu, rLe, rLt, rSm, rIk, rLn, rLg, rCe, ⟨kS, nS⟩, ⟨kLs, nLs⟩, ⟨kKn, nKn⟩, ⟨kPg, nPg⟩, ⟨kRl, nRl⟩, ⟨kRk, nRk⟩, ⟨kTp, nTp⟩, ⟨kCu, nCu⟩, ⟨kLe, nLe⟩, ⟨kLt, nLt⟩, ⟨kSm, nSm⟩, ⟨kIk, nIk⟩, ⟨kLn, nLn⟩, ⟨kLg, nLg⟩, kCe, nCe⟩ := id hl
  have g := he.1
  have en : ¬ nI q.1 = 0 := nI_ne0 (by have := he.2.1; omega) (by have := he.2.1; omega)
  have h0 := tx_end (z1 := z1) (z2 := z2) h M hl hv hf he hq
  refine pr_seqT (pc' := 91) 2 rfl ⟨⟨trivial, (by first | decide | assumption)⟩, (by assumption)⟩ ?_
  try simp (disch := omega) only [g, rPg, rS, rLs, rRl, rKn, rRk, rIk, rI_mul, nI_add, nI_1, nI_clamp, c221, pr_16_221, pr_8_12, pr_8_6, pr_8_66, pr_8_m10, pr_i_0, pr_i_1, pr_i_m1]
  refine pr_ifT rfl (fun h91 => ?_) (fun h91 => ?_)
  · simp only [ab_cmp, pr_16_221, pr_8_12, pr_8_6, pr_8_66, pr_8_m10, pr_i_0, pr_i_1, pr_i_m1] at h91
    first
    | contradiction
    | exact absurd trivial h91
    | exact absurd h91 (by decide)
    | exact absurd (Classical.not_not.mp h91) (by decide)
    | skip
      exact h0
  · simp only [ab_cmp, pr_16_221, pr_8_12, pr_8_6, pr_8_66, pr_8_m10, pr_i_0, pr_i_1, pr_i_m1] at h91
    exact absurd (Classical.not_not.mp h91) en
/-- the text's land, list and what is known taken over -/
theorem tx_ok {X : St} {x : PS × Nat} {I : Nat → Nat → Int32} {z2 : Option Value} (h : ab_H) (M : ab_M) (hl : rL h M.2.2) (hv : rv M.1 X) (hf : lfr M.1 I) (hp : pv I x.1) (h16 : I 172 16 = 0) (hq : parse X.2.2.2.1 = .ok x) (hall : allL x.1.1 = true) : pr_T pX11_text 111 [some (.ref 172), some (.int (nI x.2)), z2] [] h (I, M.2) (rp M (f_text X)) := by
  obtain ⟨k172, rS, rLs, rKn, rPg, rRl, rRk, rTp, rCu, rLe, rLt, rSm, rIk, rLn, rLg, rCe, ⟨kS, nS⟩, ⟨kLs, nLs⟩, ⟨kKn, nKn⟩, ⟨kPg, nPg⟩, ⟨kRl, nRl⟩, ⟨kRk, nRk⟩, ⟨kTp, nTp⟩, ⟨kCu, nCu⟩, ⟨kLe, nLe⟩, ⟨kLt, nLt⟩, ⟨kSm, nSm⟩, ⟨kIk, nIk⟩, ⟨kLn, nLn⟩, ⟨kLg, nLg⟩, kCe, nCe⟩ := id hl
  have hft : f_text X = (nI x.2, (x.1.1, fun _ => none, X.2.2.1, [], 0, X.2.2.2.2.2)) := by unfold f_text; rw [hq]
  rw [hft]
  have c66 : (66 : Int32) = nI 66 := rfl
  have c12' : (12 : Int32) = nI 12 := rfl
  have n0 : nI 0 = 0 := rfl
  have g16 : ab_u I 172 14 0 172 16 = 0 := by rw [ab_u_j (by decide)]; exact h16
  have g16b : ab_u (ab_u I 172 14 0) 172 15 0 172 16 = 0 := by rw [ab_u_j (by decide)]; exact g16
  have loop : ∀ dd k, k + dd = 221 → ∀ N : Nat → Nat → Int32, (∀ a, a ≠ 173 → a ≠ 174 → a ≠ 175 → N a = ab_u (ab_u I 172 14 0) 172 15 0 a) → (∀ j, j < k → N 173 j = I 176 j) → (∀ j, 221 ≤ j → N 173 j = I 173 j) → (∀ j, j < k → j < 66 → N 174 j = I 177 j) → (∀ j, j < k → j < 12 → N 175 j = I 178 j) → pr_T pX11_text 141 [some (.ref 172), some (.int (nI x.2)), some (.int (nI k))] [] h (N, M.2) (rp M (nI x.2, (x.1.1, fun _ => none, X.2.2.1, [], 0, X.2.2.2.2.2))) := by
    intro dd
    induction dd with
    | zero =>
      intro k hk N m1 m2 m3 m4 m5
      obtain rfl : k = 221 := by omega
      have e1 : nI 221 ≤ nI 221 := nI_le (Nat.le_refl _) (by decide)
      obtain ⟨p1, ⟨p2, p3, p4⟩, ⟨p5, p6, p7⟩, -⟩ := hp
      have q172 : N 172 = ab_u (ab_u I 172 14 0) 172 15 0 172 := m1 172 (by decide) (by decide) (by decide)
      have q8 : N 172 8 = nI x.1.1.2.1.length := by rw [q172, ab_u_j (by decide), ab_u_j (by decide)]; exact p2
      have q9 : ab_u N 172 2 (nI x.1.1.2.1.length) 172 9 = nI x.1.1.2.2.length := by rw [ab_u_j (by decide), q172, ab_u_j (by decide), ab_u_j (by decide)]; exact p5
      have b0 : (0 : Int32).toInt8.toInt32 = 0 := by decide
      have n00 : (0 : Int32).toNatClampNeg = 0 := rfl
      have n11 : (1 : Int32).toNatClampNeg = 1 := rfl
      have hrv : rv (ab_u (ab_u (ab_u (ab_u N 172 2 (nI x.1.1.2.1.length)) 172 4 (nI x.1.1.2.2.length)) 184 0 0) 184 1 0) (x.1.1, fun _ => none, X.2.2.1, [], 0, X.2.2.2.2.2) := by
        obtain ⟨v1, -, -, -, v9, v10, v11, v12, v13⟩ := hv
        have r : ∀ a, a ≠ 172 → a ≠ 184 → ab_u (ab_u (ab_u (ab_u N 172 2 (nI x.1.1.2.1.length)) 172 4 (nI x.1.1.2.2.length)) 184 0 0) 184 1 0 a = N a := fun a a1 a2 => by rw [ab_u_ne a2, ab_u_ne a2, ab_u_ne a1, ab_u_ne a1]
        have rM : ∀ a, 179 ≤ a → a ≠ 184 → ab_u (ab_u (ab_u (ab_u N 172 2 (nI x.1.1.2.1.length)) 172 4 (nI x.1.1.2.2.length)) 184 0 0) 184 1 0 a = M.1 a := fun a a1 a2 => by rw [r a (by omega) a2, m1 a (by omega) (by omega) (by omega), ab_u_ne (by omega), ab_u_ne (by omega)]; exact hf.1 a (by omega) (by omega) (by omega) (by omega)
        have s172 : ∀ j, ab_u (ab_u (ab_u (ab_u N 172 2 (nI x.1.1.2.1.length)) 172 4 (nI x.1.1.2.2.length)) 184 0 0) 184 1 0 172 j = ab_u (ab_u N 172 2 (nI x.1.1.2.1.length)) 172 4 (nI x.1.1.2.2.length) 172 j := fun j => by rw [ab_u_ne (by decide), ab_u_ne (by decide)]
        refine ⟨by rw [r 173 (by decide) (by decide)]; exact pg_cong (fun j hj => m2 j hj) p1, ⟨by rw [s172, ab_u_j (by decide), ab_u_at], p3, ?_⟩, ⟨by rw [s172, ab_u_at], p6, ?_⟩, fun k hk => ?_, fun k hk => sr_cong (rM 185 (by decide) (by decide)) (rM 186 (by decide) (by decide)) (rM 187 (by decide) (by decide)) (v9 k hk), ⟨by rw [s172, ab_u_j (by decide), ab_u_j (by decide), q172, ab_u_j (by decide), ab_u_at]; rfl, Nat.zero_le _, fun j hj => absurd hj (by show ¬ j < 0; omega)⟩, by rw [s172, ab_u_j (by decide), ab_u_j (by decide), q172, ab_u_at]; rfl, by rw [s172, ab_u_j (by decide), ab_u_j (by decide), q172, ab_u_j (by decide), ab_u_j (by decide), hf.2 30 (by decide)]; exact v12, cr_cong (rM 180 (by decide) (by decide)) (rM 181 (by decide) (by decide)) v13⟩
        · intro n hn
          rw [r 174 (by decide) (by decide)]
          have hn : n < x.1.1.2.1.length := hn
          obtain ⟨u1, u2, u3⟩ := p4 n hn
          exact ⟨by rw [m4 _ (by omega) (by omega)]; exact u1, u2, fun j hj => by have hj : j < (x.1.1.2.1.getD n []).length := hj; rw [m4 _ (by omega) (by omega)]; exact u3 j hj⟩
        · intro i hi
          rw [r 175 (by decide) (by decide)]
          have hi : i < x.1.1.2.2.length := hi
          obtain ⟨u1, u2, u3, u4⟩ := p7 i hi
          have := (nb_iff _ _).mp hall i hi
          exact ⟨by rw [m5 _ (by omega) (by omega)]; exact u1, by rw [m5 _ (by omega) (by omega)]; exact u2, of_decide_eq_true (b_nf this), u4⟩
        · show ab_u (ab_u (ab_u (ab_u N 172 2 (nI x.1.1.2.1.length)) 172 4 (nI x.1.1.2.2.length)) 184 0 0) 184 1 0 184 k = 0
          rcases (show k = 0 ∨ k = 1 by omega) with rfl | rfl
          · rw [ab_u_j (by decide), ab_u_at]
          · rw [ab_u_at]
      refine pr_seqT (pc' := 145) 2 rfl ⟨⟨trivial, trivial⟩, trivial⟩ ?_
      try simp (disch := omega) only [q8, q9, b0, n00, n11, rPg, rS, rLs, rRl, rKn, rRk, rIk, rI_mul, nI_add, nI_1, nI_clamp, c221, pr_16_221, pr_8_12, pr_8_6, pr_8_66, pr_8_m10, pr_i_0, pr_i_1, pr_i_m1]
      refine pr_icT rfl (fun h145 => ?_) (fun h145 => ?_)
      · simp only [ab_cmp, pr_16_221, pr_8_12, pr_8_6, pr_8_66, pr_8_m10, pr_i_0, pr_i_1, pr_i_m1] at h145
        first
        | contradiction
        | exact absurd trivial h145
        | exact absurd h145 (by decide)
        | exact absurd (Classical.not_not.mp h145) (by decide)
        | skip
          refine pr_seqT (pc' := 233) 19 rfl ⟨⟨⟨⟨⟨⟨⟨⟨⟨⟨⟨⟨⟨⟨⟨⟨⟨⟨⟨trivial, (by first | decide | assumption)⟩, (by first | decide | assumption)⟩, (by assumption)⟩, (by first | assumption | exact ⟨by assumption, by decide⟩ | exact ⟨by assumption, pr_b01 _⟩)⟩, (by first | decide | assumption)⟩, (by first | decide | assumption)⟩, (by assumption)⟩, (by first | assumption | exact ⟨by assumption, by decide⟩ | exact ⟨by assumption, pr_b01 _⟩)⟩, (by first | decide | assumption)⟩, (by assumption)⟩, trivial⟩, trivial⟩, (by exact ⟨Or.inr ⟨(by simp only [rIk]; exact kIk), Or.inl rfl⟩, (by simp only [rIk, pr_i_0]; exact rvin (k := 0) nIk (by decide) (by decide))⟩)⟩, (by first | decide | assumption)⟩, (by assumption)⟩, trivial⟩, trivial⟩, (by exact ⟨Or.inr ⟨(by simp only [rIk]; exact kIk), Or.inl rfl⟩, (by simp only [rIk, pr_i_1]; exact rvin (k := 1) nIk (by decide) (by decide))⟩)⟩, trivial⟩ ?_
          try simp (disch := omega) only [q8, q9, b0, n00, n11, rPg, rS, rLs, rRl, rKn, rRk, rIk, rI_mul, nI_add, nI_1, nI_clamp, c221, pr_16_221, pr_8_12, pr_8_6, pr_8_66, pr_8_m10, pr_i_0, pr_i_1, pr_i_m1]
          exact pr_irT rfl trivial (by exact rp_I hrv (fun a ha => by rw [ab_u_ne (by omega), ab_u_ne (by omega), ab_u_ne (by omega), ab_u_ne (by omega), m1 a (by omega) (by omega) (by omega), ab_u_ne (by omega), ab_u_ne (by omega)]; exact hf.1 a (by omega) (by omega) (by omega) (by omega)))
      · simp only [ab_cmp, pr_16_221, pr_8_12, pr_8_6, pr_8_66, pr_8_m10, pr_i_0, pr_i_1, pr_i_m1] at h145
        exact absurd e1 h145
    | succ dd ih =>
      intro k hk N m1 m2 m3 m4 m5
      have e1 : ¬ nI 221 ≤ nI k := nI_ge (by omega) (by decide)
      have d1 : k - k / 66 * 66 = k % 66 := by omega
      have d2 : k - k / 12 * 12 = k % 12 := by omega
      have r66 : k % 66 < 66 := by omega
      have r12 : k % 12 < 12 := by omega
      have y1 : N 176 k = I 176 k := by rw [m1 176 (by decide) (by decide) (by decide), ab_u_ne (by decide), ab_u_ne (by decide)]
      have y2 : ab_u N 173 k (I 176 k) 177 (k % 66) = I 177 (k % 66) := by rw [ab_u_ne (by decide), m1 177 (by decide) (by decide) (by decide), ab_u_ne (by decide), ab_u_ne (by decide)]
      have y3 : ab_u (ab_u N 173 k (I 176 k)) 174 (k % 66) (I 177 (k % 66)) 178 (k % 12) = I 178 (k % 12) := by rw [ab_u_ne (by decide), ab_u_ne (by decide), m1 178 (by decide) (by decide) (by decide), ab_u_ne (by decide), ab_u_ne (by decide)]
      have hh := ih (k + 1) (by omega) (ab_u (ab_u (ab_u N 173 k (I 176 k)) 174 (k % 66) (I 177 (k % 66))) 175 (k % 12) (I 178 (k % 12))) (fun a a1 a2 a3 => by rw [ab_u_ne a3, ab_u_ne a2, ab_u_ne a1]; exact m1 a a1 a2 a3) (fun j hj => by
        rw [ab_u_ne (by decide), ab_u_ne (by decide)]
        by_cases e : j = k
        · rw [e, ab_u_at]
        · rw [ab_u_j e]; exact m2 j (by omega)) (fun j hj => by rw [ab_u_ne (by decide), ab_u_ne (by decide), ab_u_j (by omega)]; exact m3 j hj) (fun j hj hj2 => by
        rw [ab_u_ne (by decide)]
        by_cases e : j = k % 66
        · rw [e, ab_u_at]
        · rw [ab_u_j e, ab_u_ne (by decide)]; exact m4 j (by omega) hj2) (fun j hj hj2 => by
        by_cases e : j = k % 12
        · rw [e, ab_u_at]
        · rw [ab_u_j e, ab_u_ne (by decide), ab_u_ne (by decide)]; exact m5 j (by omega) hj2)
      refine pr_seqT (pc' := 145) 2 rfl ⟨⟨trivial, trivial⟩, trivial⟩ ?_
      try simp (disch := omega) only [c66, c12', nI_div, i_sub, d1, d2, y1, y2, y3, rPg, rS, rLs, rRl, rKn, rRk, rIk, rI_mul, nI_add, nI_1, nI_clamp, c221, pr_16_221, pr_8_12, pr_8_6, pr_8_66, pr_8_m10, pr_i_0, pr_i_1, pr_i_m1]
      refine pr_icT rfl (fun h145 => ?_) (fun h145 => ?_)
      · simp only [ab_cmp, pr_16_221, pr_8_12, pr_8_6, pr_8_66, pr_8_m10, pr_i_0, pr_i_1, pr_i_m1] at h145
        exact absurd h145 e1
      · simp only [ab_cmp, pr_16_221, pr_8_12, pr_8_6, pr_8_66, pr_8_m10, pr_i_0, pr_i_1, pr_i_m1] at h145
        first
        | contradiction
        | exact absurd trivial h145
        | exact absurd h145 (by decide)
        | exact absurd (Classical.not_not.mp h145) (by decide)
        | skip
          refine pr_seqT (pc' := 141) 34 rfl ⟨⟨⟨⟨⟨⟨⟨⟨⟨⟨⟨⟨⟨⟨⟨⟨⟨⟨⟨⟨⟨⟨⟨⟨⟨⟨⟨⟨⟨⟨⟨⟨⟨⟨trivial, (by first | decide | assumption)⟩, (by assumption)⟩, trivial⟩, (by first | decide | assumption)⟩, (by assumption)⟩, trivial⟩, (by (try simp (disch := omega) only [c66, c12', nI_div, i_sub, d1, d2, y1, y2, y3, rPg, rS, rLs, rRl, rKn, rRk, rIk, rI_mul, nI_add, nI_1, nI_clamp, c221, pr_16_221, pr_8_12, pr_8_6, pr_8_66, pr_8_m10, pr_i_0, pr_i_1, pr_i_m1]); exact ⟨Or.inl (by assumption), rvin (by assumption) (by omega) (by decide)⟩)⟩, (by (try simp (disch := omega) only [c66, c12', nI_div, i_sub, d1, d2, y1, y2, y3, rPg, rS, rLs, rRl, rKn, rRk, rIk, rI_mul, nI_add, nI_1, nI_clamp, c221, pr_16_221, pr_8_12, pr_8_6, pr_8_66, pr_8_m10, pr_i_0, pr_i_1, pr_i_m1]); exact ⟨by assumption, rvin (by assumption) (by omega) (by decide)⟩)⟩, (by first | decide | assumption)⟩, (by assumption)⟩, trivial⟩, trivial⟩, (by first | assumption | decide | (simp (disch := omega) only [c66, c12', nI_div, i_sub, d1, d2, y1, y2, y3, rPg, rS, rLs, rRl, rKn, rRk, rIk, rI_mul, nI_add, nI_1, nI_clamp, c221, pr_16_221, pr_8_12, pr_8_6, pr_8_66, pr_8_m10, pr_i_0, pr_i_1, pr_i_m1]; first | assumption | exact ⟨Or.inl (by assumption), rvin (by assumption) (by omega) (by decide)⟩ | exact ⟨by assumption, rvin (by assumption) (by omega) (by decide)⟩ | exact ⟨⟨by omega, by omega⟩, rvin (by assumption) (by omega) (by decide)⟩ | exact ⟨Or.inr (by assumption), rvin (by assumption) (by omega) (by decide)⟩ | exact ⟨Or.inr ⟨by assumption, (by first | exact Or.inl rfl | exact Or.inr rfl | exact pr_b01 _)⟩, rvin (by assumption) (by omega) (by decide)⟩ | exact ⟨by assumption, by assumption⟩ | decide | omega))⟩, (by first | decide | assumption)⟩, (by assumption)⟩, trivial⟩, trivial⟩, (by first | assumption | decide | (simp (disch := omega) only [c66, c12', nI_div, i_sub, d1, d2, y1, y2, y3, rPg, rS, rLs, rRl, rKn, rRk, rIk, rI_mul, nI_add, nI_1, nI_clamp, c221, pr_16_221, pr_8_12, pr_8_6, pr_8_66, pr_8_m10, pr_i_0, pr_i_1, pr_i_m1]; first | assumption | exact ⟨Or.inl (by assumption), rvin (by assumption) (by omega) (by decide)⟩ | exact ⟨by assumption, rvin (by assumption) (by omega) (by decide)⟩ | exact ⟨⟨by omega, by omega⟩, rvin (by assumption) (by omega) (by decide)⟩ | exact ⟨Or.inr (by assumption), rvin (by assumption) (by omega) (by decide)⟩ | exact ⟨Or.inr ⟨by assumption, (by first | exact Or.inl rfl | exact Or.inr rfl | exact pr_b01 _)⟩, rvin (by assumption) (by omega) (by decide)⟩ | exact ⟨by assumption, by assumption⟩ | decide | omega))⟩, (by (try simp (disch := omega) only [c66, c12', nI_div, i_sub, d1, d2, y1, y2, y3, rPg, rS, rLs, rRl, rKn, rRk, rIk, rI_mul, nI_add, nI_1, nI_clamp, c221, pr_16_221, pr_8_12, pr_8_6, pr_8_66, pr_8_m10, pr_i_0, pr_i_1, pr_i_m1]); exact ⟨Or.inl (by assumption), rvin (by assumption) (by omega) (by decide)⟩)⟩, (by (try simp (disch := omega) only [c66, c12', nI_div, i_sub, d1, d2, y1, y2, y3, rPg, rS, rLs, rRl, rKn, rRk, rIk, rI_mul, nI_add, nI_1, nI_clamp, c221, pr_16_221, pr_8_12, pr_8_6, pr_8_66, pr_8_m10, pr_i_0, pr_i_1, pr_i_m1]); exact ⟨by assumption, rvin (by assumption) (by omega) (by decide)⟩)⟩, (by first | decide | assumption)⟩, (by assumption)⟩, trivial⟩, trivial⟩, (by first | assumption | decide | (simp (disch := omega) only [c66, c12', nI_div, i_sub, d1, d2, y1, y2, y3, rPg, rS, rLs, rRl, rKn, rRk, rIk, rI_mul, nI_add, nI_1, nI_clamp, c221, pr_16_221, pr_8_12, pr_8_6, pr_8_66, pr_8_m10, pr_i_0, pr_i_1, pr_i_m1]; first | assumption | exact ⟨Or.inl (by assumption), rvin (by assumption) (by omega) (by decide)⟩ | exact ⟨by assumption, rvin (by assumption) (by omega) (by decide)⟩ | exact ⟨⟨by omega, by omega⟩, rvin (by assumption) (by omega) (by decide)⟩ | exact ⟨Or.inr (by assumption), rvin (by assumption) (by omega) (by decide)⟩ | exact ⟨Or.inr ⟨by assumption, (by first | exact Or.inl rfl | exact Or.inr rfl | exact pr_b01 _)⟩, rvin (by assumption) (by omega) (by decide)⟩ | exact ⟨by assumption, by assumption⟩ | decide | omega))⟩, (by first | decide | assumption)⟩, (by assumption)⟩, trivial⟩, trivial⟩, (by first | assumption | decide | (simp (disch := omega) only [c66, c12', nI_div, i_sub, d1, d2, y1, y2, y3, rPg, rS, rLs, rRl, rKn, rRk, rIk, rI_mul, nI_add, nI_1, nI_clamp, c221, pr_16_221, pr_8_12, pr_8_6, pr_8_66, pr_8_m10, pr_i_0, pr_i_1, pr_i_m1]; first | assumption | exact ⟨Or.inl (by assumption), rvin (by assumption) (by omega) (by decide)⟩ | exact ⟨by assumption, rvin (by assumption) (by omega) (by decide)⟩ | exact ⟨⟨by omega, by omega⟩, rvin (by assumption) (by omega) (by decide)⟩ | exact ⟨Or.inr (by assumption), rvin (by assumption) (by omega) (by decide)⟩ | exact ⟨Or.inr ⟨by assumption, (by first | exact Or.inl rfl | exact Or.inr rfl | exact pr_b01 _)⟩, rvin (by assumption) (by omega) (by decide)⟩ | exact ⟨by assumption, by assumption⟩ | decide | omega))⟩, (by (try simp (disch := omega) only [c66, c12', nI_div, i_sub, d1, d2, y1, y2, y3, rPg, rS, rLs, rRl, rKn, rRk, rIk, rI_mul, nI_add, nI_1, nI_clamp, c221, pr_16_221, pr_8_12, pr_8_6, pr_8_66, pr_8_m10, pr_i_0, pr_i_1, pr_i_m1]); exact ⟨Or.inl (by assumption), rvin (by assumption) (by omega) (by decide)⟩)⟩, (by (try simp (disch := omega) only [c66, c12', nI_div, i_sub, d1, d2, y1, y2, y3, rPg, rS, rLs, rRl, rKn, rRk, rIk, rI_mul, nI_add, nI_1, nI_clamp, c221, pr_16_221, pr_8_12, pr_8_6, pr_8_66, pr_8_m10, pr_i_0, pr_i_1, pr_i_m1]); exact ⟨by assumption, rvin (by assumption) (by omega) (by decide)⟩)⟩, trivial⟩, trivial⟩ ?_
          try simp (disch := omega) only [c66, c12', nI_div, i_sub, d1, d2, y1, y2, y3, rPg, rS, rLs, rRl, rKn, rRk, rIk, rI_mul, nI_add, nI_1, nI_clamp, c221, pr_16_221, pr_8_12, pr_8_6, pr_8_66, pr_8_m10, pr_i_0, pr_i_1, pr_i_m1]
          exact hh
  have e0 : (0 : Int32) ≤ 0 := by decide
  have h0 := loop 221 0 (by omega) (ab_u (ab_u I 172 14 0) 172 15 0) (fun _ _ _ _ => rfl) (fun j hj => absurd hj (by omega)) (fun j hj => by rw [ab_u_ne (by decide), ab_u_ne (by decide)]) (fun j hj _ => absurd hj (by omega)) (fun j hj _ => absurd hj (by omega))
  refine pr_seqT (pc' := 128) 9 rfl ⟨⟨⟨⟨⟨⟨⟨⟨⟨trivial, (by first | decide | assumption)⟩, trivial⟩, (by first | assumption | exact ⟨by assumption, by decide⟩ | exact ⟨by assumption, pr_b01 _⟩)⟩, (by first | decide | assumption)⟩, (by first | decide | assumption)⟩, (by assumption)⟩, (by first | assumption | exact ⟨by assumption, by decide⟩ | exact ⟨by assumption, pr_b01 _⟩)⟩, (by first | decide | assumption)⟩, (by assumption)⟩ ?_
  try simp (disch := omega) only [g16, g16b, rPg, rS, rLs, rRl, rKn, rRk, rIk, rI_mul, nI_add, nI_1, nI_clamp, c221, pr_16_221, pr_8_12, pr_8_6, pr_8_66, pr_8_m10, pr_i_0, pr_i_1, pr_i_m1]
  refine pr_ifT rfl (fun h128 => ?_) (fun h128 => ?_)
  · simp only [ab_cmp, pr_16_221, pr_8_12, pr_8_6, pr_8_66, pr_8_m10, pr_i_0, pr_i_1, pr_i_m1] at h128
    first
    | contradiction
    | exact absurd trivial h128
    | exact absurd h128 (by decide)
    | exact absurd (Classical.not_not.mp h128) (by decide)
    | skip
      refine pr_seqT (pc' := 141) 2 rfl ⟨⟨trivial, trivial⟩, trivial⟩ ?_
      try simp (disch := omega) only [g16, g16b, rPg, rS, rLs, rRl, rKn, rRk, rIk, rI_mul, nI_add, nI_1, nI_clamp, c221, pr_16_221, pr_8_12, pr_8_6, pr_8_66, pr_8_m10, pr_i_0, pr_i_1, pr_i_m1]
      exact h0
  · simp only [ab_cmp, pr_16_221, pr_8_12, pr_8_6, pr_8_66, pr_8_m10, pr_i_0, pr_i_1, pr_i_m1] at h128
    exact absurd e0 h128
theorem tx_87o {w : List Nat} {X : St} {x : PS × Nat} {p : Nat} {I : Nat → Nat → Int32} {z2 : Option Value} (h : ab_H) (M : ab_M) (hl : rL h M.2.2) (hv : rv M.1 X) (hwX : w = X.2.2.2.1) (hf : lfr M.1 I) (he : rs2 I w (.ok p)) (h0 : (tok w p).1 = 0) (hp : pv I x.1) (hq : rnT w 320 P0 0 0 = .ok x) : pr_T pX11_text 87 [some (.ref 172), some (.int (nI x.2)), z2] [] h (I, M.2) (rp M (f_text X)) := by
  obtain ⟨k172, rS, rLs, rKn, rPg, rRl, rRk, rTp, rCu, rLe, rLt, rSm, rIk, rLn, rLg, rCe, ⟨kS, nS⟩, ⟨kLs, nLs⟩, ⟨kKn, nKn⟩, ⟨kPg, nPg⟩, ⟨kRl, nRl⟩, ⟨kRk, nRk⟩, ⟨kTp, nTp⟩, ⟨kCu, nCu⟩, ⟨kLe, nLe⟩, ⟨kLt, nLt⟩, ⟨kSm, nSm⟩, ⟨kIk, nIk⟩, ⟨kLn, nLn⟩, ⟨kLg, nLg⟩, kCe, nCe⟩ := id hl
  subst hwX
  obtain ⟨e0, e1, e2, e3, e4, e5, e6⟩ := id he
  have g8 := hp.2.1.1
  have g8b := hp.2.1.2.1
  have g12 := hp.2.2.2.2.2
  have hall := hN_all (T := x.1.1) g8b (fun i hi => (hp.2.2.1.2.2 i hi).2.2.1)
  have hparse : parse X.2.2.2.1 = if allL x.1.1 then .ok x else .error (6, X.2.2.2.1.length) := by unfold parse; rw [hq]
  have c6 : (6 : Int32) = nI 6 := rfl
  cases ca : allL x.1.1 with
  | true =>
    rw [ca, if_pos rfl] at hparse
    have z := hall.mpr ca
    have t := tx_ok (z2 := z2) h M hl hv hf hp e2 hparse ca
    refine pr_seqT (pc' := 91) 2 rfl ⟨⟨trivial, (by first | decide | assumption)⟩, (by assumption)⟩ ?_
    try simp (disch := omega) only [e2, g8, g12, rPg, rS, rLs, rRl, rKn, rRk, rIk, rI_mul, nI_add, nI_1, nI_clamp, c221, pr_16_221, pr_8_12, pr_8_6, pr_8_66, pr_8_m10, pr_i_0, pr_i_1, pr_i_m1]
    refine pr_ifT rfl (fun h91 => ?_) (fun h91 => ?_)
    · simp only [ab_cmp, pr_16_221, pr_8_12, pr_8_6, pr_8_66, pr_8_m10, pr_i_0, pr_i_1, pr_i_m1] at h91
      exact absurd trivial h91
    · simp only [ab_cmp, pr_16_221, pr_8_12, pr_8_6, pr_8_66, pr_8_m10, pr_i_0, pr_i_1, pr_i_m1] at h91
      first
      | contradiction
      | exact absurd trivial h91
      | exact absurd h91 (by decide)
      | exact absurd (Classical.not_not.mp h91) (by decide)
      | skip
        refine pr_seqT (pc' := 102) 4 rfl ⟨⟨⟨⟨trivial, (by first | decide | assumption)⟩, (by assumption)⟩, (by first | decide | assumption)⟩, (by assumption)⟩ ?_
        try simp (disch := omega) only [e2, g8, g12, rPg, rS, rLs, rRl, rKn, rRk, rIk, rI_mul, nI_add, nI_1, nI_clamp, c221, pr_16_221, pr_8_12, pr_8_6, pr_8_66, pr_8_m10, pr_i_0, pr_i_1, pr_i_m1]
        refine pr_icT rfl (fun h102 => ?_) (fun h102 => ?_)
        · simp only [ab_cmp, pr_16_221, pr_8_12, pr_8_6, pr_8_66, pr_8_m10, pr_i_0, pr_i_1, pr_i_m1] at h102
          first
          | contradiction
          | exact absurd trivial h102
          | exact absurd h102 (by decide)
          | exact absurd (Classical.not_not.mp h102) (by decide)
          | skip
            exact t
        · simp only [ab_cmp, pr_16_221, pr_8_12, pr_8_6, pr_8_66, pr_8_m10, pr_i_0, pr_i_1, pr_i_m1] at h102
          exact absurd z h102
  | false =>
    rw [ca, if_neg (by decide)] at hparse
    have z : ¬ hN x.1.1.2.2 < nI x.1.1.2.1.length := fun q => by rw [hall.mp q] at ca; cases ca
    have hsl : (tok X.2.2.2.1 p).2.1 = X.2.2.2.1.length := by
      have hle := tok_le e0
      have hre := re_le (lo := 32) (hi := 32) e0
      unfold tok at h0 ⊢
      by_cases c : X.2.2.2.1.length ≤ re X.2.2.2.1 32 32 p
      · rw [if_pos c]
        show re X.2.2.2.1 32 32 p = _
        omega
      · exfalso
        rw [if_neg c] at h0
        split at h0
        · cases h0
        · split at h0
          · cases h0
          · split at h0
            · split at h0 <;> cases h0
            · cases h0
    have f6 := q_flN (c := 6) (x := 6) rfl (by decide) h (I, M.2) hl he
    rw [show flN X.2.2.2.1 6 (.ok p) = .error (6, X.2.2.2.1.length) by show Except.error (6, (tok X.2.2.2.1 p).2.1) = _; rw [hsl]] at f6
    refine pr_seqT (pc' := 91) 2 rfl ⟨⟨trivial, (by first | decide | assumption)⟩, (by assumption)⟩ ?_
    try simp (disch := omega) only [e2, g8, g12, rPg, rS, rLs, rRl, rKn, rRk, rIk, rI_mul, nI_add, nI_1, nI_clamp, c221, pr_16_221, pr_8_12, pr_8_6, pr_8_66, pr_8_m10, pr_i_0, pr_i_1, pr_i_m1]
    refine pr_ifT rfl (fun h91 => ?_) (fun h91 => ?_)
    · simp only [ab_cmp, pr_16_221, pr_8_12, pr_8_6, pr_8_66, pr_8_m10, pr_i_0, pr_i_1, pr_i_m1] at h91
      exact absurd trivial h91
    · simp only [ab_cmp, pr_16_221, pr_8_12, pr_8_6, pr_8_66, pr_8_m10, pr_i_0, pr_i_1, pr_i_m1] at h91
      first
      | contradiction
      | exact absurd trivial h91
      | exact absurd h91 (by decide)
      | exact absurd (Classical.not_not.mp h91) (by decide)
      | skip
        refine pr_seqT (pc' := 102) 4 rfl ⟨⟨⟨⟨trivial, (by first | decide | assumption)⟩, (by assumption)⟩, (by first | decide | assumption)⟩, (by assumption)⟩ ?_
        try simp (disch := omega) only [e2, g8, g12, rPg, rS, rLs, rRl, rKn, rRk, rIk, rI_mul, nI_add, nI_1, nI_clamp, c221, pr_16_221, pr_8_12, pr_8_6, pr_8_66, pr_8_m10, pr_i_0, pr_i_1, pr_i_m1]
        refine pr_icT rfl (fun h102 => ?_) (fun h102 => ?_)
        · simp only [ab_cmp, pr_16_221, pr_8_12, pr_8_6, pr_8_66, pr_8_m10, pr_i_0, pr_i_1, pr_i_m1] at h102
          exact absurd h102 z
        · simp only [ab_cmp, pr_16_221, pr_8_12, pr_8_6, pr_8_66, pr_8_m10, pr_i_0, pr_i_1, pr_i_m1] at h102
          first
          | contradiction
          | exact absurd trivial h102
          | exact absurd h102 (by decide)
          | exact absurd (Classical.not_not.mp h102) (by decide)
          | skip
            refine pr_seqT (pc' := 108) 2 rfl ⟨⟨trivial, (by first | decide | assumption)⟩, trivial⟩ ?_
            try simp (disch := omega) only [e2, g8, g12, rPg, rS, rLs, rRl, rKn, rRk, rIk, rI_mul, nI_add, nI_1, nI_clamp, c221, pr_16_221, pr_8_12, pr_8_6, pr_8_66, pr_8_m10, pr_i_0, pr_i_1, pr_i_m1]
            refine pr_cvX [_] rfl rfl rfl rfl rfl (Nat.le_of_ble_eq_true rfl) (by first | assumption | decide | (simp (disch := omega) only [e2, g8, g12, rPg, rS, rLs, rRl, rKn, rRk, rIk, rI_mul, nI_add, nI_1, nI_clamp, c221, pr_16_221, pr_8_12, pr_8_6, pr_8_66, pr_8_m10, pr_i_0, pr_i_1, pr_i_m1]; first | assumption | exact ⟨Or.inl (by assumption), rvin (by assumption) (by omega) (by decide)⟩ | exact ⟨by assumption, rvin (by assumption) (by omega) (by decide)⟩ | exact ⟨⟨by omega, by omega⟩, rvin (by assumption) (by omega) (by decide)⟩ | exact ⟨Or.inr (by assumption), rvin (by assumption) (by omega) (by decide)⟩ | exact ⟨Or.inr ⟨by assumption, (by first | exact Or.inl rfl | exact Or.inr rfl | exact pr_b01 _)⟩, rvin (by assumption) (by omega) (by decide)⟩ | exact ⟨by assumption, by assumption⟩ | decide | omega)) (Nat.le_of_ble_eq_true rfl) (f6) (fun v108 M108 q108 => ?_)
            obtain ⟨rfl, w1, w2, w3⟩ := q108
            obtain ⟨I1, Z1⟩ := M108
            dsimp only at w1 w2 w3
            subst w1
            exact tx_end h M hl hv (lfr_tr hf (lfr_r w2)) w3 hparse
theorem tx_63e {w : List Nat} {X : St} {q : Nat × Nat} {I : Nat → Nat → Int32} {z1 z2 : Option Value} (h : ab_H) (M : ab_M) (hl : rL h M.2.2) (hv : rv M.1 X) (hf : lfr M.1 I) (he : rs2 I w (.error q)) (hq : parse X.2.2.2.1 = .error q) : pr_T pX11_text 63 [some (.ref 172), z1, z2] [] h (I, M.2) (rp M (f_text X)) := by
  obtain ⟨k172, rS, rLs, rKn, rPg, rRl, rRk, rTp, rCu, rLe, rLt, rSm, rIk, rLn, rLg, rCe, ⟨kS, nS⟩, ⟨kLs, nLs⟩, ⟨kKn, nKn⟩, ⟨kPg, nPg⟩, ⟨kRl, nRl⟩, ⟨kRk, nRk⟩, ⟨kTp, nTp⟩, ⟨kCu, nCu⟩, ⟨kLe, nLe⟩, ⟨kLt, nLt⟩, ⟨kSm, nSm⟩, ⟨kIk, nIk⟩, ⟨kLn, nLn⟩, ⟨kLg, nLg⟩, kCe, nCe⟩ := id hl
  have g := he.1
  have en : ¬ nI q.1 = 0 := nI_ne0 (by have := he.2.1; omega) (by have := he.2.1; omega)
  have h0 := tx_87e (z1 := z1) (z2 := z2) h M hl hv hf he hq
  refine pr_seqT (pc' := 67) 2 rfl ⟨⟨trivial, (by first | decide | assumption)⟩, (by assumption)⟩ ?_
  try simp (disch := omega) only [g, rPg, rS, rLs, rRl, rKn, rRk, rIk, rI_mul, nI_add, nI_1, nI_clamp, c221, pr_16_221, pr_8_12, pr_8_6, pr_8_66, pr_8_m10, pr_i_0, pr_i_1, pr_i_m1]
  refine pr_ifT rfl (fun h67 => ?_) (fun h67 => ?_)
  · simp only [ab_cmp, pr_16_221, pr_8_12, pr_8_6, pr_8_66, pr_8_m10, pr_i_0, pr_i_1, pr_i_m1] at h67
    first
    | contradiction
    | exact absurd trivial h67
    | exact absurd h67 (by decide)
    | exact absurd (Classical.not_not.mp h67) (by decide)
    | skip
      exact h0
  · simp only [ab_cmp, pr_16_221, pr_8_12, pr_8_6, pr_8_66, pr_8_m10, pr_i_0, pr_i_1, pr_i_m1] at h67
    exact absurd (Classical.not_not.mp h67) en
theorem tx_loop {w : List Nat} {X : St} (h : ab_H) (M : ab_M) (hl : rL h M.2.2) (hv : rv M.1 X) (hwX : w = X.2.2.2.1) (N0 : Nat → Nat → Int32) (hf0 : lfr M.1 N0) : ∀ f P p n (I : Nat → Nat → Int32) z2, rnT w f P p n = rnT w 320 P0 0 0 → p ≤ w.length → w.length ≤ p + f → lfr M.1 I → rs2 I w (stN w p) → (okE (stN w p) = true → pv I P) → pr_T pX11_text 63 [some (.ref 172), some (.int (nI n)), z2] [] h (I, M.2) (rp M (f_text X)) := by
  obtain ⟨k172, rS, rLs, rKn, rPg, rRl, rRk, rTp, rCu, rLe, rLt, rSm, rIk, rLn, rLg, rCe, ⟨kS, nS⟩, ⟨kLs, nLs⟩, ⟨kKn, nKn⟩, ⟨kPg, nPg⟩, ⟨kRl, nRl⟩, ⟨kRk, nRk⟩, ⟨kTp, nTp⟩, ⟨kCu, nCu⟩, ⟨kLe, nLe⟩, ⟨kLt, nLt⟩, ⟨kSm, nSm⟩, ⟨kIk, nIk⟩, ⟨kLn, nLn⟩, ⟨kLg, nLg⟩, kCe, nCe⟩ := id hl
  have hw : tp_r M.1 w := by rw [hwX]; exact hv.2.2.2.2.2.1
  have hcn : cn_r M.1 := hv.2.2.2.2.2.2.2.2
  have errP : ∀ q, rnT w 320 P0 0 0 = .error q → parse X.2.2.2.1 = .error q := fun q z => by unfold parse; rw [← hwX, z]
  intro f
  induction f with
  | zero =>
    intro P p n I z2 hR hp hpf hf he hpv
    obtain rfl : p = w.length := by omega
    have h0 : (tok w w.length).1 = 0 := by
      have hre := re_le (w := w) (lo := 32) (hi := 32) (Nat.le_refl w.length)
      unfold tok
      rw [if_pos hre.1]
    have hs : stN w w.length = .ok w.length := by unfold stN; rw [if_neg (by omega)]
    rw [hs] at he hpv
    obtain ⟨e0, e1, e2, e3, e4, e5, e6⟩ := id he
    have z0 : nI (tok w w.length).1 = 0 := by rw [h0]; rfl
    have hend := tx_87o (x := (P, n)) (z2 := z2) h M hl hv hwX hf he h0 (hpv rfl) hR.symm
    refine pr_seqT (pc' := 67) 2 rfl ⟨⟨trivial, (by first | decide | assumption)⟩, (by assumption)⟩ ?_
    try simp (disch := omega) only [e2, e5, rPg, rS, rLs, rRl, rKn, rRk, rIk, rI_mul, nI_add, nI_1, nI_clamp, c221, pr_16_221, pr_8_12, pr_8_6, pr_8_66, pr_8_m10, pr_i_0, pr_i_1, pr_i_m1]
    refine pr_ifT rfl (fun h67 => ?_) (fun h67 => ?_)
    · simp only [ab_cmp, pr_16_221, pr_8_12, pr_8_6, pr_8_66, pr_8_m10, pr_i_0, pr_i_1, pr_i_m1] at h67
      exact absurd trivial h67
    · simp only [ab_cmp, pr_16_221, pr_8_12, pr_8_6, pr_8_66, pr_8_m10, pr_i_0, pr_i_1, pr_i_m1] at h67
      first
      | contradiction
      | exact absurd trivial h67
      | exact absurd h67 (by decide)
      | exact absurd (Classical.not_not.mp h67) (by decide)
      | skip
        refine pr_seqT (pc' := 74) 2 rfl ⟨⟨trivial, (by first | decide | assumption)⟩, (by assumption)⟩ ?_
        try simp (disch := omega) only [e2, e5, rPg, rS, rLs, rRl, rKn, rRk, rIk, rI_mul, nI_add, nI_1, nI_clamp, c221, pr_16_221, pr_8_12, pr_8_6, pr_8_66, pr_8_m10, pr_i_0, pr_i_1, pr_i_m1]
        refine pr_ifT rfl (fun h74 => ?_) (fun h74 => ?_)
        · simp only [ab_cmp, pr_16_221, pr_8_12, pr_8_6, pr_8_66, pr_8_m10, pr_i_0, pr_i_1, pr_i_m1] at h74
          first
          | contradiction
          | exact absurd trivial h74
          | exact absurd h74 (by decide)
          | exact absurd (Classical.not_not.mp h74) (by decide)
          | skip
            exact hend
        · simp only [ab_cmp, pr_16_221, pr_8_12, pr_8_6, pr_8_66, pr_8_m10, pr_i_0, pr_i_1, pr_i_m1] at h74
          exact absurd z0 h74
  | succ f ih =>
    intro P p n I z2 hR hp hpf hf he hpv
    have hR1 : rnT w (f + 1) P p n = if (tok w p).1 = 4 then .error (1, (tok w p).2.1) else if (tok w p).1 = 0 then .ok (P, n) else (match lnLine w P (tok w p) with
      | .error e => .error e
      | .ok x => rnT w f x.1 x.2 (n + 1)) := rfl
    rw [hR1] at hR
    by_cases c4' : (tok w p).1 = 4
    · rw [if_pos c4'] at hR
      have hs : stN w p = .error (1, (tok w p).2.1) := by unfold stN; rw [if_pos c4']
      rw [hs] at he
      have g := he.1
      have en : ¬ nI 1 = 0 := by decide
      have hend := tx_87e (z1 := some (.int (nI n))) (z2 := z2) h M hl hv hf he (errP _ hR.symm)
      refine pr_seqT (pc' := 67) 2 rfl ⟨⟨trivial, (by first | decide | assumption)⟩, (by assumption)⟩ ?_
      try simp (disch := omega) only [g, rPg, rS, rLs, rRl, rKn, rRk, rIk, rI_mul, nI_add, nI_1, nI_clamp, c221, pr_16_221, pr_8_12, pr_8_6, pr_8_66, pr_8_m10, pr_i_0, pr_i_1, pr_i_m1]
      refine pr_ifT rfl (fun h67 => ?_) (fun h67 => ?_)
      · simp only [ab_cmp, pr_16_221, pr_8_12, pr_8_6, pr_8_66, pr_8_m10, pr_i_0, pr_i_1, pr_i_m1] at h67
        first
        | contradiction
        | exact absurd trivial h67
        | exact absurd h67 (by decide)
        | exact absurd (Classical.not_not.mp h67) (by decide)
        | skip
          exact hend
      · simp only [ab_cmp, pr_16_221, pr_8_12, pr_8_6, pr_8_66, pr_8_m10, pr_i_0, pr_i_1, pr_i_m1] at h67
        exact absurd (Classical.not_not.mp h67) en
    · rw [if_neg c4'] at hR
      have hs : stN w p = .ok p := by unfold stN; rw [if_neg c4']
      rw [hs] at he hpv
      have hpv := hpv rfl
      obtain ⟨e0, e1, e2, e3, e4, e5, e6⟩ := id he
      have hle := tok_le e0
      by_cases c0 : (tok w p).1 = 0
      · rw [if_pos c0] at hR
        have z0 : nI (tok w p).1 = 0 := by rw [c0]; rfl
        have hend := tx_87o (x := (P, n)) (z2 := z2) h M hl hv hwX hf he c0 hpv hR.symm
        refine pr_seqT (pc' := 67) 2 rfl ⟨⟨trivial, (by first | decide | assumption)⟩, (by assumption)⟩ ?_
        try simp (disch := omega) only [e2, e5, rPg, rS, rLs, rRl, rKn, rRk, rIk, rI_mul, nI_add, nI_1, nI_clamp, c221, pr_16_221, pr_8_12, pr_8_6, pr_8_66, pr_8_m10, pr_i_0, pr_i_1, pr_i_m1]
        refine pr_ifT rfl (fun h67 => ?_) (fun h67 => ?_)
        · simp only [ab_cmp, pr_16_221, pr_8_12, pr_8_6, pr_8_66, pr_8_m10, pr_i_0, pr_i_1, pr_i_m1] at h67
          exact absurd trivial h67
        · simp only [ab_cmp, pr_16_221, pr_8_12, pr_8_6, pr_8_66, pr_8_m10, pr_i_0, pr_i_1, pr_i_m1] at h67
          first
          | contradiction
          | exact absurd trivial h67
          | exact absurd h67 (by decide)
          | exact absurd (Classical.not_not.mp h67) (by decide)
          | skip
            refine pr_seqT (pc' := 74) 2 rfl ⟨⟨trivial, (by first | decide | assumption)⟩, (by assumption)⟩ ?_
            try simp (disch := omega) only [e2, e5, rPg, rS, rLs, rRl, rKn, rRk, rIk, rI_mul, nI_add, nI_1, nI_clamp, c221, pr_16_221, pr_8_12, pr_8_6, pr_8_66, pr_8_m10, pr_i_0, pr_i_1, pr_i_m1]
            refine pr_ifT rfl (fun h74 => ?_) (fun h74 => ?_)
            · simp only [ab_cmp, pr_16_221, pr_8_12, pr_8_6, pr_8_66, pr_8_m10, pr_i_0, pr_i_1, pr_i_m1] at h74
              first
              | contradiction
              | exact absurd trivial h74
              | exact absurd h74 (by decide)
              | exact absurd (Classical.not_not.mp h74) (by decide)
              | skip
                exact hend
            · simp only [ab_cmp, pr_16_221, pr_8_12, pr_8_6, pr_8_66, pr_8_m10, pr_i_0, pr_i_1, pr_i_m1] at h74
              exact absurd z0 h74
      · rw [if_neg c0] at hR
        have z0 : ¬ nI (tok w p).1 = 0 := nI_ne0 (by omega) (by omega)
        have hrl := q_readLine h (I, M.2) hl (lfr_tp hf hw) (lfr_cn hf hcn) hpv he
        cases hL : lnLine w P (tok w p) with
        | error q =>
          rw [hL] at hR hrl
          dsimp only at hR hrl
          refine pr_seqT (pc' := 67) 2 rfl ⟨⟨trivial, (by first | decide | assumption)⟩, (by assumption)⟩ ?_
          try simp (disch := omega) only [e2, e5, rPg, rS, rLs, rRl, rKn, rRk, rIk, rI_mul, nI_add, nI_1, nI_clamp, c221, pr_16_221, pr_8_12, pr_8_6, pr_8_66, pr_8_m10, pr_i_0, pr_i_1, pr_i_m1]
          refine pr_ifT rfl (fun h67 => ?_) (fun h67 => ?_)
          · simp only [ab_cmp, pr_16_221, pr_8_12, pr_8_6, pr_8_66, pr_8_m10, pr_i_0, pr_i_1, pr_i_m1] at h67
            exact absurd trivial h67
          · simp only [ab_cmp, pr_16_221, pr_8_12, pr_8_6, pr_8_66, pr_8_m10, pr_i_0, pr_i_1, pr_i_m1] at h67
            first
            | contradiction
            | exact absurd trivial h67
            | exact absurd h67 (by decide)
            | exact absurd (Classical.not_not.mp h67) (by decide)
            | skip
              refine pr_seqT (pc' := 74) 2 rfl ⟨⟨trivial, (by first | decide | assumption)⟩, (by assumption)⟩ ?_
              try simp (disch := omega) only [e2, e5, rPg, rS, rLs, rRl, rKn, rRk, rIk, rI_mul, nI_add, nI_1, nI_clamp, c221, pr_16_221, pr_8_12, pr_8_6, pr_8_66, pr_8_m10, pr_i_0, pr_i_1, pr_i_m1]
              refine pr_ifT rfl (fun h74 => ?_) (fun h74 => ?_)
              · simp only [ab_cmp, pr_16_221, pr_8_12, pr_8_6, pr_8_66, pr_8_m10, pr_i_0, pr_i_1, pr_i_m1] at h74
                exact absurd h74 z0
              · simp only [ab_cmp, pr_16_221, pr_8_12, pr_8_6, pr_8_66, pr_8_m10, pr_i_0, pr_i_1, pr_i_m1] at h74
                first
                | contradiction
                | exact absurd trivial h74
                | exact absurd h74 (by decide)
                | exact absurd (Classical.not_not.mp h74) (by decide)
                | skip
                  refine pr_seqT (pc' := 78) 1 rfl ⟨trivial, (by first | decide | assumption)⟩ ?_
                  try simp (disch := omega) only [e2, e5, rPg, rS, rLs, rRl, rKn, rRk, rIk, rI_mul, nI_add, nI_1, nI_clamp, c221, pr_16_221, pr_8_12, pr_8_6, pr_8_66, pr_8_m10, pr_i_0, pr_i_1, pr_i_m1]
                  refine pr_cvX [] rfl rfl rfl rfl rfl (Nat.le_of_ble_eq_true rfl) (by first | assumption | decide | (simp (disch := omega) only [e2, e5, rPg, rS, rLs, rRl, rKn, rRk, rIk, rI_mul, nI_add, nI_1, nI_clamp, c221, pr_16_221, pr_8_12, pr_8_6, pr_8_66, pr_8_m10, pr_i_0, pr_i_1, pr_i_m1]; first | assumption | exact ⟨Or.inl (by assumption), rvin (by assumption) (by omega) (by decide)⟩ | exact ⟨by assumption, rvin (by assumption) (by omega) (by decide)⟩ | exact ⟨⟨by omega, by omega⟩, rvin (by assumption) (by omega) (by decide)⟩ | exact ⟨Or.inr (by assumption), rvin (by assumption) (by omega) (by decide)⟩ | exact ⟨Or.inr ⟨by assumption, (by first | exact Or.inl rfl | exact Or.inr rfl | exact pr_b01 _)⟩, rvin (by assumption) (by omega) (by decide)⟩ | exact ⟨by assumption, by assumption⟩ | decide | omega)) (Nat.le_of_ble_eq_true rfl) (hrl) (fun v78 M78 q78 => ?_)
                  obtain ⟨rfl, w1, w2, w3⟩ := q78
                  obtain ⟨I1, Z1⟩ := M78
                  dsimp only at w1 w2 w3
                  subst w1
                  have hpe := errP _ hR.symm
                  refine pr_seqT (pc' := 63) 2 rfl ⟨⟨trivial, trivial⟩, trivial⟩ ?_
                  try simp (disch := omega) only [e2, e5, rPg, rS, rLs, rRl, rKn, rRk, rIk, rI_mul, nI_add, nI_1, nI_clamp, c221, pr_16_221, pr_8_12, pr_8_6, pr_8_66, pr_8_m10, pr_i_0, pr_i_1, pr_i_m1]
                  exact tx_63e h M hl hv (lfr_tr hf w2) w3 hpe
        | ok x =>
          rw [hL] at hR hrl
          dsimp only at hR hrl
          have hN := eN_line (P := P) hle.2.2.1 x hL
          have hw1 : (tok w p).1 = 1 := by
            rcases Nat.lt_or_ge (tok w p).1 1 with y | y
            · omega
            · by_cases y1 : (tok w p).1 = 1
              · exact y1
              · exfalso
                have hsy : ∀ k, sy w (tok w p) k = false := fun k => by unfold sy; rw [decide_eq_false y1]; rfl
                unfold lnLine at hL
                rw [hsy 0, hsy 1, hsy 2, hsy 3, hsy 4, hsy 5] at hL
                cases hL
          have hpos := tok_wpos e0 hw1
          refine pr_seqT (pc' := 67) 2 rfl ⟨⟨trivial, (by first | decide | assumption)⟩, (by assumption)⟩ ?_
          try simp (disch := omega) only [e2, e5, rPg, rS, rLs, rRl, rKn, rRk, rIk, rI_mul, nI_add, nI_1, nI_clamp, c221, pr_16_221, pr_8_12, pr_8_6, pr_8_66, pr_8_m10, pr_i_0, pr_i_1, pr_i_m1]
          refine pr_ifT rfl (fun h67 => ?_) (fun h67 => ?_)
          · simp only [ab_cmp, pr_16_221, pr_8_12, pr_8_6, pr_8_66, pr_8_m10, pr_i_0, pr_i_1, pr_i_m1] at h67
            exact absurd trivial h67
          · simp only [ab_cmp, pr_16_221, pr_8_12, pr_8_6, pr_8_66, pr_8_m10, pr_i_0, pr_i_1, pr_i_m1] at h67
            first
            | contradiction
            | exact absurd trivial h67
            | exact absurd h67 (by decide)
            | exact absurd (Classical.not_not.mp h67) (by decide)
            | skip
              refine pr_seqT (pc' := 74) 2 rfl ⟨⟨trivial, (by first | decide | assumption)⟩, (by assumption)⟩ ?_
              try simp (disch := omega) only [e2, e5, rPg, rS, rLs, rRl, rKn, rRk, rIk, rI_mul, nI_add, nI_1, nI_clamp, c221, pr_16_221, pr_8_12, pr_8_6, pr_8_66, pr_8_m10, pr_i_0, pr_i_1, pr_i_m1]
              refine pr_ifT rfl (fun h74 => ?_) (fun h74 => ?_)
              · simp only [ab_cmp, pr_16_221, pr_8_12, pr_8_6, pr_8_66, pr_8_m10, pr_i_0, pr_i_1, pr_i_m1] at h74
                exact absurd h74 z0
              · simp only [ab_cmp, pr_16_221, pr_8_12, pr_8_6, pr_8_66, pr_8_m10, pr_i_0, pr_i_1, pr_i_m1] at h74
                first
                | contradiction
                | exact absurd trivial h74
                | exact absurd h74 (by decide)
                | exact absurd (Classical.not_not.mp h74) (by decide)
                | skip
                  refine pr_seqT (pc' := 78) 1 rfl ⟨trivial, (by first | decide | assumption)⟩ ?_
                  try simp (disch := omega) only [e2, e5, rPg, rS, rLs, rRl, rKn, rRk, rIk, rI_mul, nI_add, nI_1, nI_clamp, c221, pr_16_221, pr_8_12, pr_8_6, pr_8_66, pr_8_m10, pr_i_0, pr_i_1, pr_i_m1]
                  refine pr_cvX [] rfl rfl rfl rfl rfl (Nat.le_of_ble_eq_true rfl) (by first | assumption | decide | (simp (disch := omega) only [e2, e5, rPg, rS, rLs, rRl, rKn, rRk, rIk, rI_mul, nI_add, nI_1, nI_clamp, c221, pr_16_221, pr_8_12, pr_8_6, pr_8_66, pr_8_m10, pr_i_0, pr_i_1, pr_i_m1]; first | assumption | exact ⟨Or.inl (by assumption), rvin (by assumption) (by omega) (by decide)⟩ | exact ⟨by assumption, rvin (by assumption) (by omega) (by decide)⟩ | exact ⟨⟨by omega, by omega⟩, rvin (by assumption) (by omega) (by decide)⟩ | exact ⟨Or.inr (by assumption), rvin (by assumption) (by omega) (by decide)⟩ | exact ⟨Or.inr ⟨by assumption, (by first | exact Or.inl rfl | exact Or.inr rfl | exact pr_b01 _)⟩, rvin (by assumption) (by omega) (by decide)⟩ | exact ⟨by assumption, by assumption⟩ | decide | omega)) (Nat.le_of_ble_eq_true rfl) (hrl) (fun v78 M78 q78 => ?_)
                  obtain ⟨rfl, w1, w2, w3, w4⟩ := q78
                  obtain ⟨I1, Z1⟩ := M78
                  dsimp only at w1 w2 w3 w4
                  subst w1
                  refine pr_seqT (pc' := 63) 2 rfl ⟨⟨trivial, trivial⟩, trivial⟩ ?_
                  try simp (disch := omega) only [e2, e5, rPg, rS, rLs, rRl, rKn, rRk, rIk, rI_mul, nI_add, nI_1, nI_clamp, c221, pr_16_221, pr_8_12, pr_8_6, pr_8_66, pr_8_m10, pr_i_0, pr_i_1, pr_i_m1]
                  exact ih x.1 x.2 (n + 1) I1 z2 hR hN.2 (by omega) (lfr_tr hf w2) w3 w4
theorem pv_0 {I : Nat → Nat → Int32} (hz : ∀ j, j < 221 → I 176 j = 0) (h8 : I 172 8 = 0) (h9 : I 172 9 = 0) (h10 : I 172 10 = 0) (h11 : I 172 11 = 0) (h12 : I 172 12 = -1) : pv I P0 := by
  refine ⟨⟨by rw [hz _ (by decide)]; rfl, Nat.zero_le _, by rw [hz _ (by decide)]; rfl, Nat.zero_le _, by rw [hz _ (by decide)]; rfl, ⟨Nat.le_refl _, by show 1 ≤ 9; decide⟩, fun l hl => ⟨?_, by show l + 1 ≤ 40; omega⟩, fun p hp => absurd hp (by show ¬ p < 0; omega)⟩, ⟨h8, Nat.zero_le _, fun n hn => absurd hn (by show ¬ n < 0; omega)⟩, ⟨h9, Nat.zero_le _, fun n hn => absurd hn (by show ¬ n < 0; omega)⟩, ⟨0, by decide, h10, rfl, rfl⟩, ?_, h12⟩
  · rw [hz _ (by omega)]
    show (0 : Int32) = nI (l + 1) - nI l - 1
    rw [← nI_1]
    grind
  · rw [h11]
    rfl
theorem r_text {X : St} (h : ab_H) (M : ab_M) (hl : rL h M.2.2) (hv : rv M.1 X) : pr_X pX11_text [.ref 172] h M (rp M (f_text X)) := by
  obtain ⟨k172, rS, rLs, rKn, rPg, rRl, rRk, rTp, rCu, rLe, rLt, rSm, rIk, rLn, rLg, rCe, ⟨kS, nS⟩, ⟨kLs, nLs⟩, ⟨kKn, nKn⟩, ⟨kPg, nPg⟩, ⟨kRl, nRl⟩, ⟨kRk, nRk⟩, ⟨kTp, nTp⟩, ⟨kCu, nCu⟩, ⟨kLe, nLe⟩, ⟨kLt, nLt⟩, ⟨kSm, nSm⟩, ⟨kIk, nIk⟩, ⟨kLn, nLn⟩, ⟨kLg, nLg⟩, kCe, nCe⟩ := id hl
  have hw : tp_r M.1 X.2.2.2.1 := hv.2.2.2.2.2.1
  generalize hN0 : ab_u (ab_u (ab_u (ab_u (ab_u (ab_u (ab_u M.1 172 16 0) 172 18 0) 172 8 0) 172 9 0) 172 10 0) 172 11 0) 172 12 (-1) = N0
  have k16 : N0 172 16 = 0 := by rw [← hN0, ab_u_j (by decide), ab_u_j (by decide), ab_u_j (by decide), ab_u_j (by decide), ab_u_j (by decide), ab_u_j (by decide), ab_u_at]
  have k18 : N0 172 18 = 0 := by rw [← hN0, ab_u_j (by decide), ab_u_j (by decide), ab_u_j (by decide), ab_u_j (by decide), ab_u_j (by decide), ab_u_at]
  have k8 : N0 172 8 = 0 := by rw [← hN0, ab_u_j (by decide), ab_u_j (by decide), ab_u_j (by decide), ab_u_j (by decide), ab_u_at]
  have k9 : N0 172 9 = 0 := by rw [← hN0, ab_u_j (by decide), ab_u_j (by decide), ab_u_j (by decide), ab_u_at]
  have k10 : N0 172 10 = 0 := by rw [← hN0, ab_u_j (by decide), ab_u_j (by decide), ab_u_at]
  have k11 : N0 172 11 = 0 := by rw [← hN0, ab_u_j (by decide), ab_u_at]
  have k12 : N0 172 12 = -1 := by rw [← hN0, ab_u_at]
  have lf0 : lfr M.1 N0 := by
    rw [← hN0]
    exact lfr_tr (lfr_r (rfr_u (by decide))) (lfr_tr (lfr_r (rfr_u (by decide))) (lfr_tr (lfr_u (by decide)) (lfr_tr (lfr_u (by decide)) (lfr_tr (lfr_u (by decide)) (lfr_tr (lfr_u (by decide)) (lfr_u (by decide)))))))
  have loop : ∀ dd k, k + dd = 221 → ∀ N : Nat → Nat → Int32, (∀ a, a ≠ 176 → N a = N0 a) → (∀ j, j < k → N 176 j = 0) → pr_T pX11_text 39 [some (.ref 172), some (.int (nI 0)), some (.int (nI k))] [] h (N, M.2) (rp M (f_text X)) := by
    intro dd
    induction dd with
    | zero =>
      intro k hk N m1 m2
      obtain rfl : k = 221 := by omega
      have e1 : nI 221 ≤ nI 221 := nI_le (Nat.le_refl _) (by decide)
      have q172 : N 172 = N0 172 := m1 172 (by decide)
      have lfN : lfr M.1 N := lfr_tr lf0 ⟨fun a _ a2 _ _ => m1 a a2, fun j _ => by rw [q172]⟩
      have hpv : pv N P0 := pv_0 m2 (by rw [q172]; exact k8) (by rw [q172]; exact k9) (by rw [q172]; exact k10) (by rw [q172]; exact k11) (by rw [q172]; exact k12)
      have hst := q_step (p := 0) h (N, M.2) hl (lfr_tp lfN hw) (by show N 172 16 = 0; rw [q172]; exact k16) (by show N 172 18 = nI 0; rw [q172]; exact k18) (Nat.zero_le _)
      refine pr_seqT (pc' := 43) 2 rfl ⟨⟨trivial, trivial⟩, trivial⟩ ?_
      try simp (disch := omega) only [rPg, rS, rLs, rRl, rKn, rRk, rIk, rI_mul, nI_add, nI_1, nI_clamp, c221, pr_16_221, pr_8_12, pr_8_6, pr_8_66, pr_8_m10, pr_i_0, pr_i_1, pr_i_m1]
      refine pr_icT rfl (fun h43 => ?_) (fun h43 => ?_)
      · simp only [ab_cmp, pr_16_221, pr_8_12, pr_8_6, pr_8_66, pr_8_m10, pr_i_0, pr_i_1, pr_i_m1] at h43
        first
        | contradiction
        | exact absurd trivial h43
        | exact absurd h43 (by decide)
        | exact absurd (Classical.not_not.mp h43) (by decide)
        | skip
          refine pr_seqT (pc' := 60) 1 rfl ⟨trivial, (by first | decide | assumption)⟩ ?_
          try simp (disch := omega) only [rPg, rS, rLs, rRl, rKn, rRk, rIk, rI_mul, nI_add, nI_1, nI_clamp, c221, pr_16_221, pr_8_12, pr_8_6, pr_8_66, pr_8_m10, pr_i_0, pr_i_1, pr_i_m1]
          refine pr_cvX [] rfl rfl rfl rfl rfl (Nat.le_of_ble_eq_true rfl) (by first | assumption | decide | (simp (disch := omega) only [rPg, rS, rLs, rRl, rKn, rRk, rIk, rI_mul, nI_add, nI_1, nI_clamp, c221, pr_16_221, pr_8_12, pr_8_6, pr_8_66, pr_8_m10, pr_i_0, pr_i_1, pr_i_m1]; first | assumption | exact ⟨Or.inl (by assumption), rvin (by assumption) (by omega) (by decide)⟩ | exact ⟨by assumption, rvin (by assumption) (by omega) (by decide)⟩ | exact ⟨⟨by omega, by omega⟩, rvin (by assumption) (by omega) (by decide)⟩ | exact ⟨Or.inr (by assumption), rvin (by assumption) (by omega) (by decide)⟩ | exact ⟨Or.inr ⟨by assumption, (by first | exact Or.inl rfl | exact Or.inr rfl | exact pr_b01 _)⟩, rvin (by assumption) (by omega) (by decide)⟩ | exact ⟨by assumption, by assumption⟩ | decide | omega)) (Nat.le_of_ble_eq_true rfl) (hst) (fun v60 M60 q60 => ?_)
          obtain ⟨rfl, w1, w2, w3⟩ := q60
          obtain ⟨I1, Z1⟩ := M60
          dsimp only at w1 w2 w3
          subst w1
          exact tx_loop h M hl hv rfl N0 lf0 320 P0 0 0 I1 _ rfl (Nat.zero_le _) (by have := hw.2.1; omega) (lfr_tr lfN (lfr_r w2)) (rs2_stN (Nat.zero_le _) w3) (fun _ => pv_rfr w2 hpv)
      · simp only [ab_cmp, pr_16_221, pr_8_12, pr_8_6, pr_8_66, pr_8_m10, pr_i_0, pr_i_1, pr_i_m1] at h43
        exact absurd e1 h43
    | succ dd ih =>
      intro k hk N m1 m2
      have e1 : ¬ nI 221 ≤ nI k := nI_ge (by omega) (by decide)
      have hh := ih (k + 1) (by omega) (ab_u N 176 k 0) (fun a ha => by rw [ab_u_ne ha]; exact m1 a ha) (fun j hj => by
        by_cases e : j = k
        · rw [e, ab_u_at]
        · rw [ab_u_j e]; exact m2 j (by omega))
      refine pr_seqT (pc' := 43) 2 rfl ⟨⟨trivial, trivial⟩, trivial⟩ ?_
      try simp (disch := omega) only [rPg, rS, rLs, rRl, rKn, rRk, rIk, rI_mul, nI_add, nI_1, nI_clamp, c221, pr_16_221, pr_8_12, pr_8_6, pr_8_66, pr_8_m10, pr_i_0, pr_i_1, pr_i_m1]
      refine pr_icT rfl (fun h43 => ?_) (fun h43 => ?_)
      · simp only [ab_cmp, pr_16_221, pr_8_12, pr_8_6, pr_8_66, pr_8_m10, pr_i_0, pr_i_1, pr_i_m1] at h43
        exact absurd h43 e1
      · simp only [ab_cmp, pr_16_221, pr_8_12, pr_8_6, pr_8_66, pr_8_m10, pr_i_0, pr_i_1, pr_i_m1] at h43
        first
        | contradiction
        | exact absurd trivial h43
        | exact absurd h43 (by decide)
        | exact absurd (Classical.not_not.mp h43) (by decide)
        | skip
          refine pr_seqT (pc' := 39) 7 rfl ⟨⟨⟨⟨⟨⟨⟨trivial, (by first | decide | assumption)⟩, (by assumption)⟩, trivial⟩, trivial⟩, (by (try simp (disch := omega) only [rPg, rS, rLs, rRl, rKn, rRk, rIk, rI_mul, nI_add, nI_1, nI_clamp, c221, pr_16_221, pr_8_12, pr_8_6, pr_8_66, pr_8_m10, pr_i_0, pr_i_1, pr_i_m1]); exact ⟨by assumption, rvin (by assumption) (by omega) (by decide)⟩)⟩, trivial⟩, trivial⟩ ?_
          try simp (disch := omega) only [rPg, rS, rLs, rRl, rKn, rRk, rIk, rI_mul, nI_add, nI_1, nI_clamp, c221, pr_16_221, pr_8_12, pr_8_6, pr_8_66, pr_8_m10, pr_i_0, pr_i_1, pr_i_m1]
          exact hh
  have h0 := loop 221 0 (by omega) N0 (fun _ _ => rfl) (fun j hj => absurd hj (by omega))
  rw [← hN0] at h0
  refine pr_seqT (pc' := 39) 25 rfl ⟨⟨⟨⟨⟨⟨⟨⟨⟨⟨⟨⟨⟨⟨⟨⟨⟨⟨⟨⟨⟨⟨⟨⟨⟨trivial, (by first | decide | assumption)⟩, trivial⟩, (by first | assumption | exact ⟨by assumption, by decide⟩ | exact ⟨by assumption, pr_b01 _⟩)⟩, (by first | decide | assumption)⟩, trivial⟩, (by first | assumption | exact ⟨by assumption, by decide⟩ | exact ⟨by assumption, pr_b01 _⟩)⟩, (by first | decide | assumption)⟩, trivial⟩, (by first | assumption | exact ⟨by assumption, by decide⟩ | exact ⟨by assumption, pr_b01 _⟩)⟩, (by first | decide | assumption)⟩, trivial⟩, (by first | assumption | exact ⟨by assumption, by decide⟩ | exact ⟨by assumption, pr_b01 _⟩)⟩, (by first | decide | assumption)⟩, trivial⟩, (by first | assumption | exact ⟨by assumption, by decide⟩ | exact ⟨by assumption, pr_b01 _⟩)⟩, (by first | decide | assumption)⟩, trivial⟩, (by first | assumption | exact ⟨by assumption, by decide⟩ | exact ⟨by assumption, pr_b01 _⟩)⟩, (by first | decide | assumption)⟩, trivial⟩, (by first | assumption | exact ⟨by assumption, by decide⟩ | exact ⟨by assumption, pr_b01 _⟩)⟩, trivial⟩, trivial⟩, trivial⟩, trivial⟩ ?_
  try simp (disch := omega) only [rPg, rS, rLs, rRl, rKn, rRk, rIk, rI_mul, nI_add, nI_1, nI_clamp, c221, pr_16_221, pr_8_12, pr_8_6, pr_8_66, pr_8_m10, pr_i_0, pr_i_1, pr_i_m1]
  exact h0
