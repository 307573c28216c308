
/-! ===== the reference's reader: a token ===== -/
def bA (w : List Nat) (q : Nat) : Int32 := if q < w.length then nI (w.getD q 0) else -4
theorem q_byteAt {w : List Nat} {q : Nat} (h : ab_H) (M : ab_M) (hl : rL h M.2.2) (hw : tp_r M.1 w) (hq : q < 2 ^ 31) : pr_C pX11_byteAt [.ref 172, .int (nI q)] h M (some (.int (bA w q))) h M := by
  obtain ⟨k172, rS, rLs, rKn, rPg, rRl, rRk, rTp, rCu, rLe, rLt, rSm, rIk, rLn, rLg, rCe, ⟨kS, nS⟩, ⟨kLs, nLs⟩, ⟨kKn, nKn⟩, ⟨kPg, nPg⟩, ⟨kRl, nRl⟩, ⟨kRk, nRk⟩, ⟨kTp, nTp⟩, ⟨kCu, nCu⟩, ⟨kLe, nLe⟩, ⟨kLt, nLt⟩, ⟨kSm, nSm⟩, ⟨kIk, nIk⟩, ⟨kLn, nLn⟩, ⟨kLg, nLg⟩, kCe, nCe⟩ := id hl
  obtain ⟨w1, w2, w3⟩ := hw
  unfold bA
  by_cases c : q < w.length
  · rw [if_pos c]
    have e1 : ¬ nI w.length ≤ nI q := nI_ge c (by omega)
    have y := (w3 q c).1
    refine pr_seq (pc' := 5) 3 rfl ⟨⟨⟨trivial, trivial⟩, (by first | decide | assumption)⟩, (by assumption)⟩ ?_
    try simp (disch := omega) only [w1, y, rTp, rI_mul, nI_add, nI_1, nI_clamp, pr_8_m4]
    refine pr_ic rfl (fun h5 => ?_) (fun h5 => ?_)
    · simp only [ab_cmp, pr_8_m4] at h5
      exact absurd h5 e1
    · simp only [ab_cmp, pr_8_m4] at h5
      first
      | contradiction
      | exact absurd trivial h5
      | exact absurd h5 (by decide)
      | exact absurd (Classical.not_not.mp h5) (by decide)
      | skip
        refine pr_seq (pc' := 19) 5 rfl ⟨⟨⟨⟨⟨trivial, (by first | decide | assumption)⟩, (by assumption)⟩, trivial⟩, (by (try simp (disch := omega) only [w1, y, rTp, rI_mul, nI_add, nI_1, nI_clamp, pr_8_m4]); exact ⟨Or.inl (by assumption), rvin (by assumption) (by omega) (by decide)⟩)⟩, trivial⟩ ?_
        try simp (disch := omega) only [w1, y, rTp, rI_mul, nI_add, nI_1, nI_clamp, pr_8_m4]
        exact pr_irM rfl (by rfl) trivial (by rfl)
  · rw [if_neg c]
    have e1 : nI w.length ≤ nI q := nI_le (by omega) hq
    refine pr_seq (pc' := 5) 3 rfl ⟨⟨⟨trivial, trivial⟩, (by first | decide | assumption)⟩, (by assumption)⟩ ?_
    try simp (disch := omega) only [w1, rTp, rI_mul, nI_add, nI_1, nI_clamp, pr_8_m4]
    refine pr_ic rfl (fun h5 => ?_) (fun h5 => ?_)
    · simp only [ab_cmp, pr_8_m4] at h5
      first
      | contradiction
      | exact absurd trivial h5
      | exact absurd h5 (by decide)
      | exact absurd (Classical.not_not.mp h5) (by decide)
      | skip
        refine pr_seq (pc' := 19) 1 rfl ⟨trivial, trivial⟩ ?_
        try simp (disch := omega) only [w1, rTp, rI_mul, nI_add, nI_1, nI_clamp, pr_8_m4]
        exact pr_irM rfl (by rfl) trivial (by rfl)
    · simp only [ab_cmp, pr_8_m4] at h5
      exact absurd e1 h5
theorem bA_in {w : List Nat} {q lo hi : Nat} (hw : ∀ j, j < w.length → w.getD j 0 < 256) (hlo : lo < 128) (hhi : hi < 128) : pr_in (bA w q) (nI lo) (nI hi) = inR w lo hi q := by
  unfold bA inR
  by_cases c : q < w.length
  · have h2 := hw q c
    rw [if_pos c, decide_eq_true c, Bool.true_and]
    unfold pr_in
    rw [decide_eq_decide.mpr (nI_ltI (by omega) (by omega)), decide_eq_decide.mpr (nI_ltI (by omega) (by omega))]
    by_cases c1 : w.getD q 0 < lo
    · rw [decide_eq_true c1, decide_eq_false (show ¬ lo ≤ w.getD q 0 by omega)]; rfl
    · rw [decide_eq_false c1, decide_eq_true (show lo ≤ w.getD q 0 by omega)]
      by_cases c2 : hi < w.getD q 0
      · rw [decide_eq_true c2, decide_eq_false (show ¬ w.getD q 0 ≤ hi by omega)]; rfl
      · rw [decide_eq_false c2, decide_eq_true (show w.getD q 0 ≤ hi by omega)]; rfl
  · rw [if_neg c, decide_eq_false c, Bool.false_and]
    unfold pr_in
    have : (-4 : Int32) < nI lo := by
      rw [Int32.lt_iff_toInt_lt, nI_toInt (by omega)]
      have : (-4 : Int32).toInt = -4 := by decide
      omega
    rw [decide_eq_true this]
    rfl
theorem q_fails1 {c : Nat} (x : Int32) (h : ab_H) (M : ab_M) (hl : rL h M.2.2) (hb : M.1 172 16 = nI c) (hc : 1 ≤ c ∧ c ≤ 6) : pr_C pX11_fails [.ref 172, .int x] h M none h M := by
  obtain ⟨k172, rS, rLs, rKn, rPg, rRl, rRk, rTp, rCu, rLe, rLt, rSm, rIk, rLn, rLg, rCe, ⟨kS, nS⟩, ⟨kLs, nLs⟩, ⟨kKn, nKn⟩, ⟨kPg, nPg⟩, ⟨kRl, nRl⟩, ⟨kRk, nRk⟩, ⟨kTp, nTp⟩, ⟨kCu, nCu⟩, ⟨kLe, nLe⟩, ⟨kLt, nLt⟩, ⟨kSm, nSm⟩, ⟨kIk, nIk⟩, ⟨kLn, nLn⟩, ⟨kLg, nLg⟩, kCe, nCe⟩ := id hl
  have e : ¬ nI c = 0 := nI_ne0 (by omega) (by omega)
  refine pr_seq (pc' := 4) 2 rfl ⟨⟨trivial, (by first | decide | assumption)⟩, (by assumption)⟩ ?_
  try simp (disch := omega) only [hb, rI_mul, nI_add, nI_1, nI_clamp]
  refine pr_if rfl (fun h4 => ?_) (fun h4 => ?_)
  · simp only [ab_cmp] at h4
    first
    | contradiction
    | exact absurd trivial h4
    | exact absurd h4 (by decide)
    | exact absurd (Classical.not_not.mp h4) (by decide)
    | skip
      exact pr_vrM rfl rfl rfl (by rfl)
  · simp only [ab_cmp] at h4
    exact absurd (Classical.not_not.mp h4) e
theorem q_fails0 (x : Int32) (h : ab_H) (M : ab_M) (hl : rL h M.2.2) (hb : M.1 172 16 = 0) : pr_C pX11_fails [.ref 172, .int x] h M none h (ab_u (ab_u M.1 172 16 x) 172 17 (M.1 172 19), M.2.1, M.2.2) := by
  obtain ⟨k172, rS, rLs, rKn, rPg, rRl, rRk, rTp, rCu, rLe, rLt, rSm, rIk, rLn, rLg, rCe, ⟨kS, nS⟩, ⟨kLs, nLs⟩, ⟨kKn, nKn⟩, ⟨kPg, nPg⟩, ⟨kRl, nRl⟩, ⟨kRk, nRk⟩, ⟨kTp, nTp⟩, ⟨kCu, nCu⟩, ⟨kLe, nLe⟩, ⟨kLt, nLt⟩, ⟨kSm, nSm⟩, ⟨kIk, nIk⟩, ⟨kLn, nLn⟩, ⟨kLg, nLg⟩, kCe, nCe⟩ := id hl
  have e : ab_u M.1 172 16 x 172 19 = M.1 172 19 := ab_u_j (by decide)
  refine pr_seq (pc' := 4) 2 rfl ⟨⟨trivial, (by first | decide | assumption)⟩, (by assumption)⟩ ?_
  try simp (disch := omega) only [hb, e, rI_mul, nI_add, nI_1, nI_clamp]
  refine pr_if rfl (fun h4 => ?_) (fun h4 => ?_)
  · simp only [ab_cmp] at h4
    exact absurd trivial h4
  · simp only [ab_cmp] at h4
    first
    | contradiction
    | exact absurd trivial h4
    | exact absurd h4 (by decide)
    | exact absurd (Classical.not_not.mp h4) (by decide)
    | skip
      refine pr_seq (pc' := 20) 7 rfl ⟨⟨⟨⟨⟨⟨⟨trivial, (by first | decide | assumption)⟩, trivial⟩, (by first | assumption | exact ⟨by assumption, by decide⟩ | exact ⟨by assumption, pr_b01 _⟩)⟩, (by first | decide | assumption)⟩, (by first | decide | assumption)⟩, (by assumption)⟩, (by first | assumption | exact ⟨by assumption, by decide⟩ | exact ⟨by assumption, pr_b01 _⟩)⟩ ?_
      try simp (disch := omega) only [hb, e, rI_mul, nI_add, nI_1, nI_clamp]
      exact pr_vrM rfl rfl rfl (by rfl)
/-- the reader's cells; the token it stands at, or the fault -/
def rfr (I I' : Nat → Nat → Int32) : Prop := (∀ a, a ≠ 172 → I' a = I a) ∧ ∀ j, (j < 16 ∨ 21 < j) → I' 172 j = I 172 j
def rsv (I : Nat → Nat → Int32) : Except (Nat × Nat) Tk → Prop
  | .error q => I 172 16 = nI q.1 ∧ (1 ≤ q.1 ∧ q.1 ≤ 6) ∧ I 172 17 = nI q.2
  | .ok T => I 172 16 = 0 ∧ I 172 18 = nI T.2.2.1 ∧ I 172 19 = nI T.2.1 ∧ I 172 20 = nI T.1 ∧ (T.1 = 2 → I 172 21 = nI T.2.2.2)
def stp (w : List Nat) (p : Nat) : Except (Nat × Nat) Tk := if (tok w p).1 = 4 then .error (1, (tok w p).2.1) else .ok (tok w p)
def sp_p (M : ab_M) (e : Except (Nat × Nat) Tk) (r : Option Value) (M' : ab_M) : Prop := r = none ∧ M'.2 = M.2 ∧ rfr M.1 M'.1 ∧ rsv M'.1 e
theorem sp_ok {M : ab_M} {N : Nat → Nat → Int32} {k s e n : Nat} (f : rfr M.1 N) (h16 : N 172 16 = 0) (h18 : N 172 18 = nI e) (h19 : N 172 19 = nI s) (h20 : N 172 20 = nI k) (h21 : k = 2 → N 172 21 = nI n) : sp_p M (.ok (k, s, e, n)) none (N, M.2.1, M.2.2) := ⟨rfl, rfl, f, h16, h18, h19, h20, h21⟩
theorem sp_er {M : ab_M} {N : Nat → Nat → Int32} {c s : Nat} (f : rfr M.1 N) (h16 : N 172 16 = nI c) (hc : 1 ≤ c ∧ c ≤ 6) (h17 : N 172 17 = nI s) : sp_p M (.error (c, s)) none (N, M.2.1, M.2.2) := ⟨rfl, rfl, f, h16, hc, h17⟩
theorem rfr_tr {I I' I'' : Nat → Nat → Int32} (h1 : rfr I I') (h2 : rfr I' I'') : rfr I I'' := ⟨fun a ha => by rw [h2.1 a ha]; exact h1.1 a ha, fun j hj => by rw [h2.2 j hj]; exact h1.2 j hj⟩
theorem rfr_u {I : Nat → Nat → Int32} {k : Nat} {v : Int32} (hk : 16 ≤ k ∧ k ≤ 21) : rfr I (ab_u I 172 k v) := ⟨fun a ha => ab_u_ne ha, fun j hj => ab_u_j (by omega)⟩
theorem rfr_0 {I : Nat → Nat → Int32} : rfr I I := ⟨fun _ _ => rfl, fun _ _ => rfl⟩
theorem rfr_tp {I I' : Nat → Nat → Int32} {w : List Nat} (h : rfr I I') (hw : tp_r I w) : tp_r I' w := tr_cong (h.2 14 (by decide)) (h.1 179 (by decide)) hw
theorem q_stepB {c : Nat} (h : ab_H) (M : ab_M) (hl : rL h M.2.2) (hb : M.1 172 16 = nI c) (hc : 1 ≤ c ∧ c ≤ 6) : pr_C pX11_step [.ref 172] h M none h M := by
  obtain ⟨k172, rS, rLs, rKn, rPg, rRl, rRk, rTp, rCu, rLe, rLt, rSm, rIk, rLn, rLg, rCe, ⟨kS, nS⟩, ⟨kLs, nLs⟩, ⟨kKn, nKn⟩, ⟨kPg, nPg⟩, ⟨kRl, nRl⟩, ⟨kRk, nRk⟩, ⟨kTp, nTp⟩, ⟨kCu, nCu⟩, ⟨kLe, nLe⟩, ⟨kLt, nLt⟩, ⟨kSm, nSm⟩, ⟨kIk, nIk⟩, ⟨kLn, nLn⟩, ⟨kLg, nLg⟩, kCe, nCe⟩ := id hl
  have e : ¬ nI c ≤ 0 := nI_nle (by omega) (by omega)
  refine pr_seq (pc' := 4) 2 rfl ⟨⟨trivial, (by first | decide | assumption)⟩, (by assumption)⟩ ?_
  try simp (disch := omega) only [hb, rI_mul, nI_add, nI_1, nI_clamp, pr_8_10, pr_8_32, pr_8_48, pr_8_59, pr_8_m4, pr_i_0, pr_i_1, pr_i_2, pr_i_3]
  refine pr_if rfl (fun h4 => ?_) (fun h4 => ?_)
  · simp only [ab_cmp, pr_8_10, pr_8_32, pr_8_48, pr_8_59, pr_8_m4, pr_i_0, pr_i_1, pr_i_2, pr_i_3] at h4
    exact absurd h4 e
  · simp only [ab_cmp, pr_8_10, pr_8_32, pr_8_48, pr_8_59, pr_8_m4, pr_i_0, pr_i_1, pr_i_2, pr_i_3] at h4
    first
    | contradiction
    | exact absurd trivial h4
    | exact absurd h4 (by decide)
    | exact absurd (Classical.not_not.mp h4) (by decide)
    | skip
      exact pr_vrM rfl rfl rfl (by rfl)
theorem run_iff {w : List Nat} {lo hi p q : Nat} (hp : p ≤ q) (hq : q ≤ re w lo hi p) : (q < re w lo hi p → inR w lo hi q = true) ∧ (q = re w lo hi p → inR w lo hi q = false) := ⟨fun z => runE_in w lo hi _ p q hp z, fun z => by rw [z]; exact runE_end w lo hi _ p (by omega)⟩
set_option maxHeartbeats 4000000 in
theorem q_step {w : List Nat} {p : Nat} (h : ab_H) (M : ab_M) (hl : rL h M.2.2) (hw : tp_r M.1 w) (hb : M.1 172 16 = 0) (hs : M.1 172 18 = nI p) (hp : p ≤ w.length) : pr_X pX11_step [.ref 172] h M (sp_p M (stp w p)) := by
  obtain ⟨k172, rS, rLs, rKn, rPg, rRl, rRk, rTp, rCu, rLe, rLt, rSm, rIk, rLn, rLg, rCe, ⟨kS, nS⟩, ⟨kLs, nLs⟩, ⟨kKn, nKn⟩, ⟨kPg, nPg⟩, ⟨kRl, nRl⟩, ⟨kRk, nRk⟩, ⟨kTp, nTp⟩, ⟨kCu, nCu⟩, ⟨kLe, nLe⟩, ⟨kLt, nLt⟩, ⟨kSm, nSm⟩, ⟨kIk, nIk⟩, ⟨kLn, nLn⟩, ⟨kLg, nLg⟩, kCe, nCe⟩ := id hl
  have hw2 := hw.2.1
  have hw3 : ∀ j, j < w.length → w.getD j 0 < 256 := fun j hj => (hw.2.2 j hj).2
  have hrl := re_le (lo := 32) (hi := 32) hp
  have n0 : nI 0 = 0 := rfl
  have c32 : (32 : Int32) = nI 32 := rfl
  have c10 : (10 : Int32) = nI 10 := rfl
  have c48 : (48 : Int32) = nI 48 := rfl
  have c59 : (59 : Int32) = nI 59 := rfl
  have body : ∀ I : Nat → Nat → Int32, rfr M.1 I → I 172 16 = 0 → I 172 18 = nI (re w 32 32 p) → ∀ z1, pr_T pX11_step 34 [some (.ref 172), z1] [] h (I, M.2) (sp_p M (stp w p)) := by
    intro I hf b16 b18 z1
    unfold stp tok
    generalize hS : re w 32 32 p = s at *
    have hsw : s ≤ w.length := hrl.2
    have hwI := rfr_tp hf hw
    have f1 : rfr M.1 (ab_u (ab_u I 172 19 (nI s)) 172 21 0) := rfr_tr hf (rfr_tr (rfr_u (by decide)) (rfr_u (by decide)))
    have hwJ := rfr_tp f1 hw
    have t18 : ab_u I 172 19 (nI s) 172 18 = nI s := by rw [ab_u_j (by decide)]; exact b18
    have hby := q_byteAt (q := s) h (ab_u I 172 19 (nI s), M.2) hl (rfr_tp (rfr_tr hf (rfr_u (by decide))) hw) (by omega)
    have iL := q_in (a := (bA w s).toInt64) (b := Int64.ofNat 97) (c := Int64.ofNat 122) (bA w s) (nI 97) (nI 122) h (ab_u (ab_u I 172 19 (nI s)) 172 21 0, M.2) rfl rfl rfl
    have iD := q_in (a := (bA w s).toInt64) (b := Int64.ofNat 48) (c := Int64.ofNat 57) (bA w s) (nI 48) (nI 57) h (ab_u (ab_u I 172 19 (nI s)) 172 21 0, M.2) rfl rfl rfl
    rw [bA_in hw3 (by decide) (by decide)] at iL iD
    have j16 : ab_u (ab_u I 172 19 (nI s)) 172 21 0 172 16 = 0 := by rw [ab_u_j (by decide), ab_u_j (by decide)]; exact b16
    have j18 : ab_u (ab_u I 172 19 (nI s)) 172 21 0 172 18 = nI s := by rw [ab_u_j (by decide)]; exact t18
    have j19 : ab_u (ab_u I 172 19 (nI s)) 172 21 0 172 19 = nI s := by rw [ab_u_j (by decide), ab_u_at]
    have j21 : ab_u (ab_u I 172 19 (nI s)) 172 21 0 172 21 = nI 0 := ab_u_at
    generalize hJ : ab_u (ab_u I 172 19 (nI s)) 172 21 0 = J at *
    by_cases cA : w.length ≤ s
    · rw [if_pos cA]
      have ebA : bA w s = -4 := by unfold bA; rw [if_neg (by omega)]
      rw [ebA] at hby
      refine (?_ : pr_T pX11_step 34 _ [] h (I, M.2) (sp_p M (.ok (0, s, s, 0))))
      have fin : sp_p M (.ok (0, s, s, 0)) none (ab_u J 172 20 0, M.2.1, M.2.2) := sp_ok (rfr_tr f1 (rfr_u (by decide))) (by rw [ab_u_j (by decide)]; exact j16) (by rw [ab_u_j (by decide)]; exact j18) (by rw [ab_u_j (by decide)]; exact j19) (by rw [ab_u_at]; rfl) (fun z => absurd z (by decide))
      refine pr_seqT (pc' := 47) 7 rfl ⟨⟨⟨⟨⟨⟨⟨trivial, (by first | decide | assumption)⟩, (by first | decide | assumption)⟩, (by assumption)⟩, (by first | assumption | exact ⟨by assumption, by decide⟩ | exact ⟨by assumption, pr_b01 _⟩)⟩, (by first | decide | assumption)⟩, (by first | decide | assumption)⟩, (by assumption)⟩ ?_
      try simp (disch := omega) only [b18, t18, hJ, rI_mul, nI_add, nI_1, nI_clamp, pr_8_10, pr_8_32, pr_8_48, pr_8_59, pr_8_m4, pr_i_0, pr_i_1, pr_i_2, pr_i_3]
      refine pr_cvT [_] rfl rfl rfl rfl rfl (Nat.le_of_ble_eq_true rfl) (by first | assumption | decide | (simp (disch := omega) only [b18, t18, hJ, rI_mul, nI_add, nI_1, nI_clamp, pr_8_10, pr_8_32, pr_8_48, pr_8_59, pr_8_m4, pr_i_0, pr_i_1, pr_i_2, pr_i_3]; first | assumption | exact ⟨Or.inl (by assumption), rvin (by assumption) (by omega) (by decide)⟩ | exact ⟨by assumption, rvin (by assumption) (by omega) (by decide)⟩ | exact ⟨⟨by omega, by omega⟩, rvin (by assumption) (by omega) (by decide)⟩ | exact ⟨Or.inr (by assumption), rvin (by assumption) (by omega) (by decide)⟩ | exact ⟨Or.inr ⟨by assumption, (by first | exact Or.inl rfl | exact Or.inr rfl | exact pr_b01 _)⟩, rvin (by assumption) (by omega) (by decide)⟩ | exact ⟨by assumption, by assumption⟩ | decide | omega)) (Nat.le_of_ble_eq_true rfl) (hby) ?_
      refine pr_seqT (pc' := 59) 6 rfl ⟨⟨⟨⟨⟨⟨trivial, trivial⟩, (by first | decide | assumption)⟩, trivial⟩, (by first | assumption | exact ⟨by assumption, by decide⟩ | exact ⟨by assumption, pr_b01 _⟩)⟩, trivial⟩, trivial⟩ ?_
      try simp (disch := omega) only [b18, t18, hJ, rI_mul, nI_add, nI_1, nI_clamp, pr_8_10, pr_8_32, pr_8_48, pr_8_59, pr_8_m4, pr_i_0, pr_i_1, pr_i_2, pr_i_3]
      refine pr_icT rfl (fun h59 => ?_) (fun h59 => ?_)
      · simp only [ab_cmp, pr_8_10, pr_8_32, pr_8_48, pr_8_59, pr_8_m4, pr_i_0, pr_i_1, pr_i_2, pr_i_3] at h59
        exact absurd trivial h59
      · simp only [ab_cmp, pr_8_10, pr_8_32, pr_8_48, pr_8_59, pr_8_m4, pr_i_0, pr_i_1, pr_i_2, pr_i_3] at h59
        first
        | contradiction
        | exact absurd trivial h59
        | exact absurd h59 (by decide)
        | exact absurd (Classical.not_not.mp h59) (by decide)
        | skip
          refine pr_seqT (pc' := 269) 4 rfl ⟨⟨⟨⟨trivial, (by first | decide | assumption)⟩, trivial⟩, (by first | assumption | exact ⟨by assumption, by decide⟩ | exact ⟨by assumption, pr_b01 _⟩)⟩, trivial⟩ ?_
          try simp (disch := omega) only [b18, t18, hJ, rI_mul, nI_add, nI_1, nI_clamp, pr_8_10, pr_8_32, pr_8_48, pr_8_59, pr_8_m4, pr_i_0, pr_i_1, pr_i_2, pr_i_3]
          exact pr_vrT rfl rfl (by exact fin)
    · rw [if_neg cA]
      have hsl : s < w.length := by omega
      have ebA : bA w s = nI (w.getD s 0) := by unfold bA; rw [if_pos hsl]
      have hb256 := hw3 s hsl
      have eN : ¬ nI (w.getD s 0) = -4 := fun z => by
        have := nI_toInt (n := w.getD s 0) (by omega)
        rw [z] at this
        have e : (-4 : Int32).toInt = -4 := by decide
        omega
      have uL : inR w 97 122 s = decide (97 ≤ w.getD s 0 ∧ w.getD s 0 ≤ 122) := by unfold inR; rw [decide_eq_true hsl, Bool.true_and, Bool.decide_and]
      have uD : inR w 48 57 s = decide (48 ≤ w.getD s 0 ∧ w.getD s 0 ≤ 57) := by unfold inR; rw [decide_eq_true hsl, Bool.true_and, Bool.decide_and]
      rw [uL] at iL
      rw [uD] at iD
      rw [ebA] at hby iL iD
      by_cases cB : w.getD s 0 = 59
      · rw [if_pos cB]
        rw [decide_eq_false (by omega)] at iL iD
        have z59 : nI (w.getD s 0) = nI 59 := by rw [cB]
        have k18 : ab_u J 172 20 (nI 3) 172 18 = nI s := by rw [ab_u_j (by decide)]; exact j18
        refine (?_ : pr_T pX11_step 34 _ [] h (I, M.2) (sp_p M (.ok (3, s, s + 1, 0))))
        have fin : sp_p M (.ok (3, s, s + 1, 0)) none (ab_u (ab_u J 172 20 (nI 3)) 172 18 (nI (s + 1)), M.2.1, M.2.2) := sp_ok (rfr_tr f1 (rfr_tr (rfr_u (by decide)) (rfr_u (by decide)))) (by rw [ab_u_j (by decide), ab_u_j (by decide)]; exact j16) ab_u_at (by rw [ab_u_j (by decide), ab_u_j (by decide)]; exact j19) (by rw [ab_u_j (by decide), ab_u_at]) (fun z => absurd z (by decide))
        refine pr_seqT (pc' := 47) 7 rfl ⟨⟨⟨⟨⟨⟨⟨trivial, (by first | decide | assumption)⟩, (by first | decide | assumption)⟩, (by assumption)⟩, (by first | assumption | exact ⟨by assumption, by decide⟩ | exact ⟨by assumption, pr_b01 _⟩)⟩, (by first | decide | assumption)⟩, (by first | decide | assumption)⟩, (by assumption)⟩ ?_
        try simp (disch := omega) only [c3, c59, b18, t18, hJ, k18, rI_mul, nI_add, nI_1, nI_clamp, pr_8_10, pr_8_32, pr_8_48, pr_8_59, pr_8_m4, pr_i_0, pr_i_1, pr_i_2, pr_i_3]
        refine pr_cvT [_] rfl rfl rfl rfl rfl (Nat.le_of_ble_eq_true rfl) (by first | assumption | decide | (simp (disch := omega) only [c3, c59, b18, t18, hJ, k18, rI_mul, nI_add, nI_1, nI_clamp, pr_8_10, pr_8_32, pr_8_48, pr_8_59, pr_8_m4, pr_i_0, pr_i_1, pr_i_2, pr_i_3]; first | assumption | exact ⟨Or.inl (by assumption), rvin (by assumption) (by omega) (by decide)⟩ | exact ⟨by assumption, rvin (by assumption) (by omega) (by decide)⟩ | exact ⟨⟨by omega, by omega⟩, rvin (by assumption) (by omega) (by decide)⟩ | exact ⟨Or.inr (by assumption), rvin (by assumption) (by omega) (by decide)⟩ | exact ⟨Or.inr ⟨by assumption, (by first | exact Or.inl rfl | exact Or.inr rfl | exact pr_b01 _)⟩, rvin (by assumption) (by omega) (by decide)⟩ | exact ⟨by assumption, by assumption⟩ | decide | omega)) (Nat.le_of_ble_eq_true rfl) (hby) ?_
        refine pr_seqT (pc' := 59) 6 rfl ⟨⟨⟨⟨⟨⟨trivial, trivial⟩, (by first | decide | assumption)⟩, trivial⟩, (by first | assumption | exact ⟨by assumption, by decide⟩ | exact ⟨by assumption, pr_b01 _⟩)⟩, trivial⟩, trivial⟩ ?_
        try simp (disch := omega) only [c3, c59, b18, t18, hJ, k18, rI_mul, nI_add, nI_1, nI_clamp, pr_8_10, pr_8_32, pr_8_48, pr_8_59, pr_8_m4, pr_i_0, pr_i_1, pr_i_2, pr_i_3]
        refine pr_icT rfl (fun h59 => ?_) (fun h59 => ?_)
        · simp only [ab_cmp, pr_8_10, pr_8_32, pr_8_48, pr_8_59, pr_8_m4, pr_i_0, pr_i_1, pr_i_2, pr_i_3] at h59
          first
          | contradiction
          | exact absurd trivial h59
          | exact absurd h59 (by decide)
          | exact absurd (Classical.not_not.mp h59) (by decide)
          | skip
            refine pr_seqT (pc' := 78) 4 rfl ⟨⟨⟨⟨trivial, trivial⟩, trivial⟩, trivial⟩, trivial⟩ ?_
            try simp (disch := omega) only [c3, c59, b18, t18, hJ, k18, rI_mul, nI_add, nI_1, nI_clamp, pr_8_10, pr_8_32, pr_8_48, pr_8_59, pr_8_m4, pr_i_0, pr_i_1, pr_i_2, pr_i_3]
            refine pr_csT [_, _, _] rfl rfl rfl rfl rfl (Nat.le_of_ble_eq_true rfl) (Nat.le_of_ble_eq_true rfl) (iL) ?_
            refine pr_ifT rfl (fun h81 => ?_) (fun h81 => ?_)
            · simp only [ab_cmp, pr_8_10, pr_8_32, pr_8_48, pr_8_59, pr_8_m4, pr_i_0, pr_i_1, pr_i_2, pr_i_3] at h81
              first
              | contradiction
              | exact absurd trivial h81
              | exact absurd h81 (by decide)
              | exact absurd (Classical.not_not.mp h81) (by decide)
              | skip
                refine pr_seqT (pc' := 134) 4 rfl ⟨⟨⟨⟨trivial, trivial⟩, trivial⟩, trivial⟩, trivial⟩ ?_
                try simp (disch := omega) only [c3, c59, b18, t18, hJ, k18, rI_mul, nI_add, nI_1, nI_clamp, pr_8_10, pr_8_32, pr_8_48, pr_8_59, pr_8_m4, pr_i_0, pr_i_1, pr_i_2, pr_i_3]
                refine pr_csT [_, _, _] rfl rfl rfl rfl rfl (Nat.le_of_ble_eq_true rfl) (Nat.le_of_ble_eq_true rfl) (iD) ?_
                refine pr_ifT rfl (fun h137 => ?_) (fun h137 => ?_)
                · simp only [ab_cmp, pr_8_10, pr_8_32, pr_8_48, pr_8_59, pr_8_m4, pr_i_0, pr_i_1, pr_i_2, pr_i_3] at h137
                  first
                  | contradiction
                  | exact absurd trivial h137
                  | exact absurd h137 (by decide)
                  | exact absurd (Classical.not_not.mp h137) (by decide)
                  | skip
                    refine pr_seqT (pc' := 261) 11 rfl ⟨⟨⟨⟨⟨⟨⟨⟨⟨⟨⟨trivial, (by first | decide | assumption)⟩, trivial⟩, (by first | assumption | exact ⟨by assumption, by decide⟩ | exact ⟨by assumption, pr_b01 _⟩)⟩, (by first | decide | assumption)⟩, trivial⟩, (by assumption)⟩, trivial⟩, trivial⟩, (by first | assumption | exact ⟨by assumption, by decide⟩ | exact ⟨by assumption, pr_b01 _⟩)⟩, trivial⟩, trivial⟩ ?_
                    try simp (disch := omega) only [c3, c59, b18, t18, hJ, k18, rI_mul, nI_add, nI_1, nI_clamp, pr_8_10, pr_8_32, pr_8_48, pr_8_59, pr_8_m4, pr_i_0, pr_i_1, pr_i_2, pr_i_3]
                    refine pr_icT rfl (fun h261 => ?_) (fun h261 => ?_)
                    · simp only [ab_cmp, pr_8_10, pr_8_32, pr_8_48, pr_8_59, pr_8_m4, pr_i_0, pr_i_1, pr_i_2, pr_i_3] at h261
                      first
                      | contradiction
                      | exact absurd trivial h261
                      | exact absurd h261 (by decide)
                      | exact absurd (Classical.not_not.mp h261) (by decide)
                      | skip
                        exact pr_vrT rfl rfl (by exact fin)
                    · simp only [ab_cmp, pr_8_10, pr_8_32, pr_8_48, pr_8_59, pr_8_m4, pr_i_0, pr_i_1, pr_i_2, pr_i_3] at h261
                      exact absurd z59 h261
                · simp only [ab_cmp, pr_8_10, pr_8_32, pr_8_48, pr_8_59, pr_8_m4, pr_i_0, pr_i_1, pr_i_2, pr_i_3] at h137
                  exact absurd rfl h137
            · simp only [ab_cmp, pr_8_10, pr_8_32, pr_8_48, pr_8_59, pr_8_m4, pr_i_0, pr_i_1, pr_i_2, pr_i_3] at h81
              exact absurd rfl h81
        · simp only [ab_cmp, pr_8_10, pr_8_32, pr_8_48, pr_8_59, pr_8_m4, pr_i_0, pr_i_1, pr_i_2, pr_i_3] at h59
          exact absurd (Classical.not_not.mp h59) eN
      · rw [if_neg cB]
        have z59 : ¬ nI (w.getD s 0) = nI 59 := nI_ne cB (by omega) (by decide)
        by_cases cC : 97 ≤ w.getD s 0 ∧ w.getD s 0 ≤ 122
        · rw [if_pos cC]
          rw [decide_eq_true cC] at iL
          refine (?_ : pr_T pX11_step 34 _ [] h (I, M.2) (sp_p M (.ok (1, s, re w 97 122 s, 0))))
          have hrs := re_le (lo := 97) (hi := 122) hsw
          have loop : ∀ dd q, q + dd = re w 97 122 s → s ≤ q → ∀ N : Nat → Nat → Int32, rfr M.1 N → N 172 16 = 0 → N 172 19 = nI s → N 172 18 = nI q → pr_T pX11_step 84 [some (.ref 172), some (.int (nI (w.getD s 0)))] [] h (N, M.2) (sp_p M (.ok (1, s, re w 97 122 s, 0))) := by
            intro dd
            induction dd with
            | zero =>
              intro q hq hsq N g1 g2 g3 g4
              obtain rfl : q = re w 97 122 s := by omega
              have hby2 := q_byteAt (q := re w 97 122 s) h (N, M.2) hl (rfr_tp g1 hw) (by omega)
              have i2 := q_in (a := (bA w (re w 97 122 s)).toInt64) (b := Int64.ofNat 97) (c := Int64.ofNat 122) (bA w (re w 97 122 s)) (nI 97) (nI 122) h (N, M.2) rfl rfl rfl
              rw [bA_in hw3 (by decide) (by decide), (run_iff hsq (Nat.le_refl _)).2 rfl] at i2
              have n1 : (1 : Int32) = nI 1 := rfl
              have fin : sp_p M (.ok (1, s, re w 97 122 s, 0)) none (ab_u N 172 20 1, M.2.1, M.2.2) := sp_ok (rfr_tr g1 (rfr_u (by decide))) (by rw [ab_u_j (by decide)]; exact g2) (by rw [ab_u_j (by decide)]; exact g4) (by rw [ab_u_j (by decide)]; exact g3) (by rw [ab_u_at]; rfl) (fun z => absurd z (by decide))
              refine pr_seqT (pc' := 89) 3 rfl ⟨⟨⟨trivial, (by first | decide | assumption)⟩, (by first | decide | assumption)⟩, (by assumption)⟩ ?_
              try simp (disch := omega) only [g4, rI_mul, nI_add, nI_1, nI_clamp, pr_8_10, pr_8_32, pr_8_48, pr_8_59, pr_8_m4, pr_i_0, pr_i_1, pr_i_2, pr_i_3]
              refine pr_cvT [_] rfl rfl rfl rfl rfl (Nat.le_of_ble_eq_true rfl) (by first | assumption | decide | (simp (disch := omega) only [g4, rI_mul, nI_add, nI_1, nI_clamp, pr_8_10, pr_8_32, pr_8_48, pr_8_59, pr_8_m4, pr_i_0, pr_i_1, pr_i_2, pr_i_3]; first | assumption | exact ⟨Or.inl (by assumption), rvin (by assumption) (by omega) (by decide)⟩ | exact ⟨by assumption, rvin (by assumption) (by omega) (by decide)⟩ | exact ⟨⟨by omega, by omega⟩, rvin (by assumption) (by omega) (by decide)⟩ | exact ⟨Or.inr (by assumption), rvin (by assumption) (by omega) (by decide)⟩ | exact ⟨Or.inr ⟨by assumption, (by first | exact Or.inl rfl | exact Or.inr rfl | exact pr_b01 _)⟩, rvin (by assumption) (by omega) (by decide)⟩ | exact ⟨by assumption, by assumption⟩ | decide | omega)) (Nat.le_of_ble_eq_true rfl) (hby2) ?_
              refine pr_seqT (pc' := 99) 3 rfl ⟨⟨⟨trivial, trivial⟩, trivial⟩, trivial⟩ ?_
              try simp (disch := omega) only [g4, rI_mul, nI_add, nI_1, nI_clamp, pr_8_10, pr_8_32, pr_8_48, pr_8_59, pr_8_m4, pr_i_0, pr_i_1, pr_i_2, pr_i_3]
              refine pr_csT [_, _, _] rfl rfl rfl rfl rfl (Nat.le_of_ble_eq_true rfl) (Nat.le_of_ble_eq_true rfl) (i2) ?_
              refine pr_ifT rfl (fun h102 => ?_) (fun h102 => ?_)
              · simp only [ab_cmp, pr_8_10, pr_8_32, pr_8_48, pr_8_59, pr_8_m4, pr_i_0, pr_i_1, pr_i_2, pr_i_3] at h102
                first
                | contradiction
                | exact absurd trivial h102
                | exact absurd h102 (by decide)
                | exact absurd (Classical.not_not.mp h102) (by decide)
                | skip
                  refine pr_seqT (pc' := 269) 4 rfl ⟨⟨⟨⟨trivial, (by first | decide | assumption)⟩, trivial⟩, (by first | assumption | exact ⟨by assumption, by decide⟩ | exact ⟨by assumption, pr_b01 _⟩)⟩, trivial⟩ ?_
                  try simp (disch := omega) only [g4, rI_mul, nI_add, nI_1, nI_clamp, pr_8_10, pr_8_32, pr_8_48, pr_8_59, pr_8_m4, pr_i_0, pr_i_1, pr_i_2, pr_i_3]
                  exact pr_vrT rfl rfl (by exact fin)
              · simp only [ab_cmp, pr_8_10, pr_8_32, pr_8_48, pr_8_59, pr_8_m4, pr_i_0, pr_i_1, pr_i_2, pr_i_3] at h102
                exact absurd rfl h102
            | succ dd ih =>
              intro q hq hsq N g1 g2 g3 g4
              have hby2 := q_byteAt (q := q) h (N, M.2) hl (rfr_tp g1 hw) (by omega)
              have i2 := q_in (a := (bA w q).toInt64) (b := Int64.ofNat 97) (c := Int64.ofNat 122) (bA w q) (nI 97) (nI 122) h (N, M.2) rfl rfl rfl
              rw [bA_in hw3 (by decide) (by decide), (run_iff hsq (by omega)).1 (by omega)] at i2
              have hh := ih (q + 1) (by omega) (by omega) (ab_u N 172 18 (nI (q + 1))) (rfr_tr g1 (rfr_u (by decide))) (by rw [ab_u_j (by decide)]; exact g2) (by rw [ab_u_j (by decide)]; exact g3) ab_u_at
              refine pr_seqT (pc' := 89) 3 rfl ⟨⟨⟨trivial, (by first | decide | assumption)⟩, (by first | decide | assumption)⟩, (by assumption)⟩ ?_
              try simp (disch := omega) only [g4, rI_mul, nI_add, nI_1, nI_clamp, pr_8_10, pr_8_32, pr_8_48, pr_8_59, pr_8_m4, pr_i_0, pr_i_1, pr_i_2, pr_i_3]
              refine pr_cvT [_] rfl rfl rfl rfl rfl (Nat.le_of_ble_eq_true rfl) (by first | assumption | decide | (simp (disch := omega) only [g4, rI_mul, nI_add, nI_1, nI_clamp, pr_8_10, pr_8_32, pr_8_48, pr_8_59, pr_8_m4, pr_i_0, pr_i_1, pr_i_2, pr_i_3]; first | assumption | exact ⟨Or.inl (by assumption), rvin (by assumption) (by omega) (by decide)⟩ | exact ⟨by assumption, rvin (by assumption) (by omega) (by decide)⟩ | exact ⟨⟨by omega, by omega⟩, rvin (by assumption) (by omega) (by decide)⟩ | exact ⟨Or.inr (by assumption), rvin (by assumption) (by omega) (by decide)⟩ | exact ⟨Or.inr ⟨by assumption, (by first | exact Or.inl rfl | exact Or.inr rfl | exact pr_b01 _)⟩, rvin (by assumption) (by omega) (by decide)⟩ | exact ⟨by assumption, by assumption⟩ | decide | omega)) (Nat.le_of_ble_eq_true rfl) (hby2) ?_
              refine pr_seqT (pc' := 99) 3 rfl ⟨⟨⟨trivial, trivial⟩, trivial⟩, trivial⟩ ?_
              try simp (disch := omega) only [g4, rI_mul, nI_add, nI_1, nI_clamp, pr_8_10, pr_8_32, pr_8_48, pr_8_59, pr_8_m4, pr_i_0, pr_i_1, pr_i_2, pr_i_3]
              refine pr_csT [_, _, _] rfl rfl rfl rfl rfl (Nat.le_of_ble_eq_true rfl) (Nat.le_of_ble_eq_true rfl) (i2) ?_
              refine pr_ifT rfl (fun h102 => ?_) (fun h102 => ?_)
              · simp only [ab_cmp, pr_8_10, pr_8_32, pr_8_48, pr_8_59, pr_8_m4, pr_i_0, pr_i_1, pr_i_2, pr_i_3] at h102
                exact absurd h102 (by decide)
              · simp only [ab_cmp, pr_8_10, pr_8_32, pr_8_48, pr_8_59, pr_8_m4, pr_i_0, pr_i_1, pr_i_2, pr_i_3] at h102
                first
                | contradiction
                | exact absurd trivial h102
                | exact absurd h102 (by decide)
                | exact absurd (Classical.not_not.mp h102) (by decide)
                | skip
                  refine pr_seqT (pc' := 84) 7 rfl ⟨⟨⟨⟨⟨⟨⟨trivial, (by first | decide | assumption)⟩, trivial⟩, (by assumption)⟩, trivial⟩, trivial⟩, (by first | assumption | exact ⟨by assumption, by decide⟩ | exact ⟨by assumption, pr_b01 _⟩)⟩, trivial⟩ ?_
                  try simp (disch := omega) only [g4, rI_mul, nI_add, nI_1, nI_clamp, pr_8_10, pr_8_32, pr_8_48, pr_8_59, pr_8_m4, pr_i_0, pr_i_1, pr_i_2, pr_i_3]
                  exact hh
          have h0 := loop (re w 97 122 s - s) s (by omega) (Nat.le_refl _) J f1 j16 j19 j18
          refine pr_seqT (pc' := 47) 7 rfl ⟨⟨⟨⟨⟨⟨⟨trivial, (by first | decide | assumption)⟩, (by first | decide | assumption)⟩, (by assumption)⟩, (by first | assumption | exact ⟨by assumption, by decide⟩ | exact ⟨by assumption, pr_b01 _⟩)⟩, (by first | decide | assumption)⟩, (by first | decide | assumption)⟩, (by assumption)⟩ ?_
          try simp (disch := omega) only [b18, t18, hJ, rI_mul, nI_add, nI_1, nI_clamp, pr_8_10, pr_8_32, pr_8_48, pr_8_59, pr_8_m4, pr_i_0, pr_i_1, pr_i_2, pr_i_3]
          refine pr_cvT [_] rfl rfl rfl rfl rfl (Nat.le_of_ble_eq_true rfl) (by first | assumption | decide | (simp (disch := omega) only [b18, t18, hJ, rI_mul, nI_add, nI_1, nI_clamp, pr_8_10, pr_8_32, pr_8_48, pr_8_59, pr_8_m4, pr_i_0, pr_i_1, pr_i_2, pr_i_3]; first | assumption | exact ⟨Or.inl (by assumption), rvin (by assumption) (by omega) (by decide)⟩ | exact ⟨by assumption, rvin (by assumption) (by omega) (by decide)⟩ | exact ⟨⟨by omega, by omega⟩, rvin (by assumption) (by omega) (by decide)⟩ | exact ⟨Or.inr (by assumption), rvin (by assumption) (by omega) (by decide)⟩ | exact ⟨Or.inr ⟨by assumption, (by first | exact Or.inl rfl | exact Or.inr rfl | exact pr_b01 _)⟩, rvin (by assumption) (by omega) (by decide)⟩ | exact ⟨by assumption, by assumption⟩ | decide | omega)) (Nat.le_of_ble_eq_true rfl) (hby) ?_
          refine pr_seqT (pc' := 59) 6 rfl ⟨⟨⟨⟨⟨⟨trivial, trivial⟩, (by first | decide | assumption)⟩, trivial⟩, (by first | assumption | exact ⟨by assumption, by decide⟩ | exact ⟨by assumption, pr_b01 _⟩)⟩, trivial⟩, trivial⟩ ?_
          try simp (disch := omega) only [b18, t18, hJ, rI_mul, nI_add, nI_1, nI_clamp, pr_8_10, pr_8_32, pr_8_48, pr_8_59, pr_8_m4, pr_i_0, pr_i_1, pr_i_2, pr_i_3]
          refine pr_icT rfl (fun h59 => ?_) (fun h59 => ?_)
          · simp only [ab_cmp, pr_8_10, pr_8_32, pr_8_48, pr_8_59, pr_8_m4, pr_i_0, pr_i_1, pr_i_2, pr_i_3] at h59
            first
            | contradiction
            | exact absurd trivial h59
            | exact absurd h59 (by decide)
            | exact absurd (Classical.not_not.mp h59) (by decide)
            | skip
              refine pr_seqT (pc' := 78) 4 rfl ⟨⟨⟨⟨trivial, trivial⟩, trivial⟩, trivial⟩, trivial⟩ ?_
              try simp (disch := omega) only [b18, t18, hJ, rI_mul, nI_add, nI_1, nI_clamp, pr_8_10, pr_8_32, pr_8_48, pr_8_59, pr_8_m4, pr_i_0, pr_i_1, pr_i_2, pr_i_3]
              refine pr_csT [_, _, _] rfl rfl rfl rfl rfl (Nat.le_of_ble_eq_true rfl) (Nat.le_of_ble_eq_true rfl) (iL) ?_
              refine pr_ifT rfl (fun h81 => ?_) (fun h81 => ?_)
              · simp only [ab_cmp, pr_8_10, pr_8_32, pr_8_48, pr_8_59, pr_8_m4, pr_i_0, pr_i_1, pr_i_2, pr_i_3] at h81
                exact absurd h81 (by decide)
              · simp only [ab_cmp, pr_8_10, pr_8_32, pr_8_48, pr_8_59, pr_8_m4, pr_i_0, pr_i_1, pr_i_2, pr_i_3] at h81
                first
                | contradiction
                | exact absurd trivial h81
                | exact absurd h81 (by decide)
                | exact absurd (Classical.not_not.mp h81) (by decide)
                | skip
                  exact h0
          · simp only [ab_cmp, pr_8_10, pr_8_32, pr_8_48, pr_8_59, pr_8_m4, pr_i_0, pr_i_1, pr_i_2, pr_i_3] at h59
            exact absurd (Classical.not_not.mp h59) eN
        · rw [if_neg cC]
          rw [decide_eq_false cC] at iL
          by_cases cD : 48 ≤ w.getD s 0 ∧ w.getD s 0 ≤ 57
          · rw [if_pos cD]
            rw [decide_eq_true cD] at iD
            have hrs := re_le (lo := 48) (hi := 57) hsw
            generalize hE : (if re w 48 57 s - s ≤ 3 then ((2, s, re w 48 57 s, num w s (re w 48 57 s - s)) : Nat × Nat × Nat × Nat) else (4, s, re w 48 57 s, 0)) = T
            have loop : ∀ dd q, q + dd = re w 48 57 s → s ≤ q → ∀ N : Nat → Nat → Int32, rfr M.1 N → N 172 16 = 0 → N 172 19 = nI s → N 172 18 = nI q → N 172 21 = nI (num w s (if q - s ≤ 3 then q - s else 3)) → pr_T pX11_step 140 [some (.ref 172), some (.int (nI (w.getD s 0)))] [] h (N, M.2) (sp_p M (if T.1 = 4 then .error (1, T.2.1) else .ok T)) := by
              intro dd
              induction dd with
              | zero =>
                intro q hq hsq N g1 g2 g3 g4 g5
                obtain rfl : q = re w 48 57 s := by omega
                have hby2 := q_byteAt (q := re w 48 57 s) h (N, M.2) hl (rfr_tp g1 hw) (by omega)
                have i2 := q_in (a := (bA w (re w 48 57 s)).toInt64) (b := Int64.ofNat 48) (c := Int64.ofNat 57) (bA w (re w 48 57 s)) (nI 48) (nI 57) h (N, M.2) rfl rfl rfl
                rw [bA_in hw3 (by decide) (by decide), (run_iff hsq (Nat.le_refl _)).2 rfl] at i2
                have a18 : ab_u N 172 20 (nI 2) 172 18 = nI (re w 48 57 s) := by rw [ab_u_j (by decide)]; exact g4
                have a19 : ab_u N 172 20 (nI 2) 172 19 = nI s := by rw [ab_u_j (by decide)]; exact g3
                have a16 : ab_u N 172 20 (nI 2) 172 16 = 0 := by rw [ab_u_j (by decide)]; exact g2
                have esub : nI (re w 48 57 s) - nI s = nI (re w 48 57 s - s) := i_sub hsq
                by_cases c3' : re w 48 57 s - s ≤ 3
                · rw [if_pos c3'] at hE g5
                  subst hE
                  have e3 : nI (re w 48 57 s - s) ≤ nI 3 := nI_le c3' (by decide)
                  have fin : sp_p M (.ok (2, s, re w 48 57 s, num w s (re w 48 57 s - s))) none (ab_u N 172 20 (nI 2), M.2.1, M.2.2) := sp_ok (rfr_tr g1 (rfr_u (by decide))) a16 a18 a19 ab_u_at (fun _ => by rw [ab_u_j (by decide)]; exact g5)
                  refine pr_seqT (pc' := 145) 3 rfl ⟨⟨⟨trivial, (by first | decide | assumption)⟩, (by first | decide | assumption)⟩, (by assumption)⟩ ?_
                  try simp (disch := omega) only [g4, c2, c3, a18, a19, esub, rI_mul, nI_add, nI_1, nI_clamp, pr_8_10, pr_8_32, pr_8_48, pr_8_59, pr_8_m4, pr_i_0, pr_i_1, pr_i_2, pr_i_3]
                  refine pr_cvT [_] rfl rfl rfl rfl rfl (Nat.le_of_ble_eq_true rfl) (by first | assumption | decide | (simp (disch := omega) only [g4, c2, c3, a18, a19, esub, rI_mul, nI_add, nI_1, nI_clamp, pr_8_10, pr_8_32, pr_8_48, pr_8_59, pr_8_m4, pr_i_0, pr_i_1, pr_i_2, pr_i_3]; first | assumption | exact ⟨Or.inl (by assumption), rvin (by assumption) (by omega) (by decide)⟩ | exact ⟨by assumption, rvin (by assumption) (by omega) (by decide)⟩ | exact ⟨⟨by omega, by omega⟩, rvin (by assumption) (by omega) (by decide)⟩ | exact ⟨Or.inr (by assumption), rvin (by assumption) (by omega) (by decide)⟩ | exact ⟨Or.inr ⟨by assumption, (by first | exact Or.inl rfl | exact Or.inr rfl | exact pr_b01 _)⟩, rvin (by assumption) (by omega) (by decide)⟩ | exact ⟨by assumption, by assumption⟩ | decide | omega)) (Nat.le_of_ble_eq_true rfl) (hby2) ?_
                  refine pr_seqT (pc' := 155) 3 rfl ⟨⟨⟨trivial, trivial⟩, trivial⟩, trivial⟩ ?_
                  try simp (disch := omega) only [g4, c2, c3, a18, a19, esub, rI_mul, nI_add, nI_1, nI_clamp, pr_8_10, pr_8_32, pr_8_48, pr_8_59, pr_8_m4, pr_i_0, pr_i_1, pr_i_2, pr_i_3]
                  refine pr_csT [_, _, _] rfl rfl rfl rfl rfl (Nat.le_of_ble_eq_true rfl) (Nat.le_of_ble_eq_true rfl) (i2) ?_
                  refine pr_ifT rfl (fun h158 => ?_) (fun h158 => ?_)
                  · simp only [ab_cmp, pr_8_10, pr_8_32, pr_8_48, pr_8_59, pr_8_m4, pr_i_0, pr_i_1, pr_i_2, pr_i_3] at h158
                    first
                    | contradiction
                    | exact absurd trivial h158
                    | exact absurd h158 (by decide)
                    | exact absurd (Classical.not_not.mp h158) (by decide)
                    | skip
                      refine pr_seqT (pc' := 232) 9 rfl ⟨⟨⟨⟨⟨⟨⟨⟨⟨trivial, (by first | decide | assumption)⟩, trivial⟩, (by first | assumption | exact ⟨by assumption, by decide⟩ | exact ⟨by assumption, pr_b01 _⟩)⟩, (by first | decide | assumption)⟩, (by assumption)⟩, (by first | decide | assumption)⟩, (by assumption)⟩, trivial⟩, trivial⟩ ?_
                      try simp (disch := omega) only [g4, c2, c3, a18, a19, esub, rI_mul, nI_add, nI_1, nI_clamp, pr_8_10, pr_8_32, pr_8_48, pr_8_59, pr_8_m4, pr_i_0, pr_i_1, pr_i_2, pr_i_3]
                      refine pr_icT rfl (fun h232 => ?_) (fun h232 => ?_)
                      · simp only [ab_cmp, pr_8_10, pr_8_32, pr_8_48, pr_8_59, pr_8_m4, pr_i_0, pr_i_1, pr_i_2, pr_i_3] at h232
                        first
                        | contradiction
                        | exact absurd trivial h232
                        | exact absurd h232 (by decide)
                        | exact absurd (Classical.not_not.mp h232) (by decide)
                        | skip
                          exact pr_vrT rfl rfl (by exact fin)
                      · simp only [ab_cmp, pr_8_10, pr_8_32, pr_8_48, pr_8_59, pr_8_m4, pr_i_0, pr_i_1, pr_i_2, pr_i_3] at h232
                        exact absurd e3 h232
                  · simp only [ab_cmp, pr_8_10, pr_8_32, pr_8_48, pr_8_59, pr_8_m4, pr_i_0, pr_i_1, pr_i_2, pr_i_3] at h158
                    exact absurd rfl h158
                · rw [if_neg c3'] at hE
                  subst hE
                  have e3 : ¬ nI (re w 48 57 s - s) ≤ nI 3 := nI_ge (by omega) (by omega)
                  have hfa := q_fails0 1 h (ab_u N 172 20 (nI 2), M.2) hl a16
                  rw [show (ab_u N 172 20 (nI 2), M.2).1 172 19 = nI s from a19] at hfa
                  have fin : sp_p M (.error (1, s)) none (ab_u (ab_u (ab_u N 172 20 (nI 2)) 172 16 1) 172 17 (nI s), M.2.1, M.2.2) := sp_er (rfr_tr g1 (rfr_tr (rfr_u (by decide)) (rfr_tr (rfr_u (by decide)) (rfr_u (by decide))))) (by rw [ab_u_j (by decide), ab_u_at]; rfl) (by decide) ab_u_at
                  refine pr_seqT (pc' := 145) 3 rfl ⟨⟨⟨trivial, (by first | decide | assumption)⟩, (by first | decide | assumption)⟩, (by assumption)⟩ ?_
                  try simp (disch := omega) only [g4, c2, c3, a18, a19, esub, rI_mul, nI_add, nI_1, nI_clamp, pr_8_10, pr_8_32, pr_8_48, pr_8_59, pr_8_m4, pr_i_0, pr_i_1, pr_i_2, pr_i_3]
                  refine pr_cvT [_] rfl rfl rfl rfl rfl (Nat.le_of_ble_eq_true rfl) (by first | assumption | decide | (simp (disch := omega) only [g4, c2, c3, a18, a19, esub, rI_mul, nI_add, nI_1, nI_clamp, pr_8_10, pr_8_32, pr_8_48, pr_8_59, pr_8_m4, pr_i_0, pr_i_1, pr_i_2, pr_i_3]; first | assumption | exact ⟨Or.inl (by assumption), rvin (by assumption) (by omega) (by decide)⟩ | exact ⟨by assumption, rvin (by assumption) (by omega) (by decide)⟩ | exact ⟨⟨by omega, by omega⟩, rvin (by assumption) (by omega) (by decide)⟩ | exact ⟨Or.inr (by assumption), rvin (by assumption) (by omega) (by decide)⟩ | exact ⟨Or.inr ⟨by assumption, (by first | exact Or.inl rfl | exact Or.inr rfl | exact pr_b01 _)⟩, rvin (by assumption) (by omega) (by decide)⟩ | exact ⟨by assumption, by assumption⟩ | decide | omega)) (Nat.le_of_ble_eq_true rfl) (hby2) ?_
                  refine pr_seqT (pc' := 155) 3 rfl ⟨⟨⟨trivial, trivial⟩, trivial⟩, trivial⟩ ?_
                  try simp (disch := omega) only [g4, c2, c3, a18, a19, esub, rI_mul, nI_add, nI_1, nI_clamp, pr_8_10, pr_8_32, pr_8_48, pr_8_59, pr_8_m4, pr_i_0, pr_i_1, pr_i_2, pr_i_3]
                  refine pr_csT [_, _, _] rfl rfl rfl rfl rfl (Nat.le_of_ble_eq_true rfl) (Nat.le_of_ble_eq_true rfl) (i2) ?_
                  refine pr_ifT rfl (fun h158 => ?_) (fun h158 => ?_)
                  · simp only [ab_cmp, pr_8_10, pr_8_32, pr_8_48, pr_8_59, pr_8_m4, pr_i_0, pr_i_1, pr_i_2, pr_i_3] at h158
                    first
                    | contradiction
                    | exact absurd trivial h158
                    | exact absurd h158 (by decide)
                    | exact absurd (Classical.not_not.mp h158) (by decide)
                    | skip
                      refine pr_seqT (pc' := 232) 9 rfl ⟨⟨⟨⟨⟨⟨⟨⟨⟨trivial, (by first | decide | assumption)⟩, trivial⟩, (by first | assumption | exact ⟨by assumption, by decide⟩ | exact ⟨by assumption, pr_b01 _⟩)⟩, (by first | decide | assumption)⟩, (by assumption)⟩, (by first | decide | assumption)⟩, (by assumption)⟩, trivial⟩, trivial⟩ ?_
                      try simp (disch := omega) only [g4, c2, c3, a18, a19, esub, rI_mul, nI_add, nI_1, nI_clamp, pr_8_10, pr_8_32, pr_8_48, pr_8_59, pr_8_m4, pr_i_0, pr_i_1, pr_i_2, pr_i_3]
                      refine pr_icT rfl (fun h232 => ?_) (fun h232 => ?_)
                      · simp only [ab_cmp, pr_8_10, pr_8_32, pr_8_48, pr_8_59, pr_8_m4, pr_i_0, pr_i_1, pr_i_2, pr_i_3] at h232
                        exact absurd h232 e3
                      · simp only [ab_cmp, pr_8_10, pr_8_32, pr_8_48, pr_8_59, pr_8_m4, pr_i_0, pr_i_1, pr_i_2, pr_i_3] at h232
                        first
                        | contradiction
                        | exact absurd trivial h232
                        | exact absurd h232 (by decide)
                        | exact absurd (Classical.not_not.mp h232) (by decide)
                        | skip
                          refine pr_seqT (pc' := 237) 2 rfl ⟨⟨trivial, (by first | decide | assumption)⟩, trivial⟩ ?_
                          try simp (disch := omega) only [g4, c2, c3, a18, a19, esub, rI_mul, nI_add, nI_1, nI_clamp, pr_8_10, pr_8_32, pr_8_48, pr_8_59, pr_8_m4, pr_i_0, pr_i_1, pr_i_2, pr_i_3]
                          refine pr_cvT [_] rfl rfl rfl rfl rfl (Nat.le_of_ble_eq_true rfl) (by first | assumption | decide | (simp (disch := omega) only [g4, c2, c3, a18, a19, esub, rI_mul, nI_add, nI_1, nI_clamp, pr_8_10, pr_8_32, pr_8_48, pr_8_59, pr_8_m4, pr_i_0, pr_i_1, pr_i_2, pr_i_3]; first | assumption | exact ⟨Or.inl (by assumption), rvin (by assumption) (by omega) (by decide)⟩ | exact ⟨by assumption, rvin (by assumption) (by omega) (by decide)⟩ | exact ⟨⟨by omega, by omega⟩, rvin (by assumption) (by omega) (by decide)⟩ | exact ⟨Or.inr (by assumption), rvin (by assumption) (by omega) (by decide)⟩ | exact ⟨Or.inr ⟨by assumption, (by first | exact Or.inl rfl | exact Or.inr rfl | exact pr_b01 _)⟩, rvin (by assumption) (by omega) (by decide)⟩ | exact ⟨by assumption, by assumption⟩ | decide | omega)) (Nat.le_of_ble_eq_true rfl) (hfa) ?_
                          refine pr_seqT (pc' := 269) 1 rfl ⟨trivial, trivial⟩ ?_
                          try simp (disch := omega) only [g4, c2, c3, a18, a19, esub, rI_mul, nI_add, nI_1, nI_clamp, pr_8_10, pr_8_32, pr_8_48, pr_8_59, pr_8_m4, pr_i_0, pr_i_1, pr_i_2, pr_i_3]
                          exact pr_vrT rfl rfl (by exact fin)
                  · simp only [ab_cmp, pr_8_10, pr_8_32, pr_8_48, pr_8_59, pr_8_m4, pr_i_0, pr_i_1, pr_i_2, pr_i_3] at h158
                    exact absurd rfl h158
              | succ dd ih =>
                intro q hq hsq N g1 g2 g3 g4 g5
                have hql : q < w.length := by omega
                have hir := (run_iff (w := w) (lo := 48) (hi := 57) hsq (by omega)).1 (by omega)
                obtain ⟨-, r1, r2⟩ := inR_iff.mp hir
                have hby2 := q_byteAt (q := q) h (N, M.2) hl (rfr_tp g1 hw) (by omega)
                have i2 := q_in (a := (bA w q).toInt64) (b := Int64.ofNat 48) (c := Int64.ofNat 57) (bA w q) (nI 48) (nI 57) h (N, M.2) rfl rfl rfl
                rw [bA_in hw3 (by decide) (by decide), hir] at i2
                rw [show bA w q = nI (w.getD q 0) by unfold bA; rw [if_pos hql]] at hby2 i2
                have esub : nI q - nI s = nI (q - s) := i_sub hsq
                by_cases c3' : q - s < 3
                · rw [if_pos (by omega)] at g5
                  have e3 : ¬ nI 3 ≤ nI (q - s) := nI_ge c3' (by decide)
                  have ev : nI (10 * num w s (q - s) + w.getD q 0) - nI 48 = nI (num w s (q - s + 1)) := by
                    rw [i_sub (by omega)]
                    show _ = nI (10 * num w s (q - s) + w.getD (s + (q - s)) 0 - 48)
                    rw [show s + (q - s) = q by omega]
                  have g4' : ab_u N 172 21 (nI (num w s (q - s + 1))) 172 18 = nI q := by rw [ab_u_j (by decide)]; exact g4
                  have hh := ih (q + 1) (by omega) (by omega) (ab_u (ab_u N 172 21 (nI (num w s (q - s + 1)))) 172 18 (nI (q + 1))) (rfr_tr g1 (rfr_tr (rfr_u (by decide)) (rfr_u (by decide)))) (by rw [ab_u_j (by decide), ab_u_j (by decide)]; exact g2) (by rw [ab_u_j (by decide), ab_u_j (by decide)]; exact g3) ab_u_at (by rw [ab_u_j (by decide), ab_u_at, if_pos (by omega), show q + 1 - s = q - s + 1 by omega])
                  refine pr_seqT (pc' := 145) 3 rfl ⟨⟨⟨trivial, (by first | decide | assumption)⟩, (by first | decide | assumption)⟩, (by assumption)⟩ ?_
                  try simp (disch := omega) only [g4, g3, g5, c3, c10, c48, esub, ev, g4', rI_mul, nI_add, nI_1, nI_clamp, pr_8_10, pr_8_32, pr_8_48, pr_8_59, pr_8_m4, pr_i_0, pr_i_1, pr_i_2, pr_i_3]
                  refine pr_cvT [_] rfl rfl rfl rfl rfl (Nat.le_of_ble_eq_true rfl) (by first | assumption | decide | (simp (disch := omega) only [g4, g3, g5, c3, c10, c48, esub, ev, g4', rI_mul, nI_add, nI_1, nI_clamp, pr_8_10, pr_8_32, pr_8_48, pr_8_59, pr_8_m4, pr_i_0, pr_i_1, pr_i_2, pr_i_3]; first | assumption | exact ⟨Or.inl (by assumption), rvin (by assumption) (by omega) (by decide)⟩ | exact ⟨by assumption, rvin (by assumption) (by omega) (by decide)⟩ | exact ⟨⟨by omega, by omega⟩, rvin (by assumption) (by omega) (by decide)⟩ | exact ⟨Or.inr (by assumption), rvin (by assumption) (by omega) (by decide)⟩ | exact ⟨Or.inr ⟨by assumption, (by first | exact Or.inl rfl | exact Or.inr rfl | exact pr_b01 _)⟩, rvin (by assumption) (by omega) (by decide)⟩ | exact ⟨by assumption, by assumption⟩ | decide | omega)) (Nat.le_of_ble_eq_true rfl) (hby2) ?_
                  refine pr_seqT (pc' := 155) 3 rfl ⟨⟨⟨trivial, trivial⟩, trivial⟩, trivial⟩ ?_
                  try simp (disch := omega) only [g4, g3, g5, c3, c10, c48, esub, ev, g4', rI_mul, nI_add, nI_1, nI_clamp, pr_8_10, pr_8_32, pr_8_48, pr_8_59, pr_8_m4, pr_i_0, pr_i_1, pr_i_2, pr_i_3]
                  refine pr_csT [_, _, _] rfl rfl rfl rfl rfl (Nat.le_of_ble_eq_true rfl) (Nat.le_of_ble_eq_true rfl) (i2) ?_
                  refine pr_ifT rfl (fun h158 => ?_) (fun h158 => ?_)
                  · simp only [ab_cmp, pr_8_10, pr_8_32, pr_8_48, pr_8_59, pr_8_m4, pr_i_0, pr_i_1, pr_i_2, pr_i_3] at h158
                    exact absurd h158 (by decide)
                  · simp only [ab_cmp, pr_8_10, pr_8_32, pr_8_48, pr_8_59, pr_8_m4, pr_i_0, pr_i_1, pr_i_2, pr_i_3] at h158
                    first
                    | contradiction
                    | exact absurd trivial h158
                    | exact absurd h158 (by decide)
                    | exact absurd (Classical.not_not.mp h158) (by decide)
                    | skip
                      refine pr_seqT (pc' := 172) 7 rfl ⟨⟨⟨⟨⟨⟨⟨trivial, (by first | decide | assumption)⟩, (by first | decide | assumption)⟩, (by assumption)⟩, (by first | decide | assumption)⟩, (by assumption)⟩, trivial⟩, trivial⟩ ?_
                      try simp (disch := omega) only [g4, g3, g5, c3, c10, c48, esub, ev, g4', rI_mul, nI_add, nI_1, nI_clamp, pr_8_10, pr_8_32, pr_8_48, pr_8_59, pr_8_m4, pr_i_0, pr_i_1, pr_i_2, pr_i_3]
                      refine pr_icT rfl (fun h172 => ?_) (fun h172 => ?_)
                      · simp only [ab_cmp, pr_8_10, pr_8_32, pr_8_48, pr_8_59, pr_8_m4, pr_i_0, pr_i_1, pr_i_2, pr_i_3] at h172
                        exact absurd h172 e3
                      · simp only [ab_cmp, pr_8_10, pr_8_32, pr_8_48, pr_8_59, pr_8_m4, pr_i_0, pr_i_1, pr_i_2, pr_i_3] at h172
                        first
                        | contradiction
                        | exact absurd trivial h172
                        | exact absurd h172 (by decide)
                        | exact absurd (Classical.not_not.mp h172) (by decide)
                        | skip
                          refine pr_seqT (pc' := 187) 7 rfl ⟨⟨⟨⟨⟨⟨⟨trivial, trivial⟩, (by first | decide | assumption)⟩, (by assumption)⟩, trivial⟩, (by first | decide | assumption)⟩, (by first | decide | assumption)⟩, (by assumption)⟩ ?_
                          try simp (disch := omega) only [g4, g3, g5, c3, c10, c48, esub, ev, g4', rI_mul, nI_add, nI_1, nI_clamp, pr_8_10, pr_8_32, pr_8_48, pr_8_59, pr_8_m4, pr_i_0, pr_i_1, pr_i_2, pr_i_3]
                          refine pr_cvT [_] rfl rfl rfl rfl rfl (Nat.le_of_ble_eq_true rfl) (by first | assumption | decide | (simp (disch := omega) only [g4, g3, g5, c3, c10, c48, esub, ev, g4', rI_mul, nI_add, nI_1, nI_clamp, pr_8_10, pr_8_32, pr_8_48, pr_8_59, pr_8_m4, pr_i_0, pr_i_1, pr_i_2, pr_i_3]; first | assumption | exact ⟨Or.inl (by assumption), rvin (by assumption) (by omega) (by decide)⟩ | exact ⟨by assumption, rvin (by assumption) (by omega) (by decide)⟩ | exact ⟨⟨by omega, by omega⟩, rvin (by assumption) (by omega) (by decide)⟩ | exact ⟨Or.inr (by assumption), rvin (by assumption) (by omega) (by decide)⟩ | exact ⟨Or.inr ⟨by assumption, (by first | exact Or.inl rfl | exact Or.inr rfl | exact pr_b01 _)⟩, rvin (by assumption) (by omega) (by decide)⟩ | exact ⟨by assumption, by assumption⟩ | decide | omega)) (Nat.le_of_ble_eq_true rfl) (hby2) ?_
                          refine pr_seqT (pc' := 140) 12 rfl ⟨⟨⟨⟨⟨⟨⟨⟨⟨⟨⟨⟨trivial, trivial⟩, trivial⟩, trivial⟩, trivial⟩, (by first | assumption | exact ⟨by assumption, by decide⟩ | exact ⟨by assumption, pr_b01 _⟩)⟩, (by first | decide | assumption)⟩, trivial⟩, (by assumption)⟩, trivial⟩, trivial⟩, (by first | assumption | exact ⟨by assumption, by decide⟩ | exact ⟨by assumption, pr_b01 _⟩)⟩, trivial⟩ ?_
                          try simp (disch := omega) only [g4, g3, g5, c3, c10, c48, esub, ev, g4', rI_mul, nI_add, nI_1, nI_clamp, pr_8_10, pr_8_32, pr_8_48, pr_8_59, pr_8_m4, pr_i_0, pr_i_1, pr_i_2, pr_i_3]
                          exact hh
                · have e3 : nI 3 ≤ nI (q - s) := nI_le (by omega) (by omega)
                  have g5' : N 172 21 = nI (num w s 3) := by
                    rw [g5]
                    by_cases e : q - s ≤ 3
                    · rw [if_pos e, show q - s = 3 by omega]
                    · rw [if_neg e]
                  have g4' : ab_u N 172 21 (nI (num w s 3)) 172 18 = nI q := by rw [ab_u_j (by decide)]; exact g4
                  have hh := ih (q + 1) (by omega) (by omega) (ab_u (ab_u N 172 21 (nI (num w s 3))) 172 18 (nI (q + 1))) (rfr_tr g1 (rfr_tr (rfr_u (by decide)) (rfr_u (by decide)))) (by rw [ab_u_j (by decide), ab_u_j (by decide)]; exact g2) (by rw [ab_u_j (by decide), ab_u_j (by decide)]; exact g3) ab_u_at (by rw [ab_u_j (by decide), ab_u_at, if_neg (by omega)])
                  refine pr_seqT (pc' := 145) 3 rfl ⟨⟨⟨trivial, (by first | decide | assumption)⟩, (by first | decide | assumption)⟩, (by assumption)⟩ ?_
                  try simp (disch := omega) only [g4, g3, g5', c3, esub, g4', rI_mul, nI_add, nI_1, nI_clamp, pr_8_10, pr_8_32, pr_8_48, pr_8_59, pr_8_m4, pr_i_0, pr_i_1, pr_i_2, pr_i_3]
                  refine pr_cvT [_] rfl rfl rfl rfl rfl (Nat.le_of_ble_eq_true rfl) (by first | assumption | decide | (simp (disch := omega) only [g4, g3, g5', c3, esub, g4', rI_mul, nI_add, nI_1, nI_clamp, pr_8_10, pr_8_32, pr_8_48, pr_8_59, pr_8_m4, pr_i_0, pr_i_1, pr_i_2, pr_i_3]; first | assumption | exact ⟨Or.inl (by assumption), rvin (by assumption) (by omega) (by decide)⟩ | exact ⟨by assumption, rvin (by assumption) (by omega) (by decide)⟩ | exact ⟨⟨by omega, by omega⟩, rvin (by assumption) (by omega) (by decide)⟩ | exact ⟨Or.inr (by assumption), rvin (by assumption) (by omega) (by decide)⟩ | exact ⟨Or.inr ⟨by assumption, (by first | exact Or.inl rfl | exact Or.inr rfl | exact pr_b01 _)⟩, rvin (by assumption) (by omega) (by decide)⟩ | exact ⟨by assumption, by assumption⟩ | decide | omega)) (Nat.le_of_ble_eq_true rfl) (hby2) ?_
                  refine pr_seqT (pc' := 155) 3 rfl ⟨⟨⟨trivial, trivial⟩, trivial⟩, trivial⟩ ?_
                  try simp (disch := omega) only [g4, g3, g5', c3, esub, g4', rI_mul, nI_add, nI_1, nI_clamp, pr_8_10, pr_8_32, pr_8_48, pr_8_59, pr_8_m4, pr_i_0, pr_i_1, pr_i_2, pr_i_3]
                  refine pr_csT [_, _, _] rfl rfl rfl rfl rfl (Nat.le_of_ble_eq_true rfl) (Nat.le_of_ble_eq_true rfl) (i2) ?_
                  refine pr_ifT rfl (fun h158 => ?_) (fun h158 => ?_)
                  · simp only [ab_cmp, pr_8_10, pr_8_32, pr_8_48, pr_8_59, pr_8_m4, pr_i_0, pr_i_1, pr_i_2, pr_i_3] at h158
                    exact absurd h158 (by decide)
                  · simp only [ab_cmp, pr_8_10, pr_8_32, pr_8_48, pr_8_59, pr_8_m4, pr_i_0, pr_i_1, pr_i_2, pr_i_3] at h158
                    first
                    | contradiction
                    | exact absurd trivial h158
                    | exact absurd h158 (by decide)
                    | exact absurd (Classical.not_not.mp h158) (by decide)
                    | skip
                      refine pr_seqT (pc' := 172) 7 rfl ⟨⟨⟨⟨⟨⟨⟨trivial, (by first | decide | assumption)⟩, (by first | decide | assumption)⟩, (by assumption)⟩, (by first | decide | assumption)⟩, (by assumption)⟩, trivial⟩, trivial⟩ ?_
                      try simp (disch := omega) only [g4, g3, g5', c3, esub, g4', rI_mul, nI_add, nI_1, nI_clamp, pr_8_10, pr_8_32, pr_8_48, pr_8_59, pr_8_m4, pr_i_0, pr_i_1, pr_i_2, pr_i_3]
                      refine pr_icT rfl (fun h172 => ?_) (fun h172 => ?_)
                      · simp only [ab_cmp, pr_8_10, pr_8_32, pr_8_48, pr_8_59, pr_8_m4, pr_i_0, pr_i_1, pr_i_2, pr_i_3] at h172
                        first
                        | contradiction
                        | exact absurd trivial h172
                        | exact absurd h172 (by decide)
                        | exact absurd (Classical.not_not.mp h172) (by decide)
                        | skip
                          refine pr_seqT (pc' := 140) 10 rfl ⟨⟨⟨⟨⟨⟨⟨⟨⟨⟨trivial, (by first | decide | assumption)⟩, (by assumption)⟩, (by first | assumption | exact ⟨by assumption, by decide⟩ | exact ⟨by assumption, pr_b01 _⟩)⟩, (by first | decide | assumption)⟩, trivial⟩, (by assumption)⟩, trivial⟩, trivial⟩, (by first | assumption | exact ⟨by assumption, by decide⟩ | exact ⟨by assumption, pr_b01 _⟩)⟩, trivial⟩ ?_
                          try simp (disch := omega) only [g4, g3, g5', c3, esub, g4', rI_mul, nI_add, nI_1, nI_clamp, pr_8_10, pr_8_32, pr_8_48, pr_8_59, pr_8_m4, pr_i_0, pr_i_1, pr_i_2, pr_i_3]
                          exact hh
                      · simp only [ab_cmp, pr_8_10, pr_8_32, pr_8_48, pr_8_59, pr_8_m4, pr_i_0, pr_i_1, pr_i_2, pr_i_3] at h172
                        exact absurd e3 h172
            have h0 := loop (re w 48 57 s - s) s (by omega) (Nat.le_refl _) J f1 j16 j19 j18 (by rw [Nat.sub_self, if_pos (by decide)]; exact j21)
            refine pr_seqT (pc' := 47) 7 rfl ⟨⟨⟨⟨⟨⟨⟨trivial, (by first | decide | assumption)⟩, (by first | decide | assumption)⟩, (by assumption)⟩, (by first | assumption | exact ⟨by assumption, by decide⟩ | exact ⟨by assumption, pr_b01 _⟩)⟩, (by first | decide | assumption)⟩, (by first | decide | assumption)⟩, (by assumption)⟩ ?_
            try simp (disch := omega) only [b18, t18, hJ, rI_mul, nI_add, nI_1, nI_clamp, pr_8_10, pr_8_32, pr_8_48, pr_8_59, pr_8_m4, pr_i_0, pr_i_1, pr_i_2, pr_i_3]
            refine pr_cvT [_] rfl rfl rfl rfl rfl (Nat.le_of_ble_eq_true rfl) (by first | assumption | decide | (simp (disch := omega) only [b18, t18, hJ, rI_mul, nI_add, nI_1, nI_clamp, pr_8_10, pr_8_32, pr_8_48, pr_8_59, pr_8_m4, pr_i_0, pr_i_1, pr_i_2, pr_i_3]; first | assumption | exact ⟨Or.inl (by assumption), rvin (by assumption) (by omega) (by decide)⟩ | exact ⟨by assumption, rvin (by assumption) (by omega) (by decide)⟩ | exact ⟨⟨by omega, by omega⟩, rvin (by assumption) (by omega) (by decide)⟩ | exact ⟨Or.inr (by assumption), rvin (by assumption) (by omega) (by decide)⟩ | exact ⟨Or.inr ⟨by assumption, (by first | exact Or.inl rfl | exact Or.inr rfl | exact pr_b01 _)⟩, rvin (by assumption) (by omega) (by decide)⟩ | exact ⟨by assumption, by assumption⟩ | decide | omega)) (Nat.le_of_ble_eq_true rfl) (hby) ?_
            refine pr_seqT (pc' := 59) 6 rfl ⟨⟨⟨⟨⟨⟨trivial, trivial⟩, (by first | decide | assumption)⟩, trivial⟩, (by first | assumption | exact ⟨by assumption, by decide⟩ | exact ⟨by assumption, pr_b01 _⟩)⟩, trivial⟩, trivial⟩ ?_
            try simp (disch := omega) only [b18, t18, hJ, rI_mul, nI_add, nI_1, nI_clamp, pr_8_10, pr_8_32, pr_8_48, pr_8_59, pr_8_m4, pr_i_0, pr_i_1, pr_i_2, pr_i_3]
            refine pr_icT rfl (fun h59 => ?_) (fun h59 => ?_)
            · simp only [ab_cmp, pr_8_10, pr_8_32, pr_8_48, pr_8_59, pr_8_m4, pr_i_0, pr_i_1, pr_i_2, pr_i_3] at h59
              first
              | contradiction
              | exact absurd trivial h59
              | exact absurd h59 (by decide)
              | exact absurd (Classical.not_not.mp h59) (by decide)
              | skip
                refine pr_seqT (pc' := 78) 4 rfl ⟨⟨⟨⟨trivial, trivial⟩, trivial⟩, trivial⟩, trivial⟩ ?_
                try simp (disch := omega) only [b18, t18, hJ, rI_mul, nI_add, nI_1, nI_clamp, pr_8_10, pr_8_32, pr_8_48, pr_8_59, pr_8_m4, pr_i_0, pr_i_1, pr_i_2, pr_i_3]
                refine pr_csT [_, _, _] rfl rfl rfl rfl rfl (Nat.le_of_ble_eq_true rfl) (Nat.le_of_ble_eq_true rfl) (iL) ?_
                refine pr_ifT rfl (fun h81 => ?_) (fun h81 => ?_)
                · simp only [ab_cmp, pr_8_10, pr_8_32, pr_8_48, pr_8_59, pr_8_m4, pr_i_0, pr_i_1, pr_i_2, pr_i_3] at h81
                  first
                  | contradiction
                  | exact absurd trivial h81
                  | exact absurd h81 (by decide)
                  | exact absurd (Classical.not_not.mp h81) (by decide)
                  | skip
                    refine pr_seqT (pc' := 134) 4 rfl ⟨⟨⟨⟨trivial, trivial⟩, trivial⟩, trivial⟩, trivial⟩ ?_
                    try simp (disch := omega) only [b18, t18, hJ, rI_mul, nI_add, nI_1, nI_clamp, pr_8_10, pr_8_32, pr_8_48, pr_8_59, pr_8_m4, pr_i_0, pr_i_1, pr_i_2, pr_i_3]
                    refine pr_csT [_, _, _] rfl rfl rfl rfl rfl (Nat.le_of_ble_eq_true rfl) (Nat.le_of_ble_eq_true rfl) (iD) ?_
                    refine pr_ifT rfl (fun h137 => ?_) (fun h137 => ?_)
                    · simp only [ab_cmp, pr_8_10, pr_8_32, pr_8_48, pr_8_59, pr_8_m4, pr_i_0, pr_i_1, pr_i_2, pr_i_3] at h137
                      exact absurd h137 (by decide)
                    · simp only [ab_cmp, pr_8_10, pr_8_32, pr_8_48, pr_8_59, pr_8_m4, pr_i_0, pr_i_1, pr_i_2, pr_i_3] at h137
                      first
                      | contradiction
                      | exact absurd trivial h137
                      | exact absurd h137 (by decide)
                      | exact absurd (Classical.not_not.mp h137) (by decide)
                      | skip
                        exact h0
                · simp only [ab_cmp, pr_8_10, pr_8_32, pr_8_48, pr_8_59, pr_8_m4, pr_i_0, pr_i_1, pr_i_2, pr_i_3] at h81
                  exact absurd rfl h81
            · simp only [ab_cmp, pr_8_10, pr_8_32, pr_8_48, pr_8_59, pr_8_m4, pr_i_0, pr_i_1, pr_i_2, pr_i_3] at h59
              exact absurd (Classical.not_not.mp h59) eN
          · rw [if_neg cD]
            rw [decide_eq_false cD] at iD
            have k18 : ab_u J 172 20 (nI 3) 172 18 = nI s := by rw [ab_u_j (by decide)]; exact j18
            have a16 : ab_u (ab_u J 172 20 (nI 3)) 172 18 (nI (s + 1)) 172 16 = 0 := by rw [ab_u_j (by decide), ab_u_j (by decide)]; exact j16
            have a19 : ab_u (ab_u J 172 20 (nI 3)) 172 18 (nI (s + 1)) 172 19 = nI s := by rw [ab_u_j (by decide), ab_u_j (by decide)]; exact j19
            have hfa := q_fails0 1 h (ab_u (ab_u J 172 20 (nI 3)) 172 18 (nI (s + 1)), M.2) hl a16
            rw [show (ab_u (ab_u J 172 20 (nI 3)) 172 18 (nI (s + 1)), M.2).1 172 19 = nI s from a19] at hfa
            have fin : sp_p M (.error (1, s)) none (ab_u (ab_u (ab_u (ab_u J 172 20 (nI 3)) 172 18 (nI (s + 1))) 172 16 1) 172 17 (nI s), M.2.1, M.2.2) := sp_er (rfr_tr f1 (rfr_tr (rfr_u (by decide)) (rfr_tr (rfr_u (by decide)) (rfr_tr (rfr_u (by decide)) (rfr_u (by decide)))))) (by rw [ab_u_j (by decide), ab_u_at]; rfl) (by decide) ab_u_at
            refine (?_ : pr_T pX11_step 34 _ [] h (I, M.2) (sp_p M (.error (1, s))))
            refine pr_seqT (pc' := 47) 7 rfl ⟨⟨⟨⟨⟨⟨⟨trivial, (by first | decide | assumption)⟩, (by first | decide | assumption)⟩, (by assumption)⟩, (by first | assumption | exact ⟨by assumption, by decide⟩ | exact ⟨by assumption, pr_b01 _⟩)⟩, (by first | decide | assumption)⟩, (by first | decide | assumption)⟩, (by assumption)⟩ ?_
            try simp (disch := omega) only [c3, c59, b18, t18, hJ, k18, rI_mul, nI_add, nI_1, nI_clamp, pr_8_10, pr_8_32, pr_8_48, pr_8_59, pr_8_m4, pr_i_0, pr_i_1, pr_i_2, pr_i_3]
            refine pr_cvT [_] rfl rfl rfl rfl rfl (Nat.le_of_ble_eq_true rfl) (by first | assumption | decide | (simp (disch := omega) only [c3, c59, b18, t18, hJ, k18, rI_mul, nI_add, nI_1, nI_clamp, pr_8_10, pr_8_32, pr_8_48, pr_8_59, pr_8_m4, pr_i_0, pr_i_1, pr_i_2, pr_i_3]; first | assumption | exact ⟨Or.inl (by assumption), rvin (by assumption) (by omega) (by decide)⟩ | exact ⟨by assumption, rvin (by assumption) (by omega) (by decide)⟩ | exact ⟨⟨by omega, by omega⟩, rvin (by assumption) (by omega) (by decide)⟩ | exact ⟨Or.inr (by assumption), rvin (by assumption) (by omega) (by decide)⟩ | exact ⟨Or.inr ⟨by assumption, (by first | exact Or.inl rfl | exact Or.inr rfl | exact pr_b01 _)⟩, rvin (by assumption) (by omega) (by decide)⟩ | exact ⟨by assumption, by assumption⟩ | decide | omega)) (Nat.le_of_ble_eq_true rfl) (hby) ?_
            refine pr_seqT (pc' := 59) 6 rfl ⟨⟨⟨⟨⟨⟨trivial, trivial⟩, (by first | decide | assumption)⟩, trivial⟩, (by first | assumption | exact ⟨by assumption, by decide⟩ | exact ⟨by assumption, pr_b01 _⟩)⟩, trivial⟩, trivial⟩ ?_
            try simp (disch := omega) only [c3, c59, b18, t18, hJ, k18, rI_mul, nI_add, nI_1, nI_clamp, pr_8_10, pr_8_32, pr_8_48, pr_8_59, pr_8_m4, pr_i_0, pr_i_1, pr_i_2, pr_i_3]
            refine pr_icT rfl (fun h59 => ?_) (fun h59 => ?_)
            · simp only [ab_cmp, pr_8_10, pr_8_32, pr_8_48, pr_8_59, pr_8_m4, pr_i_0, pr_i_1, pr_i_2, pr_i_3] at h59
              first
              | contradiction
              | exact absurd trivial h59
              | exact absurd h59 (by decide)
              | exact absurd (Classical.not_not.mp h59) (by decide)
              | skip
                refine pr_seqT (pc' := 78) 4 rfl ⟨⟨⟨⟨trivial, trivial⟩, trivial⟩, trivial⟩, trivial⟩ ?_
                try simp (disch := omega) only [c3, c59, b18, t18, hJ, k18, rI_mul, nI_add, nI_1, nI_clamp, pr_8_10, pr_8_32, pr_8_48, pr_8_59, pr_8_m4, pr_i_0, pr_i_1, pr_i_2, pr_i_3]
                refine pr_csT [_, _, _] rfl rfl rfl rfl rfl (Nat.le_of_ble_eq_true rfl) (Nat.le_of_ble_eq_true rfl) (iL) ?_
                refine pr_ifT rfl (fun h81 => ?_) (fun h81 => ?_)
                · simp only [ab_cmp, pr_8_10, pr_8_32, pr_8_48, pr_8_59, pr_8_m4, pr_i_0, pr_i_1, pr_i_2, pr_i_3] at h81
                  first
                  | contradiction
                  | exact absurd trivial h81
                  | exact absurd h81 (by decide)
                  | exact absurd (Classical.not_not.mp h81) (by decide)
                  | skip
                    refine pr_seqT (pc' := 134) 4 rfl ⟨⟨⟨⟨trivial, trivial⟩, trivial⟩, trivial⟩, trivial⟩ ?_
                    try simp (disch := omega) only [c3, c59, b18, t18, hJ, k18, rI_mul, nI_add, nI_1, nI_clamp, pr_8_10, pr_8_32, pr_8_48, pr_8_59, pr_8_m4, pr_i_0, pr_i_1, pr_i_2, pr_i_3]
                    refine pr_csT [_, _, _] rfl rfl rfl rfl rfl (Nat.le_of_ble_eq_true rfl) (Nat.le_of_ble_eq_true rfl) (iD) ?_
                    refine pr_ifT rfl (fun h137 => ?_) (fun h137 => ?_)
                    · simp only [ab_cmp, pr_8_10, pr_8_32, pr_8_48, pr_8_59, pr_8_m4, pr_i_0, pr_i_1, pr_i_2, pr_i_3] at h137
                      first
                      | contradiction
                      | exact absurd trivial h137
                      | exact absurd h137 (by decide)
                      | exact absurd (Classical.not_not.mp h137) (by decide)
                      | skip
                        refine pr_seqT (pc' := 261) 11 rfl ⟨⟨⟨⟨⟨⟨⟨⟨⟨⟨⟨trivial, (by first | decide | assumption)⟩, trivial⟩, (by first | assumption | exact ⟨by assumption, by decide⟩ | exact ⟨by assumption, pr_b01 _⟩)⟩, (by first | decide | assumption)⟩, trivial⟩, (by assumption)⟩, trivial⟩, trivial⟩, (by first | assumption | exact ⟨by assumption, by decide⟩ | exact ⟨by assumption, pr_b01 _⟩)⟩, trivial⟩, trivial⟩ ?_
                        try simp (disch := omega) only [c3, c59, b18, t18, hJ, k18, rI_mul, nI_add, nI_1, nI_clamp, pr_8_10, pr_8_32, pr_8_48, pr_8_59, pr_8_m4, pr_i_0, pr_i_1, pr_i_2, pr_i_3]
                        refine pr_icT rfl (fun h261 => ?_) (fun h261 => ?_)
                        · simp only [ab_cmp, pr_8_10, pr_8_32, pr_8_48, pr_8_59, pr_8_m4, pr_i_0, pr_i_1, pr_i_2, pr_i_3] at h261
                          exact absurd h261 z59
                        · simp only [ab_cmp, pr_8_10, pr_8_32, pr_8_48, pr_8_59, pr_8_m4, pr_i_0, pr_i_1, pr_i_2, pr_i_3] at h261
                          first
                          | contradiction
                          | exact absurd trivial h261
                          | exact absurd h261 (by decide)
                          | exact absurd (Classical.not_not.mp h261) (by decide)
                          | skip
                            refine pr_seqT (pc' := 266) 2 rfl ⟨⟨trivial, (by first | decide | assumption)⟩, trivial⟩ ?_
                            try simp (disch := omega) only [c3, c59, b18, t18, hJ, k18, rI_mul, nI_add, nI_1, nI_clamp, pr_8_10, pr_8_32, pr_8_48, pr_8_59, pr_8_m4, pr_i_0, pr_i_1, pr_i_2, pr_i_3]
                            refine pr_cvT [_] rfl rfl rfl rfl rfl (Nat.le_of_ble_eq_true rfl) (by first | assumption | decide | (simp (disch := omega) only [c3, c59, b18, t18, hJ, k18, rI_mul, nI_add, nI_1, nI_clamp, pr_8_10, pr_8_32, pr_8_48, pr_8_59, pr_8_m4, pr_i_0, pr_i_1, pr_i_2, pr_i_3]; first | assumption | exact ⟨Or.inl (by assumption), rvin (by assumption) (by omega) (by decide)⟩ | exact ⟨by assumption, rvin (by assumption) (by omega) (by decide)⟩ | exact ⟨⟨by omega, by omega⟩, rvin (by assumption) (by omega) (by decide)⟩ | exact ⟨Or.inr (by assumption), rvin (by assumption) (by omega) (by decide)⟩ | exact ⟨Or.inr ⟨by assumption, (by first | exact Or.inl rfl | exact Or.inr rfl | exact pr_b01 _)⟩, rvin (by assumption) (by omega) (by decide)⟩ | exact ⟨by assumption, by assumption⟩ | decide | omega)) (Nat.le_of_ble_eq_true rfl) (hfa) ?_
                            exact pr_vrT rfl rfl (by exact fin)
                    · simp only [ab_cmp, pr_8_10, pr_8_32, pr_8_48, pr_8_59, pr_8_m4, pr_i_0, pr_i_1, pr_i_2, pr_i_3] at h137
                      exact absurd rfl h137
                · simp only [ab_cmp, pr_8_10, pr_8_32, pr_8_48, pr_8_59, pr_8_m4, pr_i_0, pr_i_1, pr_i_2, pr_i_3] at h81
                  exact absurd rfl h81
            · simp only [ab_cmp, pr_8_10, pr_8_32, pr_8_48, pr_8_59, pr_8_m4, pr_i_0, pr_i_1, pr_i_2, pr_i_3] at h59
              exact absurd (Classical.not_not.mp h59) eN
  have loop : ∀ dd q, q + dd = re w 32 32 p → p ≤ q → ∀ N : Nat → Nat → Int32, rfr M.1 N → N 172 16 = 0 → N 172 18 = nI q → ∀ z1, pr_T pX11_step 8 [some (.ref 172), z1] [] h (N, M.2) (sp_p M (stp w p)) := by
    intro dd
    induction dd with
    | zero =>
      intro q hq hpq N g1 g2 g4 z1
      obtain rfl : q = re w 32 32 p := by omega
      have hby2 := q_byteAt (q := re w 32 32 p) h (N, M.2) hl (rfr_tp g1 hw) (by omega)
      have hir := (run_iff (w := w) (lo := 32) (hi := 32) hpq (Nat.le_refl _)).2 rfl
      have ne : ¬ bA w (re w 32 32 p) = nI 32 := by
        unfold bA
        by_cases c : re w 32 32 p < w.length
        · rw [if_pos c]
          refine nI_ne (fun z => ?_) (by have := hw3 _ c; omega) (by decide)
          rw [inR_iff.mpr ⟨c, by omega, by omega⟩] at hir
          cases hir
        · rw [if_neg c]; decide
      have h0 := body N g1 g2 g4 z1
      refine pr_seqT (pc' := 13) 3 rfl ⟨⟨⟨trivial, (by first | decide | assumption)⟩, (by first | decide | assumption)⟩, (by assumption)⟩ ?_
      try simp (disch := omega) only [g4, c32, rI_mul, nI_add, nI_1, nI_clamp, pr_8_10, pr_8_32, pr_8_48, pr_8_59, pr_8_m4, pr_i_0, pr_i_1, pr_i_2, pr_i_3]
      refine pr_cvT [_] rfl rfl rfl rfl rfl (Nat.le_of_ble_eq_true rfl) (by first | assumption | decide | (simp (disch := omega) only [g4, c32, rI_mul, nI_add, nI_1, nI_clamp, pr_8_10, pr_8_32, pr_8_48, pr_8_59, pr_8_m4, pr_i_0, pr_i_1, pr_i_2, pr_i_3]; first | assumption | exact ⟨Or.inl (by assumption), rvin (by assumption) (by omega) (by decide)⟩ | exact ⟨by assumption, rvin (by assumption) (by omega) (by decide)⟩ | exact ⟨⟨by omega, by omega⟩, rvin (by assumption) (by omega) (by decide)⟩ | exact ⟨Or.inr (by assumption), rvin (by assumption) (by omega) (by decide)⟩ | exact ⟨Or.inr ⟨by assumption, (by first | exact Or.inl rfl | exact Or.inr rfl | exact pr_b01 _)⟩, rvin (by assumption) (by omega) (by decide)⟩ | exact ⟨by assumption, by assumption⟩ | decide | omega)) (Nat.le_of_ble_eq_true rfl) (hby2) ?_
      refine pr_seqT (pc' := 18) 1 rfl ⟨trivial, trivial⟩ ?_
      try simp (disch := omega) only [g4, c32, rI_mul, nI_add, nI_1, nI_clamp, pr_8_10, pr_8_32, pr_8_48, pr_8_59, pr_8_m4, pr_i_0, pr_i_1, pr_i_2, pr_i_3]
      refine pr_icT rfl (fun h18 => ?_) (fun h18 => ?_)
      · simp only [ab_cmp, pr_8_10, pr_8_32, pr_8_48, pr_8_59, pr_8_m4, pr_i_0, pr_i_1, pr_i_2, pr_i_3] at h18
        first
        | contradiction
        | exact absurd trivial h18
        | exact absurd h18 (by decide)
        | exact absurd (Classical.not_not.mp h18) (by decide)
        | skip
          exact h0
      · simp only [ab_cmp, pr_8_10, pr_8_32, pr_8_48, pr_8_59, pr_8_m4, pr_i_0, pr_i_1, pr_i_2, pr_i_3] at h18
        exact absurd (Classical.not_not.mp h18) ne
    | succ dd ih =>
      intro q hq hpq N g1 g2 g4 z1
      have hby2 := q_byteAt (q := q) h (N, M.2) hl (rfr_tp g1 hw) (by omega)
      have hir := (run_iff (w := w) (lo := 32) (hi := 32) hpq (by omega)).1 (by omega)
      obtain ⟨r0, r1, r2⟩ := inR_iff.mp hir
      have ne : bA w q = nI 32 := by unfold bA; rw [if_pos r0, show w.getD q 0 = 32 by omega]
      have hh := ih (q + 1) (by omega) (by omega) (ab_u N 172 18 (nI (q + 1))) (rfr_tr g1 (rfr_u (by decide))) (by rw [ab_u_j (by decide)]; exact g2) ab_u_at z1
      refine pr_seqT (pc' := 13) 3 rfl ⟨⟨⟨trivial, (by first | decide | assumption)⟩, (by first | decide | assumption)⟩, (by assumption)⟩ ?_
      try simp (disch := omega) only [g4, c32, rI_mul, nI_add, nI_1, nI_clamp, pr_8_10, pr_8_32, pr_8_48, pr_8_59, pr_8_m4, pr_i_0, pr_i_1, pr_i_2, pr_i_3]
      refine pr_cvT [_] rfl rfl rfl rfl rfl (Nat.le_of_ble_eq_true rfl) (by first | assumption | decide | (simp (disch := omega) only [g4, c32, rI_mul, nI_add, nI_1, nI_clamp, pr_8_10, pr_8_32, pr_8_48, pr_8_59, pr_8_m4, pr_i_0, pr_i_1, pr_i_2, pr_i_3]; first | assumption | exact ⟨Or.inl (by assumption), rvin (by assumption) (by omega) (by decide)⟩ | exact ⟨by assumption, rvin (by assumption) (by omega) (by decide)⟩ | exact ⟨⟨by omega, by omega⟩, rvin (by assumption) (by omega) (by decide)⟩ | exact ⟨Or.inr (by assumption), rvin (by assumption) (by omega) (by decide)⟩ | exact ⟨Or.inr ⟨by assumption, (by first | exact Or.inl rfl | exact Or.inr rfl | exact pr_b01 _)⟩, rvin (by assumption) (by omega) (by decide)⟩ | exact ⟨by assumption, by assumption⟩ | decide | omega)) (Nat.le_of_ble_eq_true rfl) (hby2) ?_
      refine pr_seqT (pc' := 18) 1 rfl ⟨trivial, trivial⟩ ?_
      try simp (disch := omega) only [g4, c32, rI_mul, nI_add, nI_1, nI_clamp, pr_8_10, pr_8_32, pr_8_48, pr_8_59, pr_8_m4, pr_i_0, pr_i_1, pr_i_2, pr_i_3]
      refine pr_icT rfl (fun h18 => ?_) (fun h18 => ?_)
      · simp only [ab_cmp, pr_8_10, pr_8_32, pr_8_48, pr_8_59, pr_8_m4, pr_i_0, pr_i_1, pr_i_2, pr_i_3] at h18
        exact absurd ne h18
      · simp only [ab_cmp, pr_8_10, pr_8_32, pr_8_48, pr_8_59, pr_8_m4, pr_i_0, pr_i_1, pr_i_2, pr_i_3] at h18
        first
        | contradiction
        | exact absurd trivial h18
        | exact absurd h18 (by decide)
        | exact absurd (Classical.not_not.mp h18) (by decide)
        | skip
          refine pr_seqT (pc' := 8) 7 rfl ⟨⟨⟨⟨⟨⟨⟨trivial, (by first | decide | assumption)⟩, trivial⟩, (by assumption)⟩, trivial⟩, trivial⟩, (by first | assumption | exact ⟨by assumption, by decide⟩ | exact ⟨by assumption, pr_b01 _⟩)⟩, trivial⟩ ?_
          try simp (disch := omega) only [g4, c32, rI_mul, nI_add, nI_1, nI_clamp, pr_8_10, pr_8_32, pr_8_48, pr_8_59, pr_8_m4, pr_i_0, pr_i_1, pr_i_2, pr_i_3]
          exact hh
  have h0 := loop (re w 32 32 p - p) p (by omega) (Nat.le_refl _) M.1 rfr_0 hb hs none
  have e0 : (0 : Int32) ≤ 0 := by decide
  refine pr_seqT (pc' := 4) 2 rfl ⟨⟨trivial, (by first | decide | assumption)⟩, (by assumption)⟩ ?_
  try simp (disch := omega) only [hb, rI_mul, nI_add, nI_1, nI_clamp, pr_8_10, pr_8_32, pr_8_48, pr_8_59, pr_8_m4, pr_i_0, pr_i_1, pr_i_2, pr_i_3]
  refine pr_ifT rfl (fun h4 => ?_) (fun h4 => ?_)
  · simp only [ab_cmp, pr_8_10, pr_8_32, pr_8_48, pr_8_59, pr_8_m4, pr_i_0, pr_i_1, pr_i_2, pr_i_3] at h4
    first
    | contradiction
    | exact absurd trivial h4
    | exact absurd h4 (by decide)
    | exact absurd (Classical.not_not.mp h4) (by decide)
    | skip
      exact h0
  · simp only [ab_cmp, pr_8_10, pr_8_32, pr_8_48, pr_8_59, pr_8_m4, pr_i_0, pr_i_1, pr_i_2, pr_i_3] at h4
    exact absurd e0 h4
