
/-! ===== the reference's reader: a line is what the document's line is ===== -/
def semiE (w : List Nat) : Er → Er
  | .error q => .error q
  | .ok p => if (tok w p).1 = 3 then stN w (tok w p).2.2.1 else .error (2, (tok w p).2.1)
theorem rl_end {w : List Nat} {P : PS} {e : Er} {I : Nat → Nat → Int32} {z1 : Option Value} (h : ab_H) (M : ab_M) (hl : rL h M.2.2) (hw : tp_r M.1 w) (hf : lfr M.1 I) (he : rs2 I w e) (hv : (∃ p, e = .ok p) → pv I P) : pr_T pX11_readLine 36 [some (.ref 172), z1] [] h (I, M.2) (ln2_p M w (semiE w e) P none) := by
  obtain ⟨k172, rS, rLs, rKn, rPg, rRl, rRk, rTp, rCu, rLe, rLt, rSm, rIk, rLn, rLg, rCe, ⟨kS, nS⟩, ⟨kLs, nLs⟩, ⟨kKn, nKn⟩, ⟨kPg, nPg⟩, ⟨kRl, nRl⟩, ⟨kRk, nRk⟩, ⟨kTp, nTp⟩, ⟨kCu, nCu⟩, ⟨kLe, nLe⟩, ⟨kLt, nLt⟩, ⟨kSm, nSm⟩, ⟨kIk, nIk⟩, ⟨kLn, nLn⟩, ⟨kLg, nLg⟩, kCe, nCe⟩ := id hl
  have hwI := lfr_tp hf hw
  cases e with
  | error q =>
    have g := he.1
    have en : ¬ nI q.1 = 0 := nI_ne0 (by have := he.2.1; omega) (by have := he.2.1; omega)
    have hst := q_stepB h (I, M.2) hl he.1 he.2.1
    show pr_T pX11_readLine 36 _ [] h (I, M.2) (ln2_p M w (.error q) P none)
    refine pr_seqT (pc' := 40) 2 rfl ⟨⟨trivial, (by first | decide | assumption)⟩, (by assumption)⟩ ?_
    try simp (disch := omega) only [g, rI_mul, nI_add, nI_1, nI_clamp, pr_i_2, pr_i_3]
    refine pr_ifT rfl (fun h40 => ?_) (fun h40 => ?_)
    · simp only [ab_cmp, pr_i_2, pr_i_3] at h40
      first
      | contradiction
      | exact absurd trivial h40
      | exact absurd h40 (by decide)
      | exact absurd (Classical.not_not.mp h40) (by decide)
      | skip
        refine pr_seqT (pc' := 57) 1 rfl ⟨trivial, (by first | decide | assumption)⟩ ?_
        try simp (disch := omega) only [g, rI_mul, nI_add, nI_1, nI_clamp, pr_i_2, pr_i_3]
        refine pr_cvT [] rfl rfl rfl rfl rfl (Nat.le_of_ble_eq_true rfl) (by first | assumption | decide | (simp (disch := omega) only [g, rI_mul, nI_add, nI_1, nI_clamp, pr_i_2, pr_i_3]; first | assumption | exact ⟨Or.inl (by assumption), rvin (by assumption) (by omega) (by decide)⟩ | exact ⟨by assumption, rvin (by assumption) (by omega) (by decide)⟩ | exact ⟨⟨by omega, by omega⟩, rvin (by assumption) (by omega) (by decide)⟩ | exact ⟨Or.inr (by assumption), rvin (by assumption) (by omega) (by decide)⟩ | exact ⟨Or.inr ⟨by assumption, (by first | exact Or.inl rfl | exact Or.inr rfl | exact pr_b01 _)⟩, rvin (by assumption) (by omega) (by decide)⟩ | exact ⟨by assumption, by assumption⟩ | decide | omega)) (Nat.le_of_ble_eq_true rfl) (hst) ?_
        exact pr_vrT rfl rfl (by exact ⟨rfl, rfl, hf, he, fun ⟨_, z⟩ => by cases z⟩)
    · simp only [ab_cmp, pr_i_2, pr_i_3] at h40
      exact absurd (Classical.not_not.mp h40) en
  | ok p =>
    obtain ⟨e0, e1, e2, e3, e4, e5, e6⟩ := id he
    have hle := tok_le e0
    have hv := hv ⟨p, rfl⟩
    by_cases c : (tok w p).1 = 3
    · have z : nI (tok w p).1 = nI 3 := by rw [c]
      have hst := q_adv h (I, M.2) hl hwI he
      have hS : semiE w (.ok p) = adN w (.ok p) := by show (if (tok w p).1 = 3 then _ else _) = _; rw [if_pos c]; rfl
      rw [hS]
      refine pr_seqT (pc' := 40) 2 rfl ⟨⟨trivial, (by first | decide | assumption)⟩, (by assumption)⟩ ?_
      try simp (disch := omega) only [e2, e5, c3, rI_mul, nI_add, nI_1, nI_clamp, pr_i_2, pr_i_3]
      refine pr_ifT rfl (fun h40 => ?_) (fun h40 => ?_)
      · simp only [ab_cmp, pr_i_2, pr_i_3] at h40
        exact absurd trivial h40
      · simp only [ab_cmp, pr_i_2, pr_i_3] at h40
        first
        | contradiction
        | exact absurd trivial h40
        | exact absurd h40 (by decide)
        | exact absurd (Classical.not_not.mp h40) (by decide)
        | skip
          refine pr_seqT (pc' := 48) 3 rfl ⟨⟨⟨trivial, (by first | decide | assumption)⟩, (by assumption)⟩, trivial⟩ ?_
          try simp (disch := omega) only [e2, e5, c3, rI_mul, nI_add, nI_1, nI_clamp, pr_i_2, pr_i_3]
          refine pr_icT rfl (fun h48 => ?_) (fun h48 => ?_)
          · simp only [ab_cmp, pr_i_2, pr_i_3] at h48
            first
            | contradiction
            | exact absurd trivial h48
            | exact absurd h48 (by decide)
            | exact absurd (Classical.not_not.mp h48) (by decide)
            | skip
              refine pr_seqT (pc' := 57) 1 rfl ⟨trivial, (by first | decide | assumption)⟩ ?_
              try simp (disch := omega) only [e2, e5, c3, rI_mul, nI_add, nI_1, nI_clamp, pr_i_2, pr_i_3]
              refine pr_cvX [] rfl rfl rfl rfl rfl (Nat.le_of_ble_eq_true rfl) (by first | assumption | decide | (simp (disch := omega) only [e2, e5, c3, rI_mul, nI_add, nI_1, nI_clamp, pr_i_2, pr_i_3]; first | assumption | exact ⟨Or.inl (by assumption), rvin (by assumption) (by omega) (by decide)⟩ | exact ⟨by assumption, rvin (by assumption) (by omega) (by decide)⟩ | exact ⟨⟨by omega, by omega⟩, rvin (by assumption) (by omega) (by decide)⟩ | exact ⟨Or.inr (by assumption), rvin (by assumption) (by omega) (by decide)⟩ | exact ⟨Or.inr ⟨by assumption, (by first | exact Or.inl rfl | exact Or.inr rfl | exact pr_b01 _)⟩, rvin (by assumption) (by omega) (by decide)⟩ | exact ⟨by assumption, by assumption⟩ | decide | omega)) (Nat.le_of_ble_eq_true rfl) (hst) (fun v57 M57 q57 => ?_)
              obtain ⟨rfl, w1, w2, w3⟩ := q57
              obtain ⟨I1, Z1⟩ := M57
              dsimp only at w1 w2 w3
              subst w1
              exact pr_vrT rfl rfl (by exact ⟨rfl, rfl, lfr_tr hf (lfr_r w2), w3, fun _ => pv_rfr w2 hv⟩)
          · simp only [ab_cmp, pr_i_2, pr_i_3] at h48
            exact absurd z h48
    · have z : ¬ nI (tok w p).1 = nI 3 := nI_ne c (by omega) (by decide)
      have hfa := q_flN (c := 2) (x := 2) rfl (by decide) h (I, M.2) hl he
      have hS : semiE w (.ok p) = .error (2, (tok w p).2.1) := by show (if (tok w p).1 = 3 then _ else _) = _; rw [if_neg c]
      rw [hS]
      refine pr_seqT (pc' := 40) 2 rfl ⟨⟨trivial, (by first | decide | assumption)⟩, (by assumption)⟩ ?_
      try simp (disch := omega) only [e2, e5, c3, rI_mul, nI_add, nI_1, nI_clamp, pr_i_2, pr_i_3]
      refine pr_ifT rfl (fun h40 => ?_) (fun h40 => ?_)
      · simp only [ab_cmp, pr_i_2, pr_i_3] at h40
        exact absurd trivial h40
      · simp only [ab_cmp, pr_i_2, pr_i_3] at h40
        first
        | contradiction
        | exact absurd trivial h40
        | exact absurd h40 (by decide)
        | exact absurd (Classical.not_not.mp h40) (by decide)
        | skip
          refine pr_seqT (pc' := 48) 3 rfl ⟨⟨⟨trivial, (by first | decide | assumption)⟩, (by assumption)⟩, trivial⟩ ?_
          try simp (disch := omega) only [e2, e5, c3, rI_mul, nI_add, nI_1, nI_clamp, pr_i_2, pr_i_3]
          refine pr_icT rfl (fun h48 => ?_) (fun h48 => ?_)
          · simp only [ab_cmp, pr_i_2, pr_i_3] at h48
            exact absurd h48 z
          · simp only [ab_cmp, pr_i_2, pr_i_3] at h48
            first
            | contradiction
            | exact absurd trivial h48
            | exact absurd h48 (by decide)
            | exact absurd (Classical.not_not.mp h48) (by decide)
            | skip
              refine pr_seqT (pc' := 53) 2 rfl ⟨⟨trivial, (by first | decide | assumption)⟩, trivial⟩ ?_
              try simp (disch := omega) only [e2, e5, c3, rI_mul, nI_add, nI_1, nI_clamp, pr_i_2, pr_i_3]
              refine pr_cvX [_] rfl rfl rfl rfl rfl (Nat.le_of_ble_eq_true rfl) (by first | assumption | decide | (simp (disch := omega) only [e2, e5, c3, rI_mul, nI_add, nI_1, nI_clamp, pr_i_2, pr_i_3]; first | assumption | exact ⟨Or.inl (by assumption), rvin (by assumption) (by omega) (by decide)⟩ | exact ⟨by assumption, rvin (by assumption) (by omega) (by decide)⟩ | exact ⟨⟨by omega, by omega⟩, rvin (by assumption) (by omega) (by decide)⟩ | exact ⟨Or.inr (by assumption), rvin (by assumption) (by omega) (by decide)⟩ | exact ⟨Or.inr ⟨by assumption, (by first | exact Or.inl rfl | exact Or.inr rfl | exact pr_b01 _)⟩, rvin (by assumption) (by omega) (by decide)⟩ | exact ⟨by assumption, by assumption⟩ | decide | omega)) (Nat.le_of_ble_eq_true rfl) (hfa) (fun v53 M53 q53 => ?_)
              obtain ⟨rfl, w1, w2, w3⟩ := q53
              obtain ⟨I1, Z1⟩ := M53
              dsimp only at w1 w2 w3
              subst w1
              have hst := q_stepB h (I1, M.2) hl w3.1 w3.2.1
              refine pr_seqT (pc' := 57) 1 rfl ⟨trivial, (by first | decide | assumption)⟩ ?_
              try simp (disch := omega) only [e2, e5, c3, rI_mul, nI_add, nI_1, nI_clamp, pr_i_2, pr_i_3]
              refine pr_cvT [] rfl rfl rfl rfl rfl (Nat.le_of_ble_eq_true rfl) (by first | assumption | decide | (simp (disch := omega) only [e2, e5, c3, rI_mul, nI_add, nI_1, nI_clamp, pr_i_2, pr_i_3]; first | assumption | exact ⟨Or.inl (by assumption), rvin (by assumption) (by omega) (by decide)⟩ | exact ⟨by assumption, rvin (by assumption) (by omega) (by decide)⟩ | exact ⟨⟨by omega, by omega⟩, rvin (by assumption) (by omega) (by decide)⟩ | exact ⟨Or.inr (by assumption), rvin (by assumption) (by omega) (by decide)⟩ | exact ⟨Or.inr ⟨by assumption, (by first | exact Or.inl rfl | exact Or.inr rfl | exact pr_b01 _)⟩, rvin (by assumption) (by omega) (by decide)⟩ | exact ⟨by assumption, by assumption⟩ | decide | omega)) (Nat.le_of_ble_eq_true rfl) (hst) ?_
              exact pr_vrT rfl rfl (by exact ⟨rfl, rfl, lfr_tr hf (lfr_r w2), w3, fun ⟨_, z⟩ => by cases z⟩)
def liE (w : List Nat) (P : PS) (p i : Nat) : Er := match rmE w P i p with
  | .error q => .error q
  | .ok p1 => semiE w (moE w (rmP P i) i p1)
def liP (w : List Nat) (P : PS) (p i : Nat) : PS := match rmE w P i p with
  | .error _ => P
  | .ok p1 => moP w (rmP P i) i p1
theorem q_line1 {w : List Nat} {P : PS} {p i : Nat} (h : ab_H) (M : ab_M) (hl : rL h M.2.2) (hw : tp_r M.1 w) (hcn : cn_r M.1) (hv : pv M.1 P) (he : rs2 M.1 w (.ok p)) (hi : i < 6) (hwk : wkR w (tok w p) 11 0 = nI i) : pr_X pX11_readLine [.ref 172] h M (ln2_p M w (liE w P p i) (liP w P p i) none) := by
  obtain ⟨k172, rS, rLs, rKn, rPg, rRl, rRk, rTp, rCu, rLe, rLt, rSm, rIk, rLn, rLg, rCe, ⟨kS, nS⟩, ⟨kLs, nLs⟩, ⟨kKn, nKn⟩, ⟨kPg, nPg⟩, ⟨kRl, nRl⟩, ⟨kRk, nRk⟩, ⟨kTp, nTp⟩, ⟨kCu, nCu⟩, ⟨kLe, nLe⟩, ⟨kLt, nLt⟩, ⟨kSm, nSm⟩, ⟨kIk, nIk⟩, ⟨kLn, nLn⟩, ⟨kLg, nLg⟩, kCe, nCe⟩ := id hl
  have hwd := q_wordHere h M hl hw hcn he
  rw [hwk] at hwd
  have hin := q_in (a := (nI i).toInt64) (b := Int64.ofNat 0) (c := Int64.ofNat 5) (nI i) 0 5 h M rfl rfl rfl
  rw [in_t (m := 5) (hi := 5) (by omega) rfl (by decide)] at hin
  have hrm := q_hasRoom hi h M hl hw hv he
  have g8 : P.1.1.2.1.length ≤ 8 := hv.1.2.1
  have g6 : P.1.2.2.length ≤ 6 := hv.2.2.1.2.1
  unfold liE liP
  cases hr : rmE w P i p with
  | error q =>
    rw [hr] at hrm
    dsimp only
    refine pr_seqT (pc' := 1) 1 rfl ⟨trivial, (by first | decide | assumption)⟩ ?_
    try simp (disch := omega) only [rI_mul, nI_add, nI_1, nI_clamp, pr_i_2, pr_i_3]
    refine pr_cvT [] rfl rfl rfl rfl rfl (Nat.le_of_ble_eq_true rfl) (by first | assumption | decide | (simp (disch := omega) only [rI_mul, nI_add, nI_1, nI_clamp, pr_i_2, pr_i_3]; first | assumption | exact ⟨Or.inl (by assumption), rvin (by assumption) (by omega) (by decide)⟩ | exact ⟨by assumption, rvin (by assumption) (by omega) (by decide)⟩ | exact ⟨⟨by omega, by omega⟩, rvin (by assumption) (by omega) (by decide)⟩ | exact ⟨Or.inr (by assumption), rvin (by assumption) (by omega) (by decide)⟩ | exact ⟨Or.inr ⟨by assumption, (by first | exact Or.inl rfl | exact Or.inr rfl | exact pr_b01 _)⟩, rvin (by assumption) (by omega) (by decide)⟩ | exact ⟨by assumption, by assumption⟩ | decide | omega)) (Nat.le_of_ble_eq_true rfl) (hwd) ?_
    refine pr_seqT (pc' := 11) 5 rfl ⟨⟨⟨⟨⟨trivial, trivial⟩, trivial⟩, trivial⟩, trivial⟩, trivial⟩ ?_
    try simp (disch := omega) only [rI_mul, nI_add, nI_1, nI_clamp, pr_i_2, pr_i_3]
    refine pr_csT [_, _, _] rfl rfl rfl rfl rfl (Nat.le_of_ble_eq_true rfl) (Nat.le_of_ble_eq_true rfl) (hin) ?_
    refine pr_ifT rfl (fun h14 => ?_) (fun h14 => ?_)
    · simp only [ab_cmp, pr_i_2, pr_i_3] at h14
      first
      | contradiction
      | exact absurd trivial h14
      | exact absurd h14 (by decide)
      | exact absurd (Classical.not_not.mp h14) (by decide)
      | skip
        refine pr_seqT (pc' := 25) 2 rfl ⟨⟨trivial, (by first | decide | assumption)⟩, trivial⟩ ?_
        try simp (disch := omega) only [rI_mul, nI_add, nI_1, nI_clamp, pr_i_2, pr_i_3]
        refine pr_cvX [_] rfl rfl rfl rfl rfl (Nat.le_of_ble_eq_true rfl) (by first | assumption | decide | (simp (disch := omega) only [rI_mul, nI_add, nI_1, nI_clamp, pr_i_2, pr_i_3]; first | assumption | exact ⟨Or.inl (by assumption), rvin (by assumption) (by omega) (by decide)⟩ | exact ⟨by assumption, rvin (by assumption) (by omega) (by decide)⟩ | exact ⟨⟨by omega, by omega⟩, rvin (by assumption) (by omega) (by decide)⟩ | exact ⟨Or.inr (by assumption), rvin (by assumption) (by omega) (by decide)⟩ | exact ⟨Or.inr ⟨by assumption, (by first | exact Or.inl rfl | exact Or.inr rfl | exact pr_b01 _)⟩, rvin (by assumption) (by omega) (by decide)⟩ | exact ⟨by assumption, by assumption⟩ | decide | omega)) (Nat.le_of_ble_eq_true rfl) (hrm) (fun v25 M25 q25 => ?_)
        obtain ⟨rfl, w1, w2, w3, w4⟩ := q25
        obtain ⟨I1, Z1⟩ := M25
        dsimp only at w1 w2 w3 w4
        subst w1
        refine pr_ifT rfl (fun h28 => ?_) (fun h28 => ?_)
        · simp only [ab_cmp, pr_i_2, pr_i_3] at h28
          first
          | contradiction
          | exact absurd trivial h28
          | exact absurd h28 (by decide)
          | exact absurd (Classical.not_not.mp h28) (by decide)
          | skip
            exact rl_end (e := .error q) h M hl hw w2 w3 (fun ⟨_, z⟩ => by cases z)
        · simp only [ab_cmp, pr_i_2, pr_i_3] at h28
          exact absurd rfl h28
    · simp only [ab_cmp, pr_i_2, pr_i_3] at h14
      exact absurd (Classical.not_not.mp h14) (by decide)
  | ok p1 =>
    rw [hr] at hrm
    dsimp only
    have h8' : i = 3 → (rmP P i).1.1.2.1.length < 8 := fun z => by
      show P.1.1.2.1.length < 8
      rcases Nat.lt_or_ge P.1.1.2.1.length 8 with y | y
      · exact y
      · exfalso
        unfold rmE at hr
        rw [if_pos (Or.inl ⟨z, by omega⟩)] at hr
        cases hr
    have h6' : i = 5 → (rmP P i).1.2.2.length < 6 := fun z => by
      show P.1.2.2.length < 6
      rcases Nat.lt_or_ge P.1.2.2.length 6 with y | y
      · exact y
      · exfalso
        unfold rmE at hr
        rw [if_pos (Or.inr ⟨z, by omega⟩)] at hr
        cases hr
    refine pr_seqT (pc' := 1) 1 rfl ⟨trivial, (by first | decide | assumption)⟩ ?_
    try simp (disch := omega) only [rI_mul, nI_add, nI_1, nI_clamp, pr_i_2, pr_i_3]
    refine pr_cvT [] rfl rfl rfl rfl rfl (Nat.le_of_ble_eq_true rfl) (by first | assumption | decide | (simp (disch := omega) only [rI_mul, nI_add, nI_1, nI_clamp, pr_i_2, pr_i_3]; first | assumption | exact ⟨Or.inl (by assumption), rvin (by assumption) (by omega) (by decide)⟩ | exact ⟨by assumption, rvin (by assumption) (by omega) (by decide)⟩ | exact ⟨⟨by omega, by omega⟩, rvin (by assumption) (by omega) (by decide)⟩ | exact ⟨Or.inr (by assumption), rvin (by assumption) (by omega) (by decide)⟩ | exact ⟨Or.inr ⟨by assumption, (by first | exact Or.inl rfl | exact Or.inr rfl | exact pr_b01 _)⟩, rvin (by assumption) (by omega) (by decide)⟩ | exact ⟨by assumption, by assumption⟩ | decide | omega)) (Nat.le_of_ble_eq_true rfl) (hwd) ?_
    refine pr_seqT (pc' := 11) 5 rfl ⟨⟨⟨⟨⟨trivial, trivial⟩, trivial⟩, trivial⟩, trivial⟩, trivial⟩ ?_
    try simp (disch := omega) only [rI_mul, nI_add, nI_1, nI_clamp, pr_i_2, pr_i_3]
    refine pr_csT [_, _, _] rfl rfl rfl rfl rfl (Nat.le_of_ble_eq_true rfl) (Nat.le_of_ble_eq_true rfl) (hin) ?_
    refine pr_ifT rfl (fun h14 => ?_) (fun h14 => ?_)
    · simp only [ab_cmp, pr_i_2, pr_i_3] at h14
      first
      | contradiction
      | exact absurd trivial h14
      | exact absurd h14 (by decide)
      | exact absurd (Classical.not_not.mp h14) (by decide)
      | skip
        refine pr_seqT (pc' := 25) 2 rfl ⟨⟨trivial, (by first | decide | assumption)⟩, trivial⟩ ?_
        try simp (disch := omega) only [rI_mul, nI_add, nI_1, nI_clamp, pr_i_2, pr_i_3]
        refine pr_cvX [_] rfl rfl rfl rfl rfl (Nat.le_of_ble_eq_true rfl) (by first | assumption | decide | (simp (disch := omega) only [rI_mul, nI_add, nI_1, nI_clamp, pr_i_2, pr_i_3]; first | assumption | exact ⟨Or.inl (by assumption), rvin (by assumption) (by omega) (by decide)⟩ | exact ⟨by assumption, rvin (by assumption) (by omega) (by decide)⟩ | exact ⟨⟨by omega, by omega⟩, rvin (by assumption) (by omega) (by decide)⟩ | exact ⟨Or.inr (by assumption), rvin (by assumption) (by omega) (by decide)⟩ | exact ⟨Or.inr ⟨by assumption, (by first | exact Or.inl rfl | exact Or.inr rfl | exact pr_b01 _)⟩, rvin (by assumption) (by omega) (by decide)⟩ | exact ⟨by assumption, by assumption⟩ | decide | omega)) (Nat.le_of_ble_eq_true rfl) (hrm) (fun v25 M25 q25 => ?_)
        obtain ⟨rfl, w1, w2, w3, w4⟩ := q25
        obtain ⟨I1, Z1⟩ := M25
        dsimp only at w1 w2 w3 w4
        subst w1
        have hmo := q_readMore hi h (I1, M.2) hl (lfr_tp w2 hw) (lfr_cn w2 hcn) (w4 ⟨p1, rfl⟩) h8' h6' w3
        refine pr_ifT rfl (fun h28 => ?_) (fun h28 => ?_)
        · simp only [ab_cmp, pr_i_2, pr_i_3] at h28
          exact absurd (show (1 : Int32) = 0 from h28) (by decide)
        · simp only [ab_cmp, pr_i_2, pr_i_3] at h28
          first
          | contradiction
          | exact absurd trivial h28
          | exact absurd h28 (by decide)
          | exact absurd (Classical.not_not.mp h28) (by decide)
          | skip
            refine pr_seqT (pc' := 33) 2 rfl ⟨⟨trivial, (by first | decide | assumption)⟩, trivial⟩ ?_
            try simp (disch := omega) only [rI_mul, nI_add, nI_1, nI_clamp, pr_i_2, pr_i_3]
            refine pr_cvX [_] rfl rfl rfl rfl rfl (Nat.le_of_ble_eq_true rfl) (by first | assumption | decide | (simp (disch := omega) only [rI_mul, nI_add, nI_1, nI_clamp, pr_i_2, pr_i_3]; first | assumption | exact ⟨Or.inl (by assumption), rvin (by assumption) (by omega) (by decide)⟩ | exact ⟨by assumption, rvin (by assumption) (by omega) (by decide)⟩ | exact ⟨⟨by omega, by omega⟩, rvin (by assumption) (by omega) (by decide)⟩ | exact ⟨Or.inr (by assumption), rvin (by assumption) (by omega) (by decide)⟩ | exact ⟨Or.inr ⟨by assumption, (by first | exact Or.inl rfl | exact Or.inr rfl | exact pr_b01 _)⟩, rvin (by assumption) (by omega) (by decide)⟩ | exact ⟨by assumption, by assumption⟩ | decide | omega)) (Nat.le_of_ble_eq_true rfl) (hmo) (fun v33 M33 q33 => ?_)
            obtain ⟨rfl, u1, u2, u3, u4⟩ := q33
            obtain ⟨I2, Z2⟩ := M33
            dsimp only at u1 u2 u3 u4
            subst u1
            exact rl_end h M hl hw (lfr_tr w2 u2) u3 u4
    · simp only [ab_cmp, pr_i_2, pr_i_3] at h14
      exact absurd (Classical.not_not.mp h14) (by decide)
theorem q_line0 {w : List Nat} {P : PS} {p : Nat} {v : Int32} (h : ab_H) (M : ab_M) (hl : rL h M.2.2) (hw : tp_r M.1 w) (hcn : cn_r M.1) (he : rs2 M.1 w (.ok p)) (hwk : wkR w (tok w p) 11 0 = v) (hv : pr_in v 0 5 = false) : pr_X pX11_readLine [.ref 172] h M (ln2_p M w (.error (2, (tok w p).2.1)) P none) := by
  obtain ⟨k172, rS, rLs, rKn, rPg, rRl, rRk, rTp, rCu, rLe, rLt, rSm, rIk, rLn, rLg, rCe, ⟨kS, nS⟩, ⟨kLs, nLs⟩, ⟨kKn, nKn⟩, ⟨kPg, nPg⟩, ⟨kRl, nRl⟩, ⟨kRk, nRk⟩, ⟨kTp, nTp⟩, ⟨kCu, nCu⟩, ⟨kLe, nLe⟩, ⟨kLt, nLt⟩, ⟨kSm, nSm⟩, ⟨kIk, nIk⟩, ⟨kLn, nLn⟩, ⟨kLg, nLg⟩, kCe, nCe⟩ := id hl
  have hwd := q_wordHere h M hl hw hcn he
  rw [hwk] at hwd
  have hin := q_in (a := v.toInt64) (b := Int64.ofNat 0) (c := Int64.ofNat 5) v 0 5 h M rfl rfl rfl
  rw [hv] at hin
  have hfa := q_flN (c := 2) (x := 2) rfl (by decide) h M hl he
  refine pr_seqT (pc' := 1) 1 rfl ⟨trivial, (by first | decide | assumption)⟩ ?_
  try simp (disch := omega) only [rI_mul, nI_add, nI_1, nI_clamp, pr_i_2, pr_i_3]
  refine pr_cvT [] rfl rfl rfl rfl rfl (Nat.le_of_ble_eq_true rfl) (by first | assumption | decide | (simp (disch := omega) only [rI_mul, nI_add, nI_1, nI_clamp, pr_i_2, pr_i_3]; first | assumption | exact ⟨Or.inl (by assumption), rvin (by assumption) (by omega) (by decide)⟩ | exact ⟨by assumption, rvin (by assumption) (by omega) (by decide)⟩ | exact ⟨⟨by omega, by omega⟩, rvin (by assumption) (by omega) (by decide)⟩ | exact ⟨Or.inr (by assumption), rvin (by assumption) (by omega) (by decide)⟩ | exact ⟨Or.inr ⟨by assumption, (by first | exact Or.inl rfl | exact Or.inr rfl | exact pr_b01 _)⟩, rvin (by assumption) (by omega) (by decide)⟩ | exact ⟨by assumption, by assumption⟩ | decide | omega)) (Nat.le_of_ble_eq_true rfl) (hwd) ?_
  refine pr_seqT (pc' := 11) 5 rfl ⟨⟨⟨⟨⟨trivial, trivial⟩, trivial⟩, trivial⟩, trivial⟩, trivial⟩ ?_
  try simp (disch := omega) only [rI_mul, nI_add, nI_1, nI_clamp, pr_i_2, pr_i_3]
  refine pr_csT [_, _, _] rfl rfl rfl rfl rfl (Nat.le_of_ble_eq_true rfl) (Nat.le_of_ble_eq_true rfl) (hin) ?_
  refine pr_ifT rfl (fun h14 => ?_) (fun h14 => ?_)
  · simp only [ab_cmp, pr_i_2, pr_i_3] at h14
    exact absurd rfl h14
  · simp only [ab_cmp, pr_i_2, pr_i_3] at h14
    first
    | contradiction
    | exact absurd trivial h14
    | exact absurd h14 (by decide)
    | exact absurd (Classical.not_not.mp h14) (by decide)
    | skip
      refine pr_seqT (pc' := 19) 2 rfl ⟨⟨trivial, (by first | decide | assumption)⟩, trivial⟩ ?_
      try simp (disch := omega) only [rI_mul, nI_add, nI_1, nI_clamp, pr_i_2, pr_i_3]
      refine pr_cvX [_] rfl rfl rfl rfl rfl (Nat.le_of_ble_eq_true rfl) (by first | assumption | decide | (simp (disch := omega) only [rI_mul, nI_add, nI_1, nI_clamp, pr_i_2, pr_i_3]; first | assumption | exact ⟨Or.inl (by assumption), rvin (by assumption) (by omega) (by decide)⟩ | exact ⟨by assumption, rvin (by assumption) (by omega) (by decide)⟩ | exact ⟨⟨by omega, by omega⟩, rvin (by assumption) (by omega) (by decide)⟩ | exact ⟨Or.inr (by assumption), rvin (by assumption) (by omega) (by decide)⟩ | exact ⟨Or.inr ⟨by assumption, (by first | exact Or.inl rfl | exact Or.inr rfl | exact pr_b01 _)⟩, rvin (by assumption) (by omega) (by decide)⟩ | exact ⟨by assumption, by assumption⟩ | decide | omega)) (Nat.le_of_ble_eq_true rfl) (hfa) (fun v19 M19 q19 => ?_)
      obtain ⟨rfl, w1, w2, w3⟩ := q19
      exact pr_vrT rfl rfl (by exact ⟨rfl, w1, lfr_r w2, w3, fun ⟨_, z⟩ => by cases z⟩)
/-! ===== the same in the document's words ===== -/
/-- the reader stands where the line says -/
def LR (w : List Nat) (e : Er) (P' : PS) (L : Except (Nat × Nat) (PS × Nat)) : Prop := match L with
  | .error q => e = .error q
  | .ok x => e = stN w x.2 ∧ x.1 = P'
theorem lr_then (w : List Nat) (P : PS) (p : Nat) : LR w (semiE w (stN w p)) P (thenSemi w P p) := by
  unfold thenSemi tSemi stN
  by_cases c : (tok w p).1 = 4
  · rw [if_pos c, if_pos c]
    exact rfl
  · rw [if_neg c, if_neg c]
    by_cases d : (tok w p).1 = 3
    · rw [if_pos d]
      exact ⟨by show (if (tok w p).1 = 3 then _ else _) = _; rw [if_pos d], rfl⟩
    · rw [if_neg d]
      show (if (tok w p).1 = 3 then _ else _) = _
      rw [if_neg d]
theorem nu_st (w : List Nat) (lo hi p : Nat) : nuE w lo hi (stN w p) = (match tNum w lo hi p with
    | .error q => .error q
    | .ok x => stN w x.2) ∧ nuV w lo hi (stN w p) = (match tNum w lo hi p with
    | .error _ => lo
    | .ok x => x.1) := by
  unfold stN
  by_cases c : (tok w p).1 = 4
  · rw [if_pos c]
    have : tNum w lo hi p = .error (1, (tok w p).2.1) := by unfold tNum; rw [if_pos c]
    rw [this]
    exact ⟨rfl, rfl⟩
  · rw [if_neg c]
    exact ⟨rfl, rfl⟩
theorem lo_st (w : List Nat) (mx p : Nat) : adN w (loE w mx (stN w p)) = (match tWord w mx p with
    | .error q => .error q
    | .ok x => stN w x.2) := by
  unfold stN
  by_cases c : (tok w p).1 = 4
  · rw [if_pos c]
    have : tWord w mx p = .error (1, (tok w p).2.1) := by unfold tWord; rw [if_pos c]
    rw [this]
    rfl
  · rw [if_neg c]
    show adN w (match tWord w mx p with
      | .error q => .error q
      | .ok _ => .ok p) = _
    unfold tWord
    rw [if_neg c]
    by_cases c1 : (tok w p).1 = 1
    · rw [if_pos c1]
      by_cases c2 : (tok w p).2.2.1 - (tok w p).2.1 ≤ mx
      · rw [if_pos c2]; rfl
      · rw [if_neg c2]; rfl
    · rw [if_neg c1]; rfl
theorem on_nm (w : List Nat) (p : Nat) : onN w (stN w p) = (match tWord w 10 p with
    | .error _ => []
    | .ok x => ltrs w x.1 (x.2 - x.1)) := by
  unfold stN
  by_cases c : (tok w p).1 = 4
  · rw [if_pos c]
    have : tWord w 10 p = .error (1, (tok w p).2.1) := by unfold tWord; rw [if_pos c]
    rw [this]
    rfl
  · rw [if_neg c]
    rfl
theorem lr_more (w : List Nat) : ∀ f P p, 7 ≤ P.1.2.1.length + f → P.1.2.1.length ≤ 6 → LR w (semiE w (nmR w f P (stN w p)).1) (nmR w f P (stN w p)).2 (lstMore w f P p) := by
  intro f
  induction f with
  | zero => intro P p h1 h2; omega
  | succ f ih =>
    intro P p h1 h2
    unfold lstMore stN
    by_cases c : (tok w p).1 = 4
    · rw [if_pos c, if_pos c]
      exact rfl
    · rw [if_neg c, if_neg c]
      have hR : nmR w (f + 1) P (.ok p) = if (tok w p).1 = 1 then (match aLst w P (tok w p) with
        | .error q => (.error q, P)
        | .ok P' => nmR w f P' (stN w (tok w p).2.2.1)) else (.ok p, P) := rfl
      by_cases d : (tok w p).1 = 3
      · rw [if_pos d, hR, if_neg (by omega)]
        exact ⟨by show (if (tok w p).1 = 3 then _ else _) = _; rw [if_pos d], rfl⟩
      · rw [if_neg d]
        by_cases e : (tok w p).1 = 1
        · rw [hR, if_pos e]
          cases ha : aLst w P (tok w p) with
          | error q => exact rfl
          | ok P' =>
            have hal := aLst_len ha
            exact ih P' _ (by omega) hal.2
        · have ha : aLst w P (tok w p) = .error (2, (tok w p).2.1) := by unfold aLst; rw [if_neg e]
          rw [hR, if_neg e, ha]
          show (if (tok w p).1 = 3 then _ else _) = _
          rw [if_neg d]
