
/-! ===== the reference's reader: numbers, names, words ===== -/
abbrev Er : Type := Except (Nat × Nat) Nat
/-- where the reader stands: at the token that begins at p, or at a fault -/
def rs2 (I : Nat → Nat → Int32) (w : List Nat) : Er → Prop
  | .error q => I 172 16 = nI q.1 ∧ (1 ≤ q.1 ∧ q.1 ≤ 6) ∧ I 172 17 = nI q.2
  | .ok p => p ≤ w.length ∧ ¬ (tok w p).1 = 4 ∧ I 172 16 = 0 ∧ I 172 18 = nI (tok w p).2.2.1 ∧ I 172 19 = nI (tok w p).2.1 ∧ I 172 20 = nI (tok w p).1 ∧ ((tok w p).1 = 2 → I 172 21 = nI (tok w p).2.2.2)
def stN (w : List Nat) (p : Nat) : Er := if (tok w p).1 = 4 then .error (1, (tok w p).2.1) else .ok p
/-- the next token -/
def adN (w : List Nat) : Er → Er
  | .error q => .error q
  | .ok p => stN w (tok w p).2.2.1
def s2_p (M : ab_M) (w : List Nat) (e : Er) (v : Option Value) (r : Option Value) (M' : ab_M) : Prop := r = v ∧ M'.2 = M.2 ∧ rfr M.1 M'.1 ∧ rs2 M'.1 w e
theorem rs2_stN {I : Nat → Nat → Int32} {w : List Nat} {p : Nat} (hp : p ≤ w.length) (h : rsv I (stp w p)) : rs2 I w (stN w p) := by
  unfold stp at h
  unfold stN
  by_cases c : (tok w p).1 = 4
  · rw [if_pos c] at h ⊢
    exact h
  · rw [if_neg c] at h ⊢
    exact ⟨hp, c, h⟩
theorem rs2_fail {I : Nat → Nat → Int32} {w : List Nat} {c s : Nat} (hc : 1 ≤ c ∧ c ≤ 6) : rs2 (ab_u (ab_u I 172 16 (nI c)) 172 17 (nI s)) w (.error (c, s)) := ⟨by rw [ab_u_j (by decide), ab_u_at], hc, ab_u_at⟩
theorem q_adv {w : List Nat} {e : Er} (h : ab_H) (M : ab_M) (hl : rL h M.2.2) (hw : tp_r M.1 w) (he : rs2 M.1 w e) : pr_X pX11_step [.ref 172] h M (s2_p M w (adN w e) none) := by
  cases e with
  | error q => exact pr_ofC (q_stepB h M hl he.1 he.2.1) ⟨rfl, rfl, rfr_0, he⟩
  | ok p =>
    obtain ⟨e0, e1, e2, e3, -⟩ := he
    have hle := tok_le e0
    exact (q_step h M hl hw e2 e3 (by omega)).mono (fun r M' ⟨a1, a2, a3, a4⟩ => ⟨a1, a2, a3, rs2_stN (by omega) a4⟩)
/-- a fault, where there is none yet -/
def flN (w : List Nat) (c : Nat) : Er → Er
  | .error q => .error q
  | .ok p => .error (c, (tok w p).2.1)
theorem q_flN {w : List Nat} {e : Er} {c : Nat} {x : Int32} (hx : x = nI c) (hc : 1 ≤ c ∧ c ≤ 6) (h : ab_H) (M : ab_M) (hl : rL h M.2.2) (he : rs2 M.1 w e) : pr_X pX11_fails [.ref 172, .int x] h M (s2_p M w (flN w c e) none) := by
  subst hx
  cases e with
  | error q => exact pr_ofC (q_fails1 _ h M hl he.1 he.2.1) ⟨rfl, rfl, rfr_0, he⟩
  | ok p =>
    obtain ⟨e0, e1, e2, e3, e4, -⟩ := he
    have := q_fails0 (nI c) h M hl e2
    rw [e4] at this
    exact pr_ofC this ⟨rfl, rfl, rfr_tr (rfr_u (by decide)) (rfr_u (by decide)), rs2_fail hc⟩
def nuE (w : List Nat) (lo hi : Nat) : Er → Er
  | .error q => .error q
  | .ok p => match tNum w lo hi p with
    | .error q => .error q
    | .ok x => stN w x.2
def nuV (w : List Nat) (lo hi : Nat) : Er → Nat
  | .error _ => lo
  | .ok p => match tNum w lo hi p with
    | .error _ => lo
    | .ok x => x.1
theorem q_number {w : List Nat} {e : Er} {lo hi : Nat} (h : ab_H) (M : ab_M) (hl : rL h M.2.2) (hw : tp_r M.1 w) (he : rs2 M.1 w e) (hlo : lo < 1000) (hhi : hi < 1000) : pr_X pX11_number [.ref 172, .int (nI lo), .int (nI hi)] h M (s2_p M w (nuE w lo hi e) (some (.int (nI (nuV w lo hi e))))) := by
  obtain ⟨k172, rS, rLs, rKn, rPg, rRl, rRk, rTp, rCu, rLe, rLt, rSm, rIk, rLn, rLg, rCe, ⟨kS, nS⟩, ⟨kLs, nLs⟩, ⟨kKn, nKn⟩, ⟨kPg, nPg⟩, ⟨kRl, nRl⟩, ⟨kRk, nRk⟩, ⟨kTp, nTp⟩, ⟨kCu, nCu⟩, ⟨kLe, nLe⟩, ⟨kLt, nLt⟩, ⟨kSm, nSm⟩, ⟨kIk, nIk⟩, ⟨kLn, nLn⟩, ⟨kLg, nLg⟩, kCe, nCe⟩ := id hl
  have n0 : nI 0 = 0 := rfl
  have tailE : ∀ (N : Nat → Nat → Int32) (q : Nat × Nat), rfr M.1 N → rs2 N w (.error q) → ∀ z3, pr_T pX11_number 47 [some (.ref 172), some (.int (nI lo)), some (.int (nI hi)), z3] [] h (N, M.2) (s2_p M w (.error q) (some (.int (nI lo)))) := by
    intro N q hf hq z3
    have e : ¬ nI q.1 = 0 := nI_ne0 (by have := hq.2.1; omega) (by have := hq.2.1; omega)
    have hst := q_stepB h (N, M.2) hl hq.1 hq.2.1
    have g := hq.1
    refine pr_seqT (pc' := 51) 2 rfl ⟨⟨trivial, (by first | decide | assumption)⟩, (by assumption)⟩ ?_
    try simp (disch := omega) only [g, rI_mul, nI_add, nI_1, nI_clamp, pr_i_2, pr_i_3]
    refine pr_ifT rfl (fun h51 => ?_) (fun h51 => ?_)
    · simp only [ab_cmp, pr_i_2, pr_i_3] at h51
      first
      | contradiction
      | exact absurd trivial h51
      | exact absurd h51 (by decide)
      | exact absurd (Classical.not_not.mp h51) (by decide)
      | skip
        refine pr_seqT (pc' := 64) 3 rfl ⟨⟨⟨trivial, trivial⟩, trivial⟩, (by first | decide | assumption)⟩ ?_
        try simp (disch := omega) only [g, rI_mul, nI_add, nI_1, nI_clamp, pr_i_2, pr_i_3]
        refine pr_cvT [] rfl rfl rfl rfl rfl (Nat.le_of_ble_eq_true rfl) (by first | assumption | decide | (simp (disch := omega) only [g, rI_mul, nI_add, nI_1, nI_clamp, pr_i_2, pr_i_3]; first | assumption | exact ⟨Or.inl (by assumption), rvin (by assumption) (by omega) (by decide)⟩ | exact ⟨by assumption, rvin (by assumption) (by omega) (by decide)⟩ | exact ⟨⟨by omega, by omega⟩, rvin (by assumption) (by omega) (by decide)⟩ | exact ⟨Or.inr (by assumption), rvin (by assumption) (by omega) (by decide)⟩ | exact ⟨Or.inr ⟨by assumption, (by first | exact Or.inl rfl | exact Or.inr rfl | exact pr_b01 _)⟩, rvin (by assumption) (by omega) (by decide)⟩ | exact ⟨by assumption, by assumption⟩ | decide | omega)) (Nat.le_of_ble_eq_true rfl) (hst) ?_
        refine pr_seqT (pc' := 68) 1 rfl ⟨trivial, trivial⟩ ?_
        try simp (disch := omega) only [g, rI_mul, nI_add, nI_1, nI_clamp, pr_i_2, pr_i_3]
        exact pr_irT rfl trivial (by exact ⟨rfl, rfl, hf, hq⟩)
    · simp only [ab_cmp, pr_i_2, pr_i_3] at h51
      exact absurd (Classical.not_not.mp h51) e
  have tailE2 : ∀ (N : Nat → Nat → Int32) (q : Nat × Nat), rfr M.1 N → rs2 N w (.error q) → ∀ z3, pr_T pX11_number 20 [some (.ref 172), some (.int (nI lo)), some (.int (nI hi)), z3] [] h (N, M.2) (s2_p M w (.error q) (some (.int (nI lo)))) := by
    intro N q hf hq z3
    have e : ¬ nI q.1 = 0 := nI_ne0 (by have := hq.2.1; omega) (by have := hq.2.1; omega)
    have g := hq.1
    refine pr_seqT (pc' := 24) 2 rfl ⟨⟨trivial, (by first | decide | assumption)⟩, (by assumption)⟩ ?_
    try simp (disch := omega) only [g, rI_mul, nI_add, nI_1, nI_clamp, pr_i_2, pr_i_3]
    refine pr_ifT rfl (fun h24 => ?_) (fun h24 => ?_)
    · simp only [ab_cmp, pr_i_2, pr_i_3] at h24
      first
      | contradiction
      | exact absurd trivial h24
      | exact absurd h24 (by decide)
      | exact absurd (Classical.not_not.mp h24) (by decide)
      | skip
        exact tailE N q hf hq z3
    · simp only [ab_cmp, pr_i_2, pr_i_3] at h24
      exact absurd (Classical.not_not.mp h24) e
  cases e with
  | error q =>
    have e : ¬ nI q.1 = 0 := nI_ne0 (by have := he.2.1; omega) (by have := he.2.1; omega)
    have g := he.1
    have h0 := tailE2 M.1 q rfr_0 he none
    show pr_X pX11_number _ h M (s2_p M w (.error q) (some (.int (nI lo))))
    refine pr_seqT (pc' := 4) 2 rfl ⟨⟨trivial, (by first | decide | assumption)⟩, (by assumption)⟩ ?_
    try simp (disch := omega) only [g, rI_mul, nI_add, nI_1, nI_clamp, pr_i_2, pr_i_3]
    refine pr_ifT rfl (fun h4 => ?_) (fun h4 => ?_)
    · simp only [ab_cmp, pr_i_2, pr_i_3] at h4
      first
      | contradiction
      | exact absurd trivial h4
      | exact absurd h4 (by decide)
      | exact absurd (Classical.not_not.mp h4) (by decide)
      | skip
        exact h0
    · simp only [ab_cmp, pr_i_2, pr_i_3] at h4
      exact absurd (Classical.not_not.mp h4) e
  | ok p =>
    obtain ⟨e0, e1, e2, e3, e4, e5, e6⟩ := id he
    have hle := tok_le e0
    show pr_X pX11_number _ h M (s2_p M w (match tNum w lo hi p with
      | .error q => .error q
      | .ok x => stN w x.2) (some (.int (nI (match tNum w lo hi p with
      | .error _ => lo
      | .ok x => x.1)))))
    unfold tNum
    rw [if_neg e1]
    by_cases c2' : (tok w p).1 = 2
    · rw [if_pos c2']
      have z2 : nI (tok w p).1 = nI 2 := by rw [c2']
      have v6 := e6 c2'
      have hn := num_le999 e0 c2'
      have hi0 := q_in (a := (nI (tok w p).2.2.2).toInt64) (b := (nI lo).toInt64) (c := (nI hi).toInt64) (nI (tok w p).2.2.2) (nI lo) (nI hi) h M rfl rfl rfl
      have hin : pr_in (nI (tok w p).2.2.2) (nI lo) (nI hi) = decide (lo ≤ (tok w p).2.2.2 ∧ (tok w p).2.2.2 ≤ hi) := by
        unfold pr_in
        rw [decide_eq_decide.mpr (nI_ltI (by omega) (by omega)), decide_eq_decide.mpr (nI_ltI (by omega) (by omega))]
        by_cases a1 : (tok w p).2.2.2 < lo
        · rw [decide_eq_true a1, decide_eq_false (show ¬ (lo ≤ (tok w p).2.2.2 ∧ (tok w p).2.2.2 ≤ hi) by omega)]; rfl
        · by_cases a2 : hi < (tok w p).2.2.2
          · rw [decide_eq_false a1, decide_eq_true a2, decide_eq_false (show ¬ (lo ≤ (tok w p).2.2.2 ∧ (tok w p).2.2.2 ≤ hi) by omega)]; rfl
          · rw [decide_eq_false a1, decide_eq_false a2, decide_eq_true (show lo ≤ (tok w p).2.2.2 ∧ (tok w p).2.2.2 ≤ hi by omega)]; rfl
      rw [hin] at hi0
      by_cases cr : lo ≤ (tok w p).2.2.2 ∧ (tok w p).2.2.2 ≤ hi
      · rw [if_pos cr]
        rw [decide_eq_true cr] at hi0
        have hst := q_adv h M hl hw he
        show pr_X pX11_number _ h M (s2_p M w (stN w (tok w p).2.2.1) (some (.int (nI (tok w p).2.2.2))))
        refine pr_seqT (pc' := 4) 2 rfl ⟨⟨trivial, (by first | decide | assumption)⟩, (by assumption)⟩ ?_
        try simp (disch := omega) only [e2, e5, v6, c2, rI_mul, nI_add, nI_1, nI_clamp, pr_i_2, pr_i_3]
        refine pr_ifT rfl (fun h4 => ?_) (fun h4 => ?_)
        · simp only [ab_cmp, pr_i_2, pr_i_3] at h4
          exact absurd trivial h4
        · simp only [ab_cmp, pr_i_2, pr_i_3] at h4
          first
          | contradiction
          | exact absurd trivial h4
          | exact absurd h4 (by decide)
          | exact absurd (Classical.not_not.mp h4) (by decide)
          | skip
            refine pr_seqT (pc' := 12) 3 rfl ⟨⟨⟨trivial, (by first | decide | assumption)⟩, (by assumption)⟩, trivial⟩ ?_
            try simp (disch := omega) only [e2, e5, v6, c2, rI_mul, nI_add, nI_1, nI_clamp, pr_i_2, pr_i_3]
            refine pr_icT rfl (fun h12 => ?_) (fun h12 => ?_)
            · simp only [ab_cmp, pr_i_2, pr_i_3] at h12
              first
              | contradiction
              | exact absurd trivial h12
              | exact absurd h12 (by decide)
              | exact absurd (Classical.not_not.mp h12) (by decide)
              | skip
                refine pr_seqT (pc' := 24) 2 rfl ⟨⟨trivial, (by first | decide | assumption)⟩, (by assumption)⟩ ?_
                try simp (disch := omega) only [e2, e5, v6, c2, rI_mul, nI_add, nI_1, nI_clamp, pr_i_2, pr_i_3]
                refine pr_ifT rfl (fun h24 => ?_) (fun h24 => ?_)
                · simp only [ab_cmp, pr_i_2, pr_i_3] at h24
                  exact absurd trivial h24
                · simp only [ab_cmp, pr_i_2, pr_i_3] at h24
                  first
                  | contradiction
                  | exact absurd trivial h24
                  | exact absurd h24 (by decide)
                  | exact absurd (Classical.not_not.mp h24) (by decide)
                  | skip
                    refine pr_seqT (pc' := 36) 7 rfl ⟨⟨⟨⟨⟨⟨⟨trivial, (by first | decide | assumption)⟩, (by assumption)⟩, trivial⟩, trivial⟩, trivial⟩, trivial⟩, trivial⟩ ?_
                    try simp (disch := omega) only [e2, e5, v6, c2, rI_mul, nI_add, nI_1, nI_clamp, pr_i_2, pr_i_3]
                    refine pr_csT [_, _, _] rfl rfl rfl rfl rfl (Nat.le_of_ble_eq_true rfl) (Nat.le_of_ble_eq_true rfl) (hi0) ?_
                    refine pr_ifT rfl (fun h39 => ?_) (fun h39 => ?_)
                    · simp only [ab_cmp, pr_i_2, pr_i_3] at h39
                      first
                      | contradiction
                      | exact absurd trivial h39
                      | exact absurd h39 (by decide)
                      | exact absurd (Classical.not_not.mp h39) (by decide)
                      | skip
                        refine pr_seqT (pc' := 51) 2 rfl ⟨⟨trivial, (by first | decide | assumption)⟩, (by assumption)⟩ ?_
                        try simp (disch := omega) only [e2, e5, v6, c2, rI_mul, nI_add, nI_1, nI_clamp, pr_i_2, pr_i_3]
                        refine pr_ifT rfl (fun h51 => ?_) (fun h51 => ?_)
                        · simp only [ab_cmp, pr_i_2, pr_i_3] at h51
                          exact absurd trivial h51
                        · simp only [ab_cmp, pr_i_2, pr_i_3] at h51
                          first
                          | contradiction
                          | exact absurd trivial h51
                          | exact absurd h51 (by decide)
                          | exact absurd (Classical.not_not.mp h51) (by decide)
                          | skip
                            refine pr_seqT (pc' := 64) 5 rfl ⟨⟨⟨⟨⟨trivial, (by first | decide | assumption)⟩, (by assumption)⟩, trivial⟩, trivial⟩, (by first | decide | assumption)⟩ ?_
                            try simp (disch := omega) only [e2, e5, v6, c2, rI_mul, nI_add, nI_1, nI_clamp, pr_i_2, pr_i_3]
                            refine pr_cvX [] rfl rfl rfl rfl rfl (Nat.le_of_ble_eq_true rfl) (by first | assumption | decide | (simp (disch := omega) only [e2, e5, v6, c2, rI_mul, nI_add, nI_1, nI_clamp, pr_i_2, pr_i_3]; first | assumption | exact ⟨Or.inl (by assumption), rvin (by assumption) (by omega) (by decide)⟩ | exact ⟨by assumption, rvin (by assumption) (by omega) (by decide)⟩ | exact ⟨⟨by omega, by omega⟩, rvin (by assumption) (by omega) (by decide)⟩ | exact ⟨Or.inr (by assumption), rvin (by assumption) (by omega) (by decide)⟩ | exact ⟨Or.inr ⟨by assumption, (by first | exact Or.inl rfl | exact Or.inr rfl | exact pr_b01 _)⟩, rvin (by assumption) (by omega) (by decide)⟩ | exact ⟨by assumption, by assumption⟩ | decide | omega)) (Nat.le_of_ble_eq_true rfl) (hst) (fun v64 M64 q64 => ?_)
                            obtain ⟨rfl, w1, w2, w3⟩ := q64
                            refine pr_seqT (pc' := 68) 1 rfl ⟨trivial, trivial⟩ ?_
                            try simp (disch := omega) only [e2, e5, v6, c2, rI_mul, nI_add, nI_1, nI_clamp, pr_i_2, pr_i_3]
                            exact pr_irT rfl trivial (by exact ⟨rfl, w1, w2, w3⟩)
                    · simp only [ab_cmp, pr_i_2, pr_i_3] at h39
                      exact absurd (Classical.not_not.mp h39) (by decide)
            · simp only [ab_cmp, pr_i_2, pr_i_3] at h12
              exact absurd z2 h12
      · rw [if_neg cr]
        rw [decide_eq_false cr] at hi0
        have hfa := q_flN (c := 3) (x := 3) rfl (by decide) h M hl he
        show pr_X pX11_number _ h M (s2_p M w (.error (3, (tok w p).2.1)) (some (.int (nI lo))))
        refine pr_seqT (pc' := 4) 2 rfl ⟨⟨trivial, (by first | decide | assumption)⟩, (by assumption)⟩ ?_
        try simp (disch := omega) only [e2, e5, v6, c2, rI_mul, nI_add, nI_1, nI_clamp, pr_i_2, pr_i_3]
        refine pr_ifT rfl (fun h4 => ?_) (fun h4 => ?_)
        · simp only [ab_cmp, pr_i_2, pr_i_3] at h4
          exact absurd trivial h4
        · simp only [ab_cmp, pr_i_2, pr_i_3] at h4
          first
          | contradiction
          | exact absurd trivial h4
          | exact absurd h4 (by decide)
          | exact absurd (Classical.not_not.mp h4) (by decide)
          | skip
            refine pr_seqT (pc' := 12) 3 rfl ⟨⟨⟨trivial, (by first | decide | assumption)⟩, (by assumption)⟩, trivial⟩ ?_
            try simp (disch := omega) only [e2, e5, v6, c2, rI_mul, nI_add, nI_1, nI_clamp, pr_i_2, pr_i_3]
            refine pr_icT rfl (fun h12 => ?_) (fun h12 => ?_)
            · simp only [ab_cmp, pr_i_2, pr_i_3] at h12
              first
              | contradiction
              | exact absurd trivial h12
              | exact absurd h12 (by decide)
              | exact absurd (Classical.not_not.mp h12) (by decide)
              | skip
                refine pr_seqT (pc' := 24) 2 rfl ⟨⟨trivial, (by first | decide | assumption)⟩, (by assumption)⟩ ?_
                try simp (disch := omega) only [e2, e5, v6, c2, rI_mul, nI_add, nI_1, nI_clamp, pr_i_2, pr_i_3]
                refine pr_ifT rfl (fun h24 => ?_) (fun h24 => ?_)
                · simp only [ab_cmp, pr_i_2, pr_i_3] at h24
                  exact absurd trivial h24
                · simp only [ab_cmp, pr_i_2, pr_i_3] at h24
                  first
                  | contradiction
                  | exact absurd trivial h24
                  | exact absurd h24 (by decide)
                  | exact absurd (Classical.not_not.mp h24) (by decide)
                  | skip
                    refine pr_seqT (pc' := 36) 7 rfl ⟨⟨⟨⟨⟨⟨⟨trivial, (by first | decide | assumption)⟩, (by assumption)⟩, trivial⟩, trivial⟩, trivial⟩, trivial⟩, trivial⟩ ?_
                    try simp (disch := omega) only [e2, e5, v6, c2, rI_mul, nI_add, nI_1, nI_clamp, pr_i_2, pr_i_3]
                    refine pr_csT [_, _, _] rfl rfl rfl rfl rfl (Nat.le_of_ble_eq_true rfl) (Nat.le_of_ble_eq_true rfl) (hi0) ?_
                    refine pr_ifT rfl (fun h39 => ?_) (fun h39 => ?_)
                    · simp only [ab_cmp, pr_i_2, pr_i_3] at h39
                      exact absurd rfl h39
                    · simp only [ab_cmp, pr_i_2, pr_i_3] at h39
                      first
                      | contradiction
                      | exact absurd trivial h39
                      | exact absurd h39 (by decide)
                      | exact absurd (Classical.not_not.mp h39) (by decide)
                      | skip
                        refine pr_seqT (pc' := 44) 2 rfl ⟨⟨trivial, (by first | decide | assumption)⟩, trivial⟩ ?_
                        try simp (disch := omega) only [e2, e5, v6, c2, rI_mul, nI_add, nI_1, nI_clamp, pr_i_2, pr_i_3]
                        refine pr_cvX [_] rfl rfl rfl rfl rfl (Nat.le_of_ble_eq_true rfl) (by first | assumption | decide | (simp (disch := omega) only [e2, e5, v6, c2, rI_mul, nI_add, nI_1, nI_clamp, pr_i_2, pr_i_3]; first | assumption | exact ⟨Or.inl (by assumption), rvin (by assumption) (by omega) (by decide)⟩ | exact ⟨by assumption, rvin (by assumption) (by omega) (by decide)⟩ | exact ⟨⟨by omega, by omega⟩, rvin (by assumption) (by omega) (by decide)⟩ | exact ⟨Or.inr (by assumption), rvin (by assumption) (by omega) (by decide)⟩ | exact ⟨Or.inr ⟨by assumption, (by first | exact Or.inl rfl | exact Or.inr rfl | exact pr_b01 _)⟩, rvin (by assumption) (by omega) (by decide)⟩ | exact ⟨by assumption, by assumption⟩ | decide | omega)) (Nat.le_of_ble_eq_true rfl) (hfa) (fun v44 M44 q44 => ?_)
                        obtain ⟨rfl, w1, w2, w3⟩ := q44
                        obtain ⟨I1, Z1⟩ := M44
                        dsimp only at w1 w2 w3
                        subst w1
                        exact tailE I1 _ w2 w3 _
            · simp only [ab_cmp, pr_i_2, pr_i_3] at h12
              exact absurd z2 h12
    · rw [if_neg c2']
      have z2 : ¬ nI (tok w p).1 = nI 2 := nI_ne c2' (by omega) (by decide)
      have hfa := q_flN (c := 2) (x := 2) rfl (by decide) h M hl he
      show pr_X pX11_number _ h M (s2_p M w (.error (2, (tok w p).2.1)) (some (.int (nI lo))))
      refine pr_seqT (pc' := 4) 2 rfl ⟨⟨trivial, (by first | decide | assumption)⟩, (by assumption)⟩ ?_
      try simp (disch := omega) only [e2, e5, c2, rI_mul, nI_add, nI_1, nI_clamp, pr_i_2, pr_i_3]
      refine pr_ifT rfl (fun h4 => ?_) (fun h4 => ?_)
      · simp only [ab_cmp, pr_i_2, pr_i_3] at h4
        exact absurd trivial h4
      · simp only [ab_cmp, pr_i_2, pr_i_3] at h4
        first
        | contradiction
        | exact absurd trivial h4
        | exact absurd h4 (by decide)
        | exact absurd (Classical.not_not.mp h4) (by decide)
        | skip
          refine pr_seqT (pc' := 12) 3 rfl ⟨⟨⟨trivial, (by first | decide | assumption)⟩, (by assumption)⟩, trivial⟩ ?_
          try simp (disch := omega) only [e2, e5, c2, rI_mul, nI_add, nI_1, nI_clamp, pr_i_2, pr_i_3]
          refine pr_icT rfl (fun h12 => ?_) (fun h12 => ?_)
          · simp only [ab_cmp, pr_i_2, pr_i_3] at h12
            exact absurd h12 z2
          · simp only [ab_cmp, pr_i_2, pr_i_3] at h12
            first
            | contradiction
            | exact absurd trivial h12
            | exact absurd h12 (by decide)
            | exact absurd (Classical.not_not.mp h12) (by decide)
            | skip
              refine pr_seqT (pc' := 17) 2 rfl ⟨⟨trivial, (by first | decide | assumption)⟩, trivial⟩ ?_
              try simp (disch := omega) only [e2, e5, c2, rI_mul, nI_add, nI_1, nI_clamp, pr_i_2, pr_i_3]
              refine pr_cvX [_] rfl rfl rfl rfl rfl (Nat.le_of_ble_eq_true rfl) (by first | assumption | decide | (simp (disch := omega) only [e2, e5, c2, rI_mul, nI_add, nI_1, nI_clamp, pr_i_2, pr_i_3]; first | assumption | exact ⟨Or.inl (by assumption), rvin (by assumption) (by omega) (by decide)⟩ | exact ⟨by assumption, rvin (by assumption) (by omega) (by decide)⟩ | exact ⟨⟨by omega, by omega⟩, rvin (by assumption) (by omega) (by decide)⟩ | exact ⟨Or.inr (by assumption), rvin (by assumption) (by omega) (by decide)⟩ | exact ⟨Or.inr ⟨by assumption, (by first | exact Or.inl rfl | exact Or.inr rfl | exact pr_b01 _)⟩, rvin (by assumption) (by omega) (by decide)⟩ | exact ⟨by assumption, by assumption⟩ | decide | omega)) (Nat.le_of_ble_eq_true rfl) (hfa) (fun v17 M17 q17 => ?_)
              obtain ⟨rfl, w1, w2, w3⟩ := q17
              obtain ⟨I1, Z1⟩ := M17
              dsimp only at w1 w2 w3
              subst w1
              exact tailE2 I1 _ w2 w3 _
def loE (w : List Nat) (mx : Nat) : Er → Er
  | .error q => .error q
  | .ok p => match tWord w mx p with
    | .error q => .error q
    | .ok _ => .ok p
def loV (w : List Nat) (mx : Nat) : Er → Nat
  | .error _ => 0
  | .ok p => match tWord w mx p with
    | .error _ => 0
    | .ok x => x.2 - x.1
theorem q_longHere {w : List Nat} {e : Er} {mx : Nat} (h : ab_H) (M : ab_M) (hl : rL h M.2.2) (hw : tp_r M.1 w) (he : rs2 M.1 w e) (hmx : mx < 1000) : pr_X pX11_longHere [.ref 172, .int (nI mx)] h M (s2_p M w (loE w mx e) (some (.int (nI (loV w mx e))))) := by
  obtain ⟨k172, rS, rLs, rKn, rPg, rRl, rRk, rTp, rCu, rLe, rLt, rSm, rIk, rLn, rLg, rCe, ⟨kS, nS⟩, ⟨kLs, nLs⟩, ⟨kKn, nKn⟩, ⟨kPg, nPg⟩, ⟨kRl, nRl⟩, ⟨kRk, nRk⟩, ⟨kTp, nTp⟩, ⟨kCu, nCu⟩, ⟨kLe, nLe⟩, ⟨kLt, nLt⟩, ⟨kSm, nSm⟩, ⟨kIk, nIk⟩, ⟨kLn, nLn⟩, ⟨kLg, nLg⟩, kCe, nCe⟩ := id hl
  have n0 : nI 0 = 0 := rfl
  have hw2 := hw.2.1
  have tailE : ∀ (N : Nat → Nat → Int32) (q : Nat × Nat), rfr M.1 N → rs2 N w (.error q) → pr_T pX11_longHere 45 [some (.ref 172), some (.int (nI mx))] [] h (N, M.2) (s2_p M w (.error q) (some (.int (nI 0)))) := by
    intro N q hf hq
    have e : ¬ nI q.1 = 0 := nI_ne0 (by have := hq.2.1; omega) (by have := hq.2.1; omega)
    have g := hq.1
    refine pr_seqT (pc' := 49) 2 rfl ⟨⟨trivial, (by first | decide | assumption)⟩, (by assumption)⟩ ?_
    try simp (disch := omega) only [g, rI_mul, nI_add, nI_1, nI_clamp, pr_i_0, pr_i_1, pr_i_2, pr_i_3]
    refine pr_ifT rfl (fun h49 => ?_) (fun h49 => ?_)
    · simp only [ab_cmp, pr_i_0, pr_i_1, pr_i_2, pr_i_3] at h49
      first
      | contradiction
      | exact absurd trivial h49
      | exact absurd h49 (by decide)
      | exact absurd (Classical.not_not.mp h49) (by decide)
      | skip
        refine pr_seqT (pc' := 65) 1 rfl ⟨trivial, trivial⟩ ?_
        try simp (disch := omega) only [g, rI_mul, nI_add, nI_1, nI_clamp, pr_i_0, pr_i_1, pr_i_2, pr_i_3]
        exact pr_irT rfl trivial (by exact ⟨rfl, rfl, hf, hq⟩)
    · simp only [ab_cmp, pr_i_0, pr_i_1, pr_i_2, pr_i_3] at h49
      exact absurd (Classical.not_not.mp h49) e
  have tailE2 : ∀ (N : Nat → Nat → Int32) (q : Nat × Nat), rfr M.1 N → rs2 N w (.error q) → pr_T pX11_longHere 20 [some (.ref 172), some (.int (nI mx))] [] h (N, M.2) (s2_p M w (.error q) (some (.int (nI 0)))) := by
    intro N q hf hq
    have e : ¬ nI q.1 = 0 := nI_ne0 (by have := hq.2.1; omega) (by have := hq.2.1; omega)
    have g := hq.1
    refine pr_seqT (pc' := 24) 2 rfl ⟨⟨trivial, (by first | decide | assumption)⟩, (by assumption)⟩ ?_
    try simp (disch := omega) only [g, rI_mul, nI_add, nI_1, nI_clamp, pr_i_0, pr_i_1, pr_i_2, pr_i_3]
    refine pr_ifT rfl (fun h24 => ?_) (fun h24 => ?_)
    · simp only [ab_cmp, pr_i_0, pr_i_1, pr_i_2, pr_i_3] at h24
      first
      | contradiction
      | exact absurd trivial h24
      | exact absurd h24 (by decide)
      | exact absurd (Classical.not_not.mp h24) (by decide)
      | skip
        exact tailE N q hf hq
    · simp only [ab_cmp, pr_i_0, pr_i_1, pr_i_2, pr_i_3] at h24
      exact absurd (Classical.not_not.mp h24) e
  cases e with
  | error q =>
    have e : ¬ nI q.1 = 0 := nI_ne0 (by have := he.2.1; omega) (by have := he.2.1; omega)
    have g := he.1
    have h0 := tailE2 M.1 q rfr_0 he
    show pr_X pX11_longHere _ h M (s2_p M w (.error q) (some (.int (nI 0))))
    refine pr_seqT (pc' := 4) 2 rfl ⟨⟨trivial, (by first | decide | assumption)⟩, (by assumption)⟩ ?_
    try simp (disch := omega) only [g, rI_mul, nI_add, nI_1, nI_clamp, pr_i_0, pr_i_1, pr_i_2, pr_i_3]
    refine pr_ifT rfl (fun h4 => ?_) (fun h4 => ?_)
    · simp only [ab_cmp, pr_i_0, pr_i_1, pr_i_2, pr_i_3] at h4
      first
      | contradiction
      | exact absurd trivial h4
      | exact absurd h4 (by decide)
      | exact absurd (Classical.not_not.mp h4) (by decide)
      | skip
        exact h0
    · simp only [ab_cmp, pr_i_0, pr_i_1, pr_i_2, pr_i_3] at h4
      exact absurd (Classical.not_not.mp h4) e
  | ok p =>
    obtain ⟨e0, e1, e2, e3, e4, e5, e6⟩ := id he
    have hle := tok_le e0
    show pr_X pX11_longHere _ h M (s2_p M w (match tWord w mx p with
      | .error q => .error q
      | .ok _ => .ok p) (some (.int (nI (match tWord w mx p with
      | .error _ => 0
      | .ok x => x.2 - x.1)))))
    unfold tWord
    rw [if_neg e1]
    have esub : nI (tok w p).2.2.1 - nI (tok w p).2.1 = nI ((tok w p).2.2.1 - (tok w p).2.1) := i_sub hle.2.1
    by_cases c1' : (tok w p).1 = 1
    · rw [if_pos c1']
      have z1 : nI (tok w p).1 = 1 := by rw [c1']; rfl
      by_cases cr : (tok w p).2.2.1 - (tok w p).2.1 ≤ mx
      · rw [if_pos cr]
        have z3 : nI ((tok w p).2.2.1 - (tok w p).2.1) ≤ nI mx := nI_le cr (by omega)
        show pr_X pX11_longHere _ h M (s2_p M w (.ok p) (some (.int (nI ((tok w p).2.2.1 - (tok w p).2.1)))))
        refine pr_seqT (pc' := 4) 2 rfl ⟨⟨trivial, (by first | decide | assumption)⟩, (by assumption)⟩ ?_
        try simp (disch := omega) only [e2, e3, e4, e5, esub, rI_mul, nI_add, nI_1, nI_clamp, pr_i_0, pr_i_1, pr_i_2, pr_i_3]
        refine pr_ifT rfl (fun h4 => ?_) (fun h4 => ?_)
        · simp only [ab_cmp, pr_i_0, pr_i_1, pr_i_2, pr_i_3] at h4
          exact absurd trivial h4
        · simp only [ab_cmp, pr_i_0, pr_i_1, pr_i_2, pr_i_3] at h4
          first
          | contradiction
          | exact absurd trivial h4
          | exact absurd h4 (by decide)
          | exact absurd (Classical.not_not.mp h4) (by decide)
          | skip
            refine pr_seqT (pc' := 12) 3 rfl ⟨⟨⟨trivial, (by first | decide | assumption)⟩, (by assumption)⟩, trivial⟩ ?_
            try simp (disch := omega) only [e2, e3, e4, e5, esub, rI_mul, nI_add, nI_1, nI_clamp, pr_i_0, pr_i_1, pr_i_2, pr_i_3]
            refine pr_icT rfl (fun h12 => ?_) (fun h12 => ?_)
            · simp only [ab_cmp, pr_i_0, pr_i_1, pr_i_2, pr_i_3] at h12
              first
              | contradiction
              | exact absurd trivial h12
              | exact absurd h12 (by decide)
              | exact absurd (Classical.not_not.mp h12) (by decide)
              | skip
                refine pr_seqT (pc' := 24) 2 rfl ⟨⟨trivial, (by first | decide | assumption)⟩, (by assumption)⟩ ?_
                try simp (disch := omega) only [e2, e3, e4, e5, esub, rI_mul, nI_add, nI_1, nI_clamp, pr_i_0, pr_i_1, pr_i_2, pr_i_3]
                refine pr_ifT rfl (fun h24 => ?_) (fun h24 => ?_)
                · simp only [ab_cmp, pr_i_0, pr_i_1, pr_i_2, pr_i_3] at h24
                  exact absurd trivial h24
                · simp only [ab_cmp, pr_i_0, pr_i_1, pr_i_2, pr_i_3] at h24
                  first
                  | contradiction
                  | exact absurd trivial h24
                  | exact absurd h24 (by decide)
                  | exact absurd (Classical.not_not.mp h24) (by decide)
                  | skip
                    refine pr_seqT (pc' := 37) 6 rfl ⟨⟨⟨⟨⟨⟨trivial, (by first | decide | assumption)⟩, (by assumption)⟩, (by first | decide | assumption)⟩, (by assumption)⟩, trivial⟩, trivial⟩ ?_
                    try simp (disch := omega) only [e2, e3, e4, e5, esub, rI_mul, nI_add, nI_1, nI_clamp, pr_i_0, pr_i_1, pr_i_2, pr_i_3]
                    refine pr_icT rfl (fun h37 => ?_) (fun h37 => ?_)
                    · simp only [ab_cmp, pr_i_0, pr_i_1, pr_i_2, pr_i_3] at h37
                      first
                      | contradiction
                      | exact absurd trivial h37
                      | exact absurd h37 (by decide)
                      | exact absurd (Classical.not_not.mp h37) (by decide)
                      | skip
                        refine pr_seqT (pc' := 49) 2 rfl ⟨⟨trivial, (by first | decide | assumption)⟩, (by assumption)⟩ ?_
                        try simp (disch := omega) only [e2, e3, e4, e5, esub, rI_mul, nI_add, nI_1, nI_clamp, pr_i_0, pr_i_1, pr_i_2, pr_i_3]
                        refine pr_ifT rfl (fun h49 => ?_) (fun h49 => ?_)
                        · simp only [ab_cmp, pr_i_0, pr_i_1, pr_i_2, pr_i_3] at h49
                          exact absurd trivial h49
                        · simp only [ab_cmp, pr_i_0, pr_i_1, pr_i_2, pr_i_3] at h49
                          first
                          | contradiction
                          | exact absurd trivial h49
                          | exact absurd h49 (by decide)
                          | exact absurd (Classical.not_not.mp h49) (by decide)
                          | skip
                            refine pr_seqT (pc' := 65) 6 rfl ⟨⟨⟨⟨⟨⟨trivial, (by first | decide | assumption)⟩, (by assumption)⟩, (by first | decide | assumption)⟩, (by assumption)⟩, trivial⟩, trivial⟩ ?_
                            try simp (disch := omega) only [e2, e3, e4, e5, esub, rI_mul, nI_add, nI_1, nI_clamp, pr_i_0, pr_i_1, pr_i_2, pr_i_3]
                            exact pr_irT rfl trivial (by exact ⟨rfl, rfl, rfr_0, he⟩)
                    · simp only [ab_cmp, pr_i_0, pr_i_1, pr_i_2, pr_i_3] at h37
                      exact absurd z3 h37
            · simp only [ab_cmp, pr_i_0, pr_i_1, pr_i_2, pr_i_3] at h12
              exact absurd z1 h12
      · rw [if_neg cr]
        have z3 : ¬ nI ((tok w p).2.2.1 - (tok w p).2.1) ≤ nI mx := nI_ge (by omega) (by omega)
        have hfa := q_flN (c := 3) (x := 3) rfl (by decide) h M hl he
        show pr_X pX11_longHere _ h M (s2_p M w (.error (3, (tok w p).2.1)) (some (.int (nI 0))))
        refine pr_seqT (pc' := 4) 2 rfl ⟨⟨trivial, (by first | decide | assumption)⟩, (by assumption)⟩ ?_
        try simp (disch := omega) only [e2, e3, e4, e5, esub, rI_mul, nI_add, nI_1, nI_clamp, pr_i_0, pr_i_1, pr_i_2, pr_i_3]
        refine pr_ifT rfl (fun h4 => ?_) (fun h4 => ?_)
        · simp only [ab_cmp, pr_i_0, pr_i_1, pr_i_2, pr_i_3] at h4
          exact absurd trivial h4
        · simp only [ab_cmp, pr_i_0, pr_i_1, pr_i_2, pr_i_3] at h4
          first
          | contradiction
          | exact absurd trivial h4
          | exact absurd h4 (by decide)
          | exact absurd (Classical.not_not.mp h4) (by decide)
          | skip
            refine pr_seqT (pc' := 12) 3 rfl ⟨⟨⟨trivial, (by first | decide | assumption)⟩, (by assumption)⟩, trivial⟩ ?_
            try simp (disch := omega) only [e2, e3, e4, e5, esub, rI_mul, nI_add, nI_1, nI_clamp, pr_i_0, pr_i_1, pr_i_2, pr_i_3]
            refine pr_icT rfl (fun h12 => ?_) (fun h12 => ?_)
            · simp only [ab_cmp, pr_i_0, pr_i_1, pr_i_2, pr_i_3] at h12
              first
              | contradiction
              | exact absurd trivial h12
              | exact absurd h12 (by decide)
              | exact absurd (Classical.not_not.mp h12) (by decide)
              | skip
                refine pr_seqT (pc' := 24) 2 rfl ⟨⟨trivial, (by first | decide | assumption)⟩, (by assumption)⟩ ?_
                try simp (disch := omega) only [e2, e3, e4, e5, esub, rI_mul, nI_add, nI_1, nI_clamp, pr_i_0, pr_i_1, pr_i_2, pr_i_3]
                refine pr_ifT rfl (fun h24 => ?_) (fun h24 => ?_)
                · simp only [ab_cmp, pr_i_0, pr_i_1, pr_i_2, pr_i_3] at h24
                  exact absurd trivial h24
                · simp only [ab_cmp, pr_i_0, pr_i_1, pr_i_2, pr_i_3] at h24
                  first
                  | contradiction
                  | exact absurd trivial h24
                  | exact absurd h24 (by decide)
                  | exact absurd (Classical.not_not.mp h24) (by decide)
                  | skip
                    refine pr_seqT (pc' := 37) 6 rfl ⟨⟨⟨⟨⟨⟨trivial, (by first | decide | assumption)⟩, (by assumption)⟩, (by first | decide | assumption)⟩, (by assumption)⟩, trivial⟩, trivial⟩ ?_
                    try simp (disch := omega) only [e2, e3, e4, e5, esub, rI_mul, nI_add, nI_1, nI_clamp, pr_i_0, pr_i_1, pr_i_2, pr_i_3]
                    refine pr_icT rfl (fun h37 => ?_) (fun h37 => ?_)
                    · simp only [ab_cmp, pr_i_0, pr_i_1, pr_i_2, pr_i_3] at h37
                      exact absurd h37 z3
                    · simp only [ab_cmp, pr_i_0, pr_i_1, pr_i_2, pr_i_3] at h37
                      first
                      | contradiction
                      | exact absurd trivial h37
                      | exact absurd h37 (by decide)
                      | exact absurd (Classical.not_not.mp h37) (by decide)
                      | skip
                        refine pr_seqT (pc' := 42) 2 rfl ⟨⟨trivial, (by first | decide | assumption)⟩, trivial⟩ ?_
                        try simp (disch := omega) only [e2, e3, e4, e5, esub, rI_mul, nI_add, nI_1, nI_clamp, pr_i_0, pr_i_1, pr_i_2, pr_i_3]
                        refine pr_cvX [_] rfl rfl rfl rfl rfl (Nat.le_of_ble_eq_true rfl) (by first | assumption | decide | (simp (disch := omega) only [e2, e3, e4, e5, esub, rI_mul, nI_add, nI_1, nI_clamp, pr_i_0, pr_i_1, pr_i_2, pr_i_3]; first | assumption | exact ⟨Or.inl (by assumption), rvin (by assumption) (by omega) (by decide)⟩ | exact ⟨by assumption, rvin (by assumption) (by omega) (by decide)⟩ | exact ⟨⟨by omega, by omega⟩, rvin (by assumption) (by omega) (by decide)⟩ | exact ⟨Or.inr (by assumption), rvin (by assumption) (by omega) (by decide)⟩ | exact ⟨Or.inr ⟨by assumption, (by first | exact Or.inl rfl | exact Or.inr rfl | exact pr_b01 _)⟩, rvin (by assumption) (by omega) (by decide)⟩ | exact ⟨by assumption, by assumption⟩ | decide | omega)) (Nat.le_of_ble_eq_true rfl) (hfa) (fun v42 M42 q42 => ?_)
                        obtain ⟨rfl, w1, w2, w3⟩ := q42
                        obtain ⟨I1, Z1⟩ := M42
                        dsimp only at w1 w2 w3
                        subst w1
                        exact tailE I1 _ w2 w3
            · simp only [ab_cmp, pr_i_0, pr_i_1, pr_i_2, pr_i_3] at h12
              exact absurd z1 h12
    · rw [if_neg c1']
      have z1 : ¬ nI (tok w p).1 = 1 := nI_ne (b := 1) c1' (by omega) (by decide)
      have hfa := q_flN (c := 2) (x := 2) rfl (by decide) h M hl he
      show pr_X pX11_longHere _ h M (s2_p M w (.error (2, (tok w p).2.1)) (some (.int (nI 0))))
      refine pr_seqT (pc' := 4) 2 rfl ⟨⟨trivial, (by first | decide | assumption)⟩, (by assumption)⟩ ?_
      try simp (disch := omega) only [e2, e5, rI_mul, nI_add, nI_1, nI_clamp, pr_i_0, pr_i_1, pr_i_2, pr_i_3]
      refine pr_ifT rfl (fun h4 => ?_) (fun h4 => ?_)
      · simp only [ab_cmp, pr_i_0, pr_i_1, pr_i_2, pr_i_3] at h4
        exact absurd trivial h4
      · simp only [ab_cmp, pr_i_0, pr_i_1, pr_i_2, pr_i_3] at h4
        first
        | contradiction
        | exact absurd trivial h4
        | exact absurd h4 (by decide)
        | exact absurd (Classical.not_not.mp h4) (by decide)
        | skip
          refine pr_seqT (pc' := 12) 3 rfl ⟨⟨⟨trivial, (by first | decide | assumption)⟩, (by assumption)⟩, trivial⟩ ?_
          try simp (disch := omega) only [e2, e5, rI_mul, nI_add, nI_1, nI_clamp, pr_i_0, pr_i_1, pr_i_2, pr_i_3]
          refine pr_icT rfl (fun h12 => ?_) (fun h12 => ?_)
          · simp only [ab_cmp, pr_i_0, pr_i_1, pr_i_2, pr_i_3] at h12
            exact absurd h12 z1
          · simp only [ab_cmp, pr_i_0, pr_i_1, pr_i_2, pr_i_3] at h12
            first
            | contradiction
            | exact absurd trivial h12
            | exact absurd h12 (by decide)
            | exact absurd (Classical.not_not.mp h12) (by decide)
            | skip
              refine pr_seqT (pc' := 17) 2 rfl ⟨⟨trivial, (by first | decide | assumption)⟩, trivial⟩ ?_
              try simp (disch := omega) only [e2, e5, rI_mul, nI_add, nI_1, nI_clamp, pr_i_0, pr_i_1, pr_i_2, pr_i_3]
              refine pr_cvX [_] rfl rfl rfl rfl rfl (Nat.le_of_ble_eq_true rfl) (by first | assumption | decide | (simp (disch := omega) only [e2, e5, rI_mul, nI_add, nI_1, nI_clamp, pr_i_0, pr_i_1, pr_i_2, pr_i_3]; first | assumption | exact ⟨Or.inl (by assumption), rvin (by assumption) (by omega) (by decide)⟩ | exact ⟨by assumption, rvin (by assumption) (by omega) (by decide)⟩ | exact ⟨⟨by omega, by omega⟩, rvin (by assumption) (by omega) (by decide)⟩ | exact ⟨Or.inr (by assumption), rvin (by assumption) (by omega) (by decide)⟩ | exact ⟨Or.inr ⟨by assumption, (by first | exact Or.inl rfl | exact Or.inr rfl | exact pr_b01 _)⟩, rvin (by assumption) (by omega) (by decide)⟩ | exact ⟨by assumption, by assumption⟩ | decide | omega)) (Nat.le_of_ble_eq_true rfl) (hfa) (fun v17 M17 q17 => ?_)
              obtain ⟨rfl, w1, w2, w3⟩ := q17
              obtain ⟨I1, Z1⟩ := M17
              dsimp only at w1 w2 w3
              subst w1
              exact tailE2 I1 _ w2 w3
