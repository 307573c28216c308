
/-! ===== the reference: crowds, the letter that parts most ===== -/
theorem cnt_add (f : Nat → Bool) (n : Nat) : ∀ m, cnt f (n + m) = cnt f n + cnt (fun i => f (n + i)) m
  | 0 => rfl
  | m + 1 => by
    show cnt f (n + m) + (if f (n + m) then 1 else 0) = cnt f n + (cnt (fun i => f (n + i)) m + (if f (n + m) then 1 else 0))
    rw [cnt_add f n m, Nat.add_assoc]
theorem nb_add (f : Nat → Bool) (n : Nat) : ∀ m, nb f (n + m) = (nb f n && nb (fun i => f (n + i)) m)
  | 0 => by show nb f n = (nb f n && true); rw [Bool.and_true]
  | m + 1 => by
    show (nb f (n + m) && !f (n + m)) = (nb f n && (nb (fun i => f (n + i)) m && !f (n + m)))
    rw [nb_add f n m, Bool.and_assoc]
theorem nb_congr {f g : Nat → Bool} : ∀ n, (∀ i, i < n → f i = g i) → nb f n = nb g n
  | 0, _ => rfl
  | n + 1, h => by
    show (nb f n && !f n) = (nb g n && !g n)
    rw [nb_congr n (fun i hi => h i (by omega)), h n (by omega)]
theorem xc_lt {α : Type} {n p : Nat} {A f : Nat → α} (h : p < n) : xch n A f p = A p := by unfold xch; rw [if_pos h]
theorem xc_at {α : Type} {n i : Nat} {A f : Nat → α} : xch n A f (n + i) = f i := by unfold xch; rw [if_neg (by omega), show n + i - n = i by omega]
/-- a child that is somebody new -/
def frs (X : St) (s : Nat → Int32) (i : Nat) : Bool := nb (fun q => decide (x_K X q ≠ 4) && decide (x_S X q = s i)) (x_n X) && nb (fun j => decide (s j = s i)) i
theorem pc_frs (X : St) (s : Nat → Int32) (m : Nat) : x_pc X s m = nI (cnt (fun p => nb (al (x_S X) (x_K X) p) p) (x_n X) + cnt (frs X s) m) := by
  unfold x_pc
  rw [cnt_add]
  congr 2
  · refine cnt_congr _ (fun p hp => nb_congr _ (fun q hq => ?_))
    unfold al
    rw [xc_lt hp, xc_lt (show q < x_n X by omega), xc_lt hp, xc_lt (show q < x_n X by omega)]
  · refine cnt_congr _ (fun i hi => ?_)
    rw [nb_add]
    unfold frs
    congr 1
    · refine nb_congr _ (fun q hq => ?_)
      unfold al
      rw [xc_at, xc_at, xc_lt hq, xc_lt hq, decide_eq_false (show ¬ x_n X + i = q by omega), decide_eq_true (show (0 : Nat) ≠ 4 by decide), Bool.false_or, Bool.true_and, decide_eq_decide.mpr (show s i = x_S X q ↔ x_S X q = s i from eq_comm)]
    · refine nb_congr _ (fun j hj => ?_)
      unfold al
      rw [xc_at, xc_at, xc_at, xc_at, decide_eq_false (show ¬ x_n X + i = x_n X + j by omega), decide_eq_true (show (0 : Nat) ≠ 4 by decide), Bool.false_or, Bool.true_and, Bool.true_and, decide_eq_decide.mpr (show s i = s j ↔ s j = s i from eq_comm)]
theorem crowd_min {A F k : Nat} (hA : A ≤ 1000) (hF : F ≤ 1000) (hk : k ≤ 1000) : i_min (nI A + nI k) (nI (A + F)) = nI A + (if F < k then nI F else nI k) := by
  unfold i_min
  rw [nI_add]
  by_cases c : F < k
  · rw [if_pos c, if_pos (nI_lt (by omega) (by omega)), nI_add]
  · rw [if_neg c, if_neg (nI_nlt (by omega) (by omega)), nI_add]
theorem r_crowd {X : St} (x y : Int32) (h : ab_H) (M : ab_M) (hl : rL h M.2.2) (hv : rv M.1 X) : pr_X pX11_crowd [.ref 172, .int x, .int y] h M (rp M (f_crowd X x y, X)) := by
  obtain ⟨k172, rS, rLs, rKn, rPg, rRl, rRk, rTp, rCu, rLe, rLt, rSm, rIk, rLn, rLg, rCe, ⟨kS, nS⟩, ⟨kLs, nLs⟩, ⟨kKn, nKn⟩, ⟨kPg, nPg⟩, ⟨kRl, nRl⟩, ⟨kRk, nRk⟩, ⟨kTp, nTp⟩, ⟨kCu, nCu⟩, ⟨kLe, nLe⟩, ⟨kLt, nLt⟩, ⟨kSm, nSm⟩, ⟨kIk, nIk⟩, ⟨kLn, nLn⟩, ⟨kLg, nLg⟩, kCe, nCe⟩ := id hl
  obtain ⟨l1, l2, l3⟩ := hv.2.1
  have g2 : X.1.1.2.1.length ≤ 8 := hv.1.2.1
  have h1 := q_in (a := x.toInt64) (b := Int64.ofNat 0) (c := Int64.ofNat 3) x 0 3 h M rfl rfl rfl
  have h2 := q_in (a := y.toInt64) (b := Int64.ofNat 0) (c := Int64.ofNat 1) y 0 1 h M rfl rfl rfl
  have hper := q_persons h M hl hv.1
  refine pr_ofC ?_ (rp_s hv)
  unfold f_crowd
  rcases pr_rg x 3 3 rfl (by decide) with q | ⟨a, ha, rfl, q⟩
  · rw [q] at h1 ⊢
    refine pr_seq (pc' := 6) 4 rfl ⟨⟨⟨⟨trivial, trivial⟩, trivial⟩, trivial⟩, trivial⟩ ?_
    refine pr_cs [_, _, _] rfl rfl rfl rfl rfl (Nat.le_of_ble_eq_true rfl) (Nat.le_of_ble_eq_true rfl) (h1) ?_
    refine pr_if rfl (fun h9 => ?_) (fun h9 => ?_)
    · simp only [ab_cmp, pr_8_m2, pr_i_0, pr_i_1, pr_i_m1] at h9
      first
      | contradiction
      | exact absurd trivial h9
      | exact absurd h9 (by decide)
      | exact absurd (Classical.not_not.mp h9) (by decide)
      | skip
        refine pr_seq (pc' := 23) 1 rfl ⟨trivial, trivial⟩ ?_
        exact pr_irM rfl (by first | rfl | (simp [pr_b, pr_8_m2, pr_i_0, pr_i_1, pr_i_m1, *]; done) | (simp_all [pr_b, pr_8_m2, pr_i_0, pr_i_1, pr_i_m1]; done)) trivial (by rfl)
    · simp only [ab_cmp, pr_8_m2, pr_i_0, pr_i_1, pr_i_m1] at h9
      exact absurd rfl h9
  · rw [q] at h1 ⊢
    cases q2 : pr_in y 0 1 with
    | false =>
      rw [q2] at h2
      refine pr_seq (pc' := 6) 4 rfl ⟨⟨⟨⟨trivial, trivial⟩, trivial⟩, trivial⟩, trivial⟩ ?_
      refine pr_cs [_, _, _] rfl rfl rfl rfl rfl (Nat.le_of_ble_eq_true rfl) (Nat.le_of_ble_eq_true rfl) (h1) ?_
      refine pr_if rfl (fun h9 => ?_) (fun h9 => ?_)
      · simp only [ab_cmp, pr_8_m2, pr_i_0, pr_i_1, pr_i_m1] at h9
        exact absurd h9 (by decide)
      · simp only [ab_cmp, pr_8_m2, pr_i_0, pr_i_1, pr_i_m1] at h9
        first
        | contradiction
        | exact absurd trivial h9
        | exact absurd h9 (by decide)
        | exact absurd (Classical.not_not.mp h9) (by decide)
        | skip
          refine pr_seq (pc' := 16) 4 rfl ⟨⟨⟨⟨trivial, trivial⟩, trivial⟩, trivial⟩, trivial⟩ ?_
          refine pr_cs [_, _, _] rfl rfl rfl rfl rfl (Nat.le_of_ble_eq_true rfl) (Nat.le_of_ble_eq_true rfl) (h2) ?_
          refine pr_if rfl (fun h19 => ?_) (fun h19 => ?_)
          · simp only [ab_cmp, pr_8_m2, pr_i_0, pr_i_1, pr_i_m1] at h19
            exact absurd rfl h19
          · simp only [ab_cmp, pr_8_m2, pr_i_0, pr_i_1, pr_i_m1] at h19
            first
            | contradiction
            | exact absurd trivial h19
            | exact absurd h19 (by decide)
            | exact absurd (Classical.not_not.mp h19) (by decide)
            | skip
              refine pr_seq (pc' := 23) 1 rfl ⟨trivial, trivial⟩ ?_
              exact pr_irM rfl (by first | rfl | (simp [pr_b, pr_8_m2, pr_i_0, pr_i_1, pr_i_m1, *]; done) | (simp_all [pr_b, pr_8_m2, pr_i_0, pr_i_1, pr_i_m1]; done)) trivial (by rfl)
    | true =>
      rw [q2] at h2
      rw [if_pos (show (true && true) = true from rfl)]
      have na : nI a = 0 ↔ a = 0 := nI_eq (b := 0) (by omega) (by decide)
      have a0 : (nI a ≤ 0) ↔ a = 0 := by rw [show (0 : Int32) = nI 0 from rfl, nI_leI (by omega) (by decide)]; omega
      by_cases c0 : a ≠ 0 ∧ X.1.2.1.length = 0
      · rw [if_pos ⟨fun q => c0.1 (na.mp q), c0.2⟩]
        have e0 : M.1 172 2 = 0 := by rw [l1, c0.2]; rfl
        have e1 : ¬ nI a ≤ 0 := fun q => c0.1 (a0.mp q)
        refine pr_seq (pc' := 6) 4 rfl ⟨⟨⟨⟨trivial, trivial⟩, trivial⟩, trivial⟩, trivial⟩ ?_
        try simp (disch := omega) only [e0, rI_mul, nI_add, nI_1, nI_clamp, pr_8_m2, pr_i_0, pr_i_1, pr_i_m1]
        refine pr_cs [_, _, _] rfl rfl rfl rfl rfl (Nat.le_of_ble_eq_true rfl) (Nat.le_of_ble_eq_true rfl) (h1) ?_
        refine pr_if rfl (fun h9 => ?_) (fun h9 => ?_)
        · simp only [ab_cmp, pr_8_m2, pr_i_0, pr_i_1, pr_i_m1] at h9
          exact absurd h9 (by decide)
        · simp only [ab_cmp, pr_8_m2, pr_i_0, pr_i_1, pr_i_m1] at h9
          first
          | contradiction
          | exact absurd trivial h9
          | exact absurd h9 (by decide)
          | exact absurd (Classical.not_not.mp h9) (by decide)
          | skip
            refine pr_seq (pc' := 16) 4 rfl ⟨⟨⟨⟨trivial, trivial⟩, trivial⟩, trivial⟩, trivial⟩ ?_
            try simp (disch := omega) only [e0, rI_mul, nI_add, nI_1, nI_clamp, pr_8_m2, pr_i_0, pr_i_1, pr_i_m1]
            refine pr_cs [_, _, _] rfl rfl rfl rfl rfl (Nat.le_of_ble_eq_true rfl) (Nat.le_of_ble_eq_true rfl) (h2) ?_
            refine pr_if rfl (fun h19 => ?_) (fun h19 => ?_)
            · simp only [ab_cmp, pr_8_m2, pr_i_0, pr_i_1, pr_i_m1] at h19
              first
              | contradiction
              | exact absurd trivial h19
              | exact absurd h19 (by decide)
              | exact absurd (Classical.not_not.mp h19) (by decide)
              | skip
                refine pr_seq (pc' := 25) 1 rfl ⟨trivial, trivial⟩ ?_
                try simp (disch := omega) only [e0, rI_mul, nI_add, nI_1, nI_clamp, pr_8_m2, pr_i_0, pr_i_1, pr_i_m1]
                refine pr_if rfl (fun h25 => ?_) (fun h25 => ?_)
                · simp only [ab_cmp, pr_8_m2, pr_i_0, pr_i_1, pr_i_m1] at h25
                  exact absurd h25 e1
                · simp only [ab_cmp, pr_8_m2, pr_i_0, pr_i_1, pr_i_m1] at h25
                  first
                  | contradiction
                  | exact absurd trivial h25
                  | exact absurd h25 (by decide)
                  | exact absurd (Classical.not_not.mp h25) (by decide)
                  | skip
                    refine pr_seq (pc' := 32) 2 rfl ⟨⟨trivial, (by first | decide | assumption)⟩, (by assumption)⟩ ?_
                    try simp (disch := omega) only [e0, rI_mul, nI_add, nI_1, nI_clamp, pr_8_m2, pr_i_0, pr_i_1, pr_i_m1]
                    refine pr_if rfl (fun h32 => ?_) (fun h32 => ?_)
                    · simp only [ab_cmp, pr_8_m2, pr_i_0, pr_i_1, pr_i_m1] at h32
                      exact absurd trivial h32
                    · simp only [ab_cmp, pr_8_m2, pr_i_0, pr_i_1, pr_i_m1] at h32
                      first
                      | contradiction
                      | exact absurd trivial h32
                      | exact absurd h32 (by decide)
                      | exact absurd (Classical.not_not.mp h32) (by decide)
                      | skip
                        refine pr_seq (pc' := 37) 1 rfl ⟨trivial, trivial⟩ ?_
                        try simp (disch := omega) only [e0, rI_mul, nI_add, nI_1, nI_clamp, pr_8_m2, pr_i_0, pr_i_1, pr_i_m1]
                        exact pr_irM rfl (by first | rfl | (simp (disch := omega) only [e0, rI_mul, nI_add, nI_1, nI_clamp, pr_8_m2, pr_i_0, pr_i_1, pr_i_m1]; done) | (simp [pr_b, pr_8_m2, pr_i_0, pr_i_1, pr_i_m1, *]; done) | (simp_all [pr_b, pr_8_m2, pr_i_0, pr_i_1, pr_i_m1]; done)) trivial (by rfl)
            · simp only [ab_cmp, pr_8_m2, pr_i_0, pr_i_1, pr_i_m1] at h19
              exact absurd (Classical.not_not.mp h19) (by decide)
      · rw [if_neg (fun q => c0 ⟨fun z => q.1 (na.mpr z), q.2⟩)]
        generalize hs : (fun i => nI (x_ls X i)) = s
        have hsk : ∀ k, nI (x_ls X k) = s k := fun k => by rw [← hs]
        have hxh : ∀ k, x_hl X k = !nb (fun q => decide (x_K X q ≠ 4) && decide (x_S X q = s k)) (x_n X) := fun k => by unfold x_hl x_hs; rw [hsk]
        have hfr : ∀ k, frs X s k = (!x_hl X k && nb (fun j => decide (s j = s k)) k) := fun k => by rw [hxh, Bool.not_not]; rfl
        have hF := cnt_le (frs X s) X.1.2.1.length
        have hA := cnt_le (fun p => nb (al (x_S X) (x_K X) p) p) (x_n X)
        have hA2 : cnt (fun p => nb (al (x_S X) (x_K X) p) p) (x_n X) ≤ 8 := Nat.le_trans hA g2
        have fin : ∀ z5 z6 z7, pr_E pX11_crowd 154 [some (.ref 172), some (.int (nI a)), some (.int y), some (.int (nI (cnt (frs X s) X.1.2.1.length))), some (.int (pr_b (!nb (x_hl X) X.1.2.1.length))), z5, z6, z7] [] h M (some (.int (if nI a = 0 then f_persons X else if y = 0 then (if nb (x_hl X) X.1.2.1.length = true then f_persons X + 1 else f_persons X) else i_min (f_persons X + nI a) (x_pc X s X.1.2.1.length)))) h M := by
          intro z5 z6 z7
          have p0 : nI (cnt (fun p => nb (lal X.1.1 p) p) X.1.1.2.1.length) + 0 = f_persons X := Int32.add_zero _
          by_cases az : a = 0
          · subst az
            rw [if_pos (show nI 0 = 0 from rfl)]
            have e2 : nI 0 ≤ nI (cnt (frs X s) X.1.2.1.length) := nI_le (Nat.zero_le _) (by omega)
            by_cases y0 : y = 0
            · refine pr_seq (pc' := 155) 1 rfl ⟨trivial, trivial⟩ ?_
              try simp (disch := omega) only [rI_mul, nI_add, nI_1, nI_clamp, pr_8_m2, pr_i_0, pr_i_1, pr_i_m1]
              refine pr_if rfl (fun h155 => ?_) (fun h155 => ?_)
              · simp only [ab_cmp, pr_8_m2, pr_i_0, pr_i_1, pr_i_m1] at h155
                first
                | contradiction
                | exact absurd trivial h155
                | exact absurd h155 (by decide)
                | exact absurd (Classical.not_not.mp h155) (by decide)
                | skip
                  refine pr_seq (pc' := 172) 5 rfl ⟨⟨⟨⟨⟨trivial, trivial⟩, trivial⟩, trivial⟩, trivial⟩, trivial⟩ ?_
                  try simp (disch := omega) only [rI_mul, nI_add, nI_1, nI_clamp, pr_8_m2, pr_i_0, pr_i_1, pr_i_m1]
                  refine pr_ic rfl (fun h172 => ?_) (fun h172 => ?_)
                  · simp only [ab_cmp, pr_8_m2, pr_i_0, pr_i_1, pr_i_m1] at h172
                    first
                    | contradiction
                    | exact absurd trivial h172
                    | exact absurd h172 (by decide)
                    | exact absurd (Classical.not_not.mp h172) (by decide)
                    | skip
                      refine pr_seq (pc' := 183) 3 rfl ⟨⟨⟨trivial, trivial⟩, trivial⟩, (by first | decide | assumption)⟩ ?_
                      try simp (disch := omega) only [rI_mul, nI_add, nI_1, nI_clamp, pr_8_m2, pr_i_0, pr_i_1, pr_i_m1]
                      refine pr_cv [] rfl rfl rfl rfl rfl (Nat.le_of_ble_eq_true rfl) (by first | assumption | decide | (simp (disch := omega) only [rI_mul, nI_add, nI_1, nI_clamp, pr_8_m2, pr_i_0, pr_i_1, pr_i_m1]; first | assumption | exact ⟨Or.inl (by assumption), rvin (by assumption) (by omega) (by decide)⟩ | exact ⟨by assumption, rvin (by assumption) (by omega) (by decide)⟩ | exact ⟨⟨by omega, by omega⟩, rvin (by assumption) (by omega) (by decide)⟩ | exact ⟨Or.inr (by assumption), rvin (by assumption) (by omega) (by decide)⟩ | exact ⟨Or.inr ⟨by assumption, (by first | exact Or.inl rfl | exact Or.inr rfl | exact pr_b01 _)⟩, rvin (by assumption) (by omega) (by decide)⟩ | exact ⟨by assumption, by assumption⟩ | decide | omega)) (Nat.le_of_ble_eq_true rfl) (hper) ?_
                      refine pr_seq (pc' := 187) 1 rfl ⟨trivial, trivial⟩ ?_
                      try simp (disch := omega) only [rI_mul, nI_add, nI_1, nI_clamp, pr_8_m2, pr_i_0, pr_i_1, pr_i_m1]
                      refine pr_if rfl (fun h187 => ?_) (fun h187 => ?_)
                      · simp only [ab_cmp, pr_8_m2, pr_i_0, pr_i_1, pr_i_m1] at h187
                        exact absurd y0 h187
                      · simp only [ab_cmp, pr_8_m2, pr_i_0, pr_i_1, pr_i_m1] at h187
                        first
                        | contradiction
                        | exact absurd trivial h187
                        | exact absurd h187 (by decide)
                        | exact absurd (Classical.not_not.mp h187) (by decide)
                        | skip
                          refine pr_seq (pc' := 198) 3 rfl ⟨⟨⟨trivial, trivial⟩, trivial⟩, trivial⟩ ?_
                          try simp (disch := omega) only [rI_mul, nI_add, nI_1, nI_clamp, pr_8_m2, pr_i_0, pr_i_1, pr_i_m1]
                          exact pr_irM rfl (by first | rfl | exact congrArg (fun z => some (Value.int z)) p0.symm) trivial (by rfl)
                  · simp only [ab_cmp, pr_8_m2, pr_i_0, pr_i_1, pr_i_m1] at h172
                    exact absurd e2 h172
              · simp only [ab_cmp, pr_8_m2, pr_i_0, pr_i_1, pr_i_m1] at h155
                exact absurd rfl h155
            · refine pr_seq (pc' := 155) 1 rfl ⟨trivial, trivial⟩ ?_
              try simp (disch := omega) only [rI_mul, nI_add, nI_1, nI_clamp, pr_8_m2, pr_i_0, pr_i_1, pr_i_m1]
              refine pr_if rfl (fun h155 => ?_) (fun h155 => ?_)
              · simp only [ab_cmp, pr_8_m2, pr_i_0, pr_i_1, pr_i_m1] at h155
                first
                | contradiction
                | exact absurd trivial h155
                | exact absurd h155 (by decide)
                | exact absurd (Classical.not_not.mp h155) (by decide)
                | skip
                  refine pr_seq (pc' := 172) 5 rfl ⟨⟨⟨⟨⟨trivial, trivial⟩, trivial⟩, trivial⟩, trivial⟩, trivial⟩ ?_
                  try simp (disch := omega) only [rI_mul, nI_add, nI_1, nI_clamp, pr_8_m2, pr_i_0, pr_i_1, pr_i_m1]
                  refine pr_ic rfl (fun h172 => ?_) (fun h172 => ?_)
                  · simp only [ab_cmp, pr_8_m2, pr_i_0, pr_i_1, pr_i_m1] at h172
                    first
                    | contradiction
                    | exact absurd trivial h172
                    | exact absurd h172 (by decide)
                    | exact absurd (Classical.not_not.mp h172) (by decide)
                    | skip
                      refine pr_seq (pc' := 183) 3 rfl ⟨⟨⟨trivial, trivial⟩, trivial⟩, (by first | decide | assumption)⟩ ?_
                      try simp (disch := omega) only [rI_mul, nI_add, nI_1, nI_clamp, pr_8_m2, pr_i_0, pr_i_1, pr_i_m1]
                      refine pr_cv [] rfl rfl rfl rfl rfl (Nat.le_of_ble_eq_true rfl) (by first | assumption | decide | (simp (disch := omega) only [rI_mul, nI_add, nI_1, nI_clamp, pr_8_m2, pr_i_0, pr_i_1, pr_i_m1]; first | assumption | exact ⟨Or.inl (by assumption), rvin (by assumption) (by omega) (by decide)⟩ | exact ⟨by assumption, rvin (by assumption) (by omega) (by decide)⟩ | exact ⟨⟨by omega, by omega⟩, rvin (by assumption) (by omega) (by decide)⟩ | exact ⟨Or.inr (by assumption), rvin (by assumption) (by omega) (by decide)⟩ | exact ⟨Or.inr ⟨by assumption, (by first | exact Or.inl rfl | exact Or.inr rfl | exact pr_b01 _)⟩, rvin (by assumption) (by omega) (by decide)⟩ | exact ⟨by assumption, by assumption⟩ | decide | omega)) (Nat.le_of_ble_eq_true rfl) (hper) ?_
                      refine pr_seq (pc' := 187) 1 rfl ⟨trivial, trivial⟩ ?_
                      try simp (disch := omega) only [rI_mul, nI_add, nI_1, nI_clamp, pr_8_m2, pr_i_0, pr_i_1, pr_i_m1]
                      refine pr_if rfl (fun h187 => ?_) (fun h187 => ?_)
                      · simp only [ab_cmp, pr_8_m2, pr_i_0, pr_i_1, pr_i_m1] at h187
                        first
                        | contradiction
                        | exact absurd trivial h187
                        | exact absurd h187 (by decide)
                        | exact absurd (Classical.not_not.mp h187) (by decide)
                        | skip
                          refine pr_seq (pc' := 198) 2 rfl ⟨⟨trivial, trivial⟩, trivial⟩ ?_
                          try simp (disch := omega) only [rI_mul, nI_add, nI_1, nI_clamp, pr_8_m2, pr_i_0, pr_i_1, pr_i_m1]
                          exact pr_irM rfl (by first | rfl | exact congrArg (fun z => some (Value.int z)) p0.symm) trivial (by rfl)
                      · simp only [ab_cmp, pr_8_m2, pr_i_0, pr_i_1, pr_i_m1] at h187
                        exact absurd (Classical.not_not.mp h187) y0
                  · simp only [ab_cmp, pr_8_m2, pr_i_0, pr_i_1, pr_i_m1] at h172
                    exact absurd e2 h172
              · simp only [ab_cmp, pr_8_m2, pr_i_0, pr_i_1, pr_i_m1] at h155
                exact absurd rfl h155
          · have ez : ¬ nI a = 0 := fun q => az (na.mp q)
            rw [if_neg ez]
            by_cases y0 : y = 0
            · rw [if_pos y0]
              by_cases cf : cnt (frs X s) X.1.2.1.length < a
              · have e2 : ¬ nI a ≤ nI (cnt (frs X s) X.1.2.1.length) := nI_ge cf (by omega)
                cases cn : nb (x_hl X) X.1.2.1.length with
                | true =>
                  rw [if_pos rfl]
                  refine pr_seq (pc' := 155) 1 rfl ⟨trivial, trivial⟩ ?_
                  try simp (disch := omega) only [rI_mul, nI_add, nI_1, nI_clamp, pr_8_m2, pr_i_0, pr_i_1, pr_i_m1]
                  refine pr_if rfl (fun h155 => ?_) (fun h155 => ?_)
                  · simp only [ab_cmp, pr_8_m2, pr_i_0, pr_i_1, pr_i_m1] at h155
                    exact absurd h155 ez
                  · simp only [ab_cmp, pr_8_m2, pr_i_0, pr_i_1, pr_i_m1] at h155
                    first
                    | contradiction
                    | exact absurd trivial h155
                    | exact absurd h155 (by decide)
                    | exact absurd (Classical.not_not.mp h155) (by decide)
                    | skip
                      refine pr_seq (pc' := 160) 1 rfl ⟨trivial, trivial⟩ ?_
                      try simp (disch := omega) only [rI_mul, nI_add, nI_1, nI_clamp, pr_8_m2, pr_i_0, pr_i_1, pr_i_m1]
                      refine pr_if rfl (fun h160 => ?_) (fun h160 => ?_)
                      · simp only [ab_cmp, pr_8_m2, pr_i_0, pr_i_1, pr_i_m1] at h160
                        first
                        | contradiction
                        | exact absurd trivial h160
                        | exact absurd h160 (by decide)
                        | exact absurd (Classical.not_not.mp h160) (by decide)
                        | skip
                          refine pr_seq (pc' := 172) 4 rfl ⟨⟨⟨⟨trivial, trivial⟩, trivial⟩, trivial⟩, trivial⟩ ?_
                          try simp (disch := omega) only [rI_mul, nI_add, nI_1, nI_clamp, pr_8_m2, pr_i_0, pr_i_1, pr_i_m1]
                          refine pr_ic rfl (fun h172 => ?_) (fun h172 => ?_)
                          · simp only [ab_cmp, pr_8_m2, pr_i_0, pr_i_1, pr_i_m1] at h172
                            exact absurd h172 e2
                          · simp only [ab_cmp, pr_8_m2, pr_i_0, pr_i_1, pr_i_m1] at h172
                            first
                            | contradiction
                            | exact absurd trivial h172
                            | exact absurd h172 (by decide)
                            | exact absurd (Classical.not_not.mp h172) (by decide)
                            | skip
                              refine pr_seq (pc' := 183) 4 rfl ⟨⟨⟨⟨trivial, trivial⟩, trivial⟩, trivial⟩, (by first | decide | assumption)⟩ ?_
                              try simp (disch := omega) only [rI_mul, nI_add, nI_1, nI_clamp, pr_8_m2, pr_i_0, pr_i_1, pr_i_m1]
                              refine pr_cv [] rfl rfl rfl rfl rfl (Nat.le_of_ble_eq_true rfl) (by first | assumption | decide | (simp (disch := omega) only [rI_mul, nI_add, nI_1, nI_clamp, pr_8_m2, pr_i_0, pr_i_1, pr_i_m1]; first | assumption | exact ⟨Or.inl (by assumption), rvin (by assumption) (by omega) (by decide)⟩ | exact ⟨by assumption, rvin (by assumption) (by omega) (by decide)⟩ | exact ⟨⟨by omega, by omega⟩, rvin (by assumption) (by omega) (by decide)⟩ | exact ⟨Or.inr (by assumption), rvin (by assumption) (by omega) (by decide)⟩ | exact ⟨Or.inr ⟨by assumption, (by first | exact Or.inl rfl | exact Or.inr rfl | exact pr_b01 _)⟩, rvin (by assumption) (by omega) (by decide)⟩ | exact ⟨by assumption, by assumption⟩ | decide | omega)) (Nat.le_of_ble_eq_true rfl) (hper) ?_
                              refine pr_seq (pc' := 187) 1 rfl ⟨trivial, trivial⟩ ?_
                              try simp (disch := omega) only [rI_mul, nI_add, nI_1, nI_clamp, pr_8_m2, pr_i_0, pr_i_1, pr_i_m1]
                              refine pr_if rfl (fun h187 => ?_) (fun h187 => ?_)
                              · simp only [ab_cmp, pr_8_m2, pr_i_0, pr_i_1, pr_i_m1] at h187
                                exact absurd y0 h187
                              · simp only [ab_cmp, pr_8_m2, pr_i_0, pr_i_1, pr_i_m1] at h187
                                first
                                | contradiction
                                | exact absurd trivial h187
                                | exact absurd h187 (by decide)
                                | exact absurd (Classical.not_not.mp h187) (by decide)
                                | skip
                                  refine pr_seq (pc' := 198) 3 rfl ⟨⟨⟨trivial, trivial⟩, trivial⟩, trivial⟩ ?_
                                  try simp (disch := omega) only [rI_mul, nI_add, nI_1, nI_clamp, pr_8_m2, pr_i_0, pr_i_1, pr_i_m1]
                                  exact pr_irM rfl (by first | rfl | (rw [← nI_1]; rfl)) trivial (by rfl)
                      · simp only [ab_cmp, pr_8_m2, pr_i_0, pr_i_1, pr_i_m1] at h160
                        exact absurd rfl h160
                | false =>
                  rw [if_neg (by decide)]
                  refine pr_seq (pc' := 155) 1 rfl ⟨trivial, trivial⟩ ?_
                  try simp (disch := omega) only [rI_mul, nI_add, nI_1, nI_clamp, pr_8_m2, pr_i_0, pr_i_1, pr_i_m1]
                  refine pr_if rfl (fun h155 => ?_) (fun h155 => ?_)
                  · simp only [ab_cmp, pr_8_m2, pr_i_0, pr_i_1, pr_i_m1] at h155
                    exact absurd h155 ez
                  · simp only [ab_cmp, pr_8_m2, pr_i_0, pr_i_1, pr_i_m1] at h155
                    first
                    | contradiction
                    | exact absurd trivial h155
                    | exact absurd h155 (by decide)
                    | exact absurd (Classical.not_not.mp h155) (by decide)
                    | skip
                      refine pr_seq (pc' := 160) 1 rfl ⟨trivial, trivial⟩ ?_
                      try simp (disch := omega) only [rI_mul, nI_add, nI_1, nI_clamp, pr_8_m2, pr_i_0, pr_i_1, pr_i_m1]
                      refine pr_if rfl (fun h160 => ?_) (fun h160 => ?_)
                      · simp only [ab_cmp, pr_8_m2, pr_i_0, pr_i_1, pr_i_m1] at h160
                        exact absurd h160 (by decide)
                      · simp only [ab_cmp, pr_8_m2, pr_i_0, pr_i_1, pr_i_m1] at h160
                        first
                        | contradiction
                        | exact absurd trivial h160
                        | exact absurd h160 (by decide)
                        | exact absurd (Classical.not_not.mp h160) (by decide)
                        | skip
                          refine pr_seq (pc' := 172) 5 rfl ⟨⟨⟨⟨⟨trivial, trivial⟩, trivial⟩, trivial⟩, trivial⟩, trivial⟩ ?_
                          try simp (disch := omega) only [rI_mul, nI_add, nI_1, nI_clamp, pr_8_m2, pr_i_0, pr_i_1, pr_i_m1]
                          refine pr_ic rfl (fun h172 => ?_) (fun h172 => ?_)
                          · simp only [ab_cmp, pr_8_m2, pr_i_0, pr_i_1, pr_i_m1] at h172
                            exact absurd h172 e2
                          · simp only [ab_cmp, pr_8_m2, pr_i_0, pr_i_1, pr_i_m1] at h172
                            first
                            | contradiction
                            | exact absurd trivial h172
                            | exact absurd h172 (by decide)
                            | exact absurd (Classical.not_not.mp h172) (by decide)
                            | skip
                              refine pr_seq (pc' := 183) 4 rfl ⟨⟨⟨⟨trivial, trivial⟩, trivial⟩, trivial⟩, (by first | decide | assumption)⟩ ?_
                              try simp (disch := omega) only [rI_mul, nI_add, nI_1, nI_clamp, pr_8_m2, pr_i_0, pr_i_1, pr_i_m1]
                              refine pr_cv [] rfl rfl rfl rfl rfl (Nat.le_of_ble_eq_true rfl) (by first | assumption | decide | (simp (disch := omega) only [rI_mul, nI_add, nI_1, nI_clamp, pr_8_m2, pr_i_0, pr_i_1, pr_i_m1]; first | assumption | exact ⟨Or.inl (by assumption), rvin (by assumption) (by omega) (by decide)⟩ | exact ⟨by assumption, rvin (by assumption) (by omega) (by decide)⟩ | exact ⟨⟨by omega, by omega⟩, rvin (by assumption) (by omega) (by decide)⟩ | exact ⟨Or.inr (by assumption), rvin (by assumption) (by omega) (by decide)⟩ | exact ⟨Or.inr ⟨by assumption, (by first | exact Or.inl rfl | exact Or.inr rfl | exact pr_b01 _)⟩, rvin (by assumption) (by omega) (by decide)⟩ | exact ⟨by assumption, by assumption⟩ | decide | omega)) (Nat.le_of_ble_eq_true rfl) (hper) ?_
                              refine pr_seq (pc' := 187) 1 rfl ⟨trivial, trivial⟩ ?_
                              try simp (disch := omega) only [rI_mul, nI_add, nI_1, nI_clamp, pr_8_m2, pr_i_0, pr_i_1, pr_i_m1]
                              refine pr_if rfl (fun h187 => ?_) (fun h187 => ?_)
                              · simp only [ab_cmp, pr_8_m2, pr_i_0, pr_i_1, pr_i_m1] at h187
                                exact absurd y0 h187
                              · simp only [ab_cmp, pr_8_m2, pr_i_0, pr_i_1, pr_i_m1] at h187
                                first
                                | contradiction
                                | exact absurd trivial h187
                                | exact absurd h187 (by decide)
                                | exact absurd (Classical.not_not.mp h187) (by decide)
                                | skip
                                  refine pr_seq (pc' := 198) 3 rfl ⟨⟨⟨trivial, trivial⟩, trivial⟩, trivial⟩ ?_
                                  try simp (disch := omega) only [rI_mul, nI_add, nI_1, nI_clamp, pr_8_m2, pr_i_0, pr_i_1, pr_i_m1]
                                  exact pr_irM rfl (by first | rfl | exact congrArg (fun z => some (Value.int z)) p0.symm) trivial (by rfl)
              · have e2 : nI a ≤ nI (cnt (frs X s) X.1.2.1.length) := nI_le (by omega) (by omega)
                cases cn : nb (x_hl X) X.1.2.1.length with
                | true =>
                  rw [if_pos rfl]
                  refine pr_seq (pc' := 155) 1 rfl ⟨trivial, trivial⟩ ?_
                  try simp (disch := omega) only [rI_mul, nI_add, nI_1, nI_clamp, pr_8_m2, pr_i_0, pr_i_1, pr_i_m1]
                  refine pr_if rfl (fun h155 => ?_) (fun h155 => ?_)
                  · simp only [ab_cmp, pr_8_m2, pr_i_0, pr_i_1, pr_i_m1] at h155
                    exact absurd h155 ez
                  · simp only [ab_cmp, pr_8_m2, pr_i_0, pr_i_1, pr_i_m1] at h155
                    first
                    | contradiction
                    | exact absurd trivial h155
                    | exact absurd h155 (by decide)
                    | exact absurd (Classical.not_not.mp h155) (by decide)
                    | skip
                      refine pr_seq (pc' := 160) 1 rfl ⟨trivial, trivial⟩ ?_
                      try simp (disch := omega) only [rI_mul, nI_add, nI_1, nI_clamp, pr_8_m2, pr_i_0, pr_i_1, pr_i_m1]
                      refine pr_if rfl (fun h160 => ?_) (fun h160 => ?_)
                      · simp only [ab_cmp, pr_8_m2, pr_i_0, pr_i_1, pr_i_m1] at h160
                        first
                        | contradiction
                        | exact absurd trivial h160
                        | exact absurd h160 (by decide)
                        | exact absurd (Classical.not_not.mp h160) (by decide)
                        | skip
                          refine pr_seq (pc' := 172) 4 rfl ⟨⟨⟨⟨trivial, trivial⟩, trivial⟩, trivial⟩, trivial⟩ ?_
                          try simp (disch := omega) only [rI_mul, nI_add, nI_1, nI_clamp, pr_8_m2, pr_i_0, pr_i_1, pr_i_m1]
                          refine pr_ic rfl (fun h172 => ?_) (fun h172 => ?_)
                          · simp only [ab_cmp, pr_8_m2, pr_i_0, pr_i_1, pr_i_m1] at h172
                            first
                            | contradiction
                            | exact absurd trivial h172
                            | exact absurd h172 (by decide)
                            | exact absurd (Classical.not_not.mp h172) (by decide)
                            | skip
                              refine pr_seq (pc' := 183) 3 rfl ⟨⟨⟨trivial, trivial⟩, trivial⟩, (by first | decide | assumption)⟩ ?_
                              try simp (disch := omega) only [rI_mul, nI_add, nI_1, nI_clamp, pr_8_m2, pr_i_0, pr_i_1, pr_i_m1]
                              refine pr_cv [] rfl rfl rfl rfl rfl (Nat.le_of_ble_eq_true rfl) (by first | assumption | decide | (simp (disch := omega) only [rI_mul, nI_add, nI_1, nI_clamp, pr_8_m2, pr_i_0, pr_i_1, pr_i_m1]; first | assumption | exact ⟨Or.inl (by assumption), rvin (by assumption) (by omega) (by decide)⟩ | exact ⟨by assumption, rvin (by assumption) (by omega) (by decide)⟩ | exact ⟨⟨by omega, by omega⟩, rvin (by assumption) (by omega) (by decide)⟩ | exact ⟨Or.inr (by assumption), rvin (by assumption) (by omega) (by decide)⟩ | exact ⟨Or.inr ⟨by assumption, (by first | exact Or.inl rfl | exact Or.inr rfl | exact pr_b01 _)⟩, rvin (by assumption) (by omega) (by decide)⟩ | exact ⟨by assumption, by assumption⟩ | decide | omega)) (Nat.le_of_ble_eq_true rfl) (hper) ?_
                              refine pr_seq (pc' := 187) 1 rfl ⟨trivial, trivial⟩ ?_
                              try simp (disch := omega) only [rI_mul, nI_add, nI_1, nI_clamp, pr_8_m2, pr_i_0, pr_i_1, pr_i_m1]
                              refine pr_if rfl (fun h187 => ?_) (fun h187 => ?_)
                              · simp only [ab_cmp, pr_8_m2, pr_i_0, pr_i_1, pr_i_m1] at h187
                                exact absurd y0 h187
                              · simp only [ab_cmp, pr_8_m2, pr_i_0, pr_i_1, pr_i_m1] at h187
                                first
                                | contradiction
                                | exact absurd trivial h187
                                | exact absurd h187 (by decide)
                                | exact absurd (Classical.not_not.mp h187) (by decide)
                                | skip
                                  refine pr_seq (pc' := 198) 3 rfl ⟨⟨⟨trivial, trivial⟩, trivial⟩, trivial⟩ ?_
                                  try simp (disch := omega) only [rI_mul, nI_add, nI_1, nI_clamp, pr_8_m2, pr_i_0, pr_i_1, pr_i_m1]
                                  exact pr_irM rfl (by first | rfl | (rw [← nI_1]; rfl)) trivial (by rfl)
                          · simp only [ab_cmp, pr_8_m2, pr_i_0, pr_i_1, pr_i_m1] at h172
                            exact absurd e2 h172
                      · simp only [ab_cmp, pr_8_m2, pr_i_0, pr_i_1, pr_i_m1] at h160
                        exact absurd rfl h160
                | false =>
                  rw [if_neg (by decide)]
                  refine pr_seq (pc' := 155) 1 rfl ⟨trivial, trivial⟩ ?_
                  try simp (disch := omega) only [rI_mul, nI_add, nI_1, nI_clamp, pr_8_m2, pr_i_0, pr_i_1, pr_i_m1]
                  refine pr_if rfl (fun h155 => ?_) (fun h155 => ?_)
                  · simp only [ab_cmp, pr_8_m2, pr_i_0, pr_i_1, pr_i_m1] at h155
                    exact absurd h155 ez
                  · simp only [ab_cmp, pr_8_m2, pr_i_0, pr_i_1, pr_i_m1] at h155
                    first
                    | contradiction
                    | exact absurd trivial h155
                    | exact absurd h155 (by decide)
                    | exact absurd (Classical.not_not.mp h155) (by decide)
                    | skip
                      refine pr_seq (pc' := 160) 1 rfl ⟨trivial, trivial⟩ ?_
                      try simp (disch := omega) only [rI_mul, nI_add, nI_1, nI_clamp, pr_8_m2, pr_i_0, pr_i_1, pr_i_m1]
                      refine pr_if rfl (fun h160 => ?_) (fun h160 => ?_)
                      · simp only [ab_cmp, pr_8_m2, pr_i_0, pr_i_1, pr_i_m1] at h160
                        exact absurd h160 (by decide)
                      · simp only [ab_cmp, pr_8_m2, pr_i_0, pr_i_1, pr_i_m1] at h160
                        first
                        | contradiction
                        | exact absurd trivial h160
                        | exact absurd h160 (by decide)
                        | exact absurd (Classical.not_not.mp h160) (by decide)
                        | skip
                          refine pr_seq (pc' := 172) 5 rfl ⟨⟨⟨⟨⟨trivial, trivial⟩, trivial⟩, trivial⟩, trivial⟩, trivial⟩ ?_
                          try simp (disch := omega) only [rI_mul, nI_add, nI_1, nI_clamp, pr_8_m2, pr_i_0, pr_i_1, pr_i_m1]
                          refine pr_ic rfl (fun h172 => ?_) (fun h172 => ?_)
                          · simp only [ab_cmp, pr_8_m2, pr_i_0, pr_i_1, pr_i_m1] at h172
                            first
                            | contradiction
                            | exact absurd trivial h172
                            | exact absurd h172 (by decide)
                            | exact absurd (Classical.not_not.mp h172) (by decide)
                            | skip
                              refine pr_seq (pc' := 183) 3 rfl ⟨⟨⟨trivial, trivial⟩, trivial⟩, (by first | decide | assumption)⟩ ?_
                              try simp (disch := omega) only [rI_mul, nI_add, nI_1, nI_clamp, pr_8_m2, pr_i_0, pr_i_1, pr_i_m1]
                              refine pr_cv [] rfl rfl rfl rfl rfl (Nat.le_of_ble_eq_true rfl) (by first | assumption | decide | (simp (disch := omega) only [rI_mul, nI_add, nI_1, nI_clamp, pr_8_m2, pr_i_0, pr_i_1, pr_i_m1]; first | assumption | exact ⟨Or.inl (by assumption), rvin (by assumption) (by omega) (by decide)⟩ | exact ⟨by assumption, rvin (by assumption) (by omega) (by decide)⟩ | exact ⟨⟨by omega, by omega⟩, rvin (by assumption) (by omega) (by decide)⟩ | exact ⟨Or.inr (by assumption), rvin (by assumption) (by omega) (by decide)⟩ | exact ⟨Or.inr ⟨by assumption, (by first | exact Or.inl rfl | exact Or.inr rfl | exact pr_b01 _)⟩, rvin (by assumption) (by omega) (by decide)⟩ | exact ⟨by assumption, by assumption⟩ | decide | omega)) (Nat.le_of_ble_eq_true rfl) (hper) ?_
                              refine pr_seq (pc' := 187) 1 rfl ⟨trivial, trivial⟩ ?_
                              try simp (disch := omega) only [rI_mul, nI_add, nI_1, nI_clamp, pr_8_m2, pr_i_0, pr_i_1, pr_i_m1]
                              refine pr_if rfl (fun h187 => ?_) (fun h187 => ?_)
                              · simp only [ab_cmp, pr_8_m2, pr_i_0, pr_i_1, pr_i_m1] at h187
                                exact absurd y0 h187
                              · simp only [ab_cmp, pr_8_m2, pr_i_0, pr_i_1, pr_i_m1] at h187
                                first
                                | contradiction
                                | exact absurd trivial h187
                                | exact absurd h187 (by decide)
                                | exact absurd (Classical.not_not.mp h187) (by decide)
                                | skip
                                  refine pr_seq (pc' := 198) 3 rfl ⟨⟨⟨trivial, trivial⟩, trivial⟩, trivial⟩ ?_
                                  try simp (disch := omega) only [rI_mul, nI_add, nI_1, nI_clamp, pr_8_m2, pr_i_0, pr_i_1, pr_i_m1]
                                  exact pr_irM rfl (by first | rfl | exact congrArg (fun z => some (Value.int z)) p0.symm) trivial (by rfl)
                          · simp only [ab_cmp, pr_8_m2, pr_i_0, pr_i_1, pr_i_m1] at h172
                            exact absurd e2 h172
            · rw [if_neg y0, pc_frs]
              unfold f_persons
              rw [crowd_min (by omega) (by omega) (by omega)]
              by_cases cf : cnt (frs X s) X.1.2.1.length < a
              · have e2 : ¬ nI a ≤ nI (cnt (frs X s) X.1.2.1.length) := nI_ge cf (by omega)
                rw [if_pos cf]
                cases cn : nb (x_hl X) X.1.2.1.length with
                | true =>
                  refine pr_seq (pc' := 155) 1 rfl ⟨trivial, trivial⟩ ?_
                  refine pr_if rfl (fun h155 => ?_) (fun h155 => ?_)
                  · simp only [ab_cmp, pr_8_m2, pr_i_0, pr_i_1, pr_i_m1] at h155
                    exact absurd h155 ez
                  · simp only [ab_cmp, pr_8_m2, pr_i_0, pr_i_1, pr_i_m1] at h155
                    first
                    | contradiction
                    | exact absurd trivial h155
                    | exact absurd h155 (by decide)
                    | exact absurd (Classical.not_not.mp h155) (by decide)
                    | skip
                      refine pr_seq (pc' := 160) 1 rfl ⟨trivial, trivial⟩ ?_
                      refine pr_if rfl (fun h160 => ?_) (fun h160 => ?_)
                      · simp only [ab_cmp, pr_8_m2, pr_i_0, pr_i_1, pr_i_m1] at h160
                        first
                        | contradiction
                        | exact absurd trivial h160
                        | exact absurd h160 (by decide)
                        | exact absurd (Classical.not_not.mp h160) (by decide)
                        | skip
                          refine pr_seq (pc' := 172) 4 rfl ⟨⟨⟨⟨trivial, trivial⟩, trivial⟩, trivial⟩, trivial⟩ ?_
                          refine pr_ic rfl (fun h172 => ?_) (fun h172 => ?_)
                          · simp only [ab_cmp, pr_8_m2, pr_i_0, pr_i_1, pr_i_m1] at h172
                            exact absurd h172 e2
                          · simp only [ab_cmp, pr_8_m2, pr_i_0, pr_i_1, pr_i_m1] at h172
                            first
                            | contradiction
                            | exact absurd trivial h172
                            | exact absurd h172 (by decide)
                            | exact absurd (Classical.not_not.mp h172) (by decide)
                            | skip
                              refine pr_seq (pc' := 183) 4 rfl ⟨⟨⟨⟨trivial, trivial⟩, trivial⟩, trivial⟩, (by first | assumption | decide | exact ⟨Or.inl (by assumption), by assumption⟩ | exact ⟨by assumption, by assumption⟩ | omega)⟩ ?_
                              refine pr_cv [] rfl rfl rfl rfl rfl (Nat.le_of_ble_eq_true rfl) (by first | assumption | decide | exact ⟨Or.inl (by assumption), by assumption⟩ | exact ⟨by assumption, by assumption⟩ | omega) (Nat.le_of_ble_eq_true rfl) (hper) ?_
                              refine pr_seq (pc' := 187) 1 rfl ⟨trivial, trivial⟩ ?_
                              refine pr_if rfl (fun h187 => ?_) (fun h187 => ?_)
                              · simp only [ab_cmp, pr_8_m2, pr_i_0, pr_i_1, pr_i_m1] at h187
                                first
                                | contradiction
                                | exact absurd trivial h187
                                | exact absurd h187 (by decide)
                                | exact absurd (Classical.not_not.mp h187) (by decide)
                                | skip
                                  refine pr_seq (pc' := 198) 2 rfl ⟨⟨trivial, trivial⟩, trivial⟩ ?_
                                  exact pr_irM rfl (by rfl) trivial (by rfl)
                              · simp only [ab_cmp, pr_8_m2, pr_i_0, pr_i_1, pr_i_m1] at h187
                                exact absurd (Classical.not_not.mp h187) y0
                      · simp only [ab_cmp, pr_8_m2, pr_i_0, pr_i_1, pr_i_m1] at h160
                        exact absurd rfl h160
                | false =>
                  refine pr_seq (pc' := 155) 1 rfl ⟨trivial, trivial⟩ ?_
                  refine pr_if rfl (fun h155 => ?_) (fun h155 => ?_)
                  · simp only [ab_cmp, pr_8_m2, pr_i_0, pr_i_1, pr_i_m1] at h155
                    exact absurd h155 ez
                  · simp only [ab_cmp, pr_8_m2, pr_i_0, pr_i_1, pr_i_m1] at h155
                    first
                    | contradiction
                    | exact absurd trivial h155
                    | exact absurd h155 (by decide)
                    | exact absurd (Classical.not_not.mp h155) (by decide)
                    | skip
                      refine pr_seq (pc' := 160) 1 rfl ⟨trivial, trivial⟩ ?_
                      refine pr_if rfl (fun h160 => ?_) (fun h160 => ?_)
                      · simp only [ab_cmp, pr_8_m2, pr_i_0, pr_i_1, pr_i_m1] at h160
                        exact absurd h160 (by decide)
                      · simp only [ab_cmp, pr_8_m2, pr_i_0, pr_i_1, pr_i_m1] at h160
                        first
                        | contradiction
                        | exact absurd trivial h160
                        | exact absurd h160 (by decide)
                        | exact absurd (Classical.not_not.mp h160) (by decide)
                        | skip
                          refine pr_seq (pc' := 172) 5 rfl ⟨⟨⟨⟨⟨trivial, trivial⟩, trivial⟩, trivial⟩, trivial⟩, trivial⟩ ?_
                          refine pr_ic rfl (fun h172 => ?_) (fun h172 => ?_)
                          · simp only [ab_cmp, pr_8_m2, pr_i_0, pr_i_1, pr_i_m1] at h172
                            exact absurd h172 e2
                          · simp only [ab_cmp, pr_8_m2, pr_i_0, pr_i_1, pr_i_m1] at h172
                            first
                            | contradiction
                            | exact absurd trivial h172
                            | exact absurd h172 (by decide)
                            | exact absurd (Classical.not_not.mp h172) (by decide)
                            | skip
                              refine pr_seq (pc' := 183) 4 rfl ⟨⟨⟨⟨trivial, trivial⟩, trivial⟩, trivial⟩, (by first | assumption | decide | exact ⟨Or.inl (by assumption), by assumption⟩ | exact ⟨by assumption, by assumption⟩ | omega)⟩ ?_
                              refine pr_cv [] rfl rfl rfl rfl rfl (Nat.le_of_ble_eq_true rfl) (by first | assumption | decide | exact ⟨Or.inl (by assumption), by assumption⟩ | exact ⟨by assumption, by assumption⟩ | omega) (Nat.le_of_ble_eq_true rfl) (hper) ?_
                              refine pr_seq (pc' := 187) 1 rfl ⟨trivial, trivial⟩ ?_
                              refine pr_if rfl (fun h187 => ?_) (fun h187 => ?_)
                              · simp only [ab_cmp, pr_8_m2, pr_i_0, pr_i_1, pr_i_m1] at h187
                                first
                                | contradiction
                                | exact absurd trivial h187
                                | exact absurd h187 (by decide)
                                | exact absurd (Classical.not_not.mp h187) (by decide)
                                | skip
                                  refine pr_seq (pc' := 198) 2 rfl ⟨⟨trivial, trivial⟩, trivial⟩ ?_
                                  exact pr_irM rfl (by rfl) trivial (by rfl)
                              · simp only [ab_cmp, pr_8_m2, pr_i_0, pr_i_1, pr_i_m1] at h187
                                exact absurd (Classical.not_not.mp h187) y0
              · have e2 : nI a ≤ nI (cnt (frs X s) X.1.2.1.length) := nI_le (by omega) (by omega)
                rw [if_neg cf]
                cases cn : nb (x_hl X) X.1.2.1.length with
                | true =>
                  refine pr_seq (pc' := 155) 1 rfl ⟨trivial, trivial⟩ ?_
                  refine pr_if rfl (fun h155 => ?_) (fun h155 => ?_)
                  · simp only [ab_cmp, pr_8_m2, pr_i_0, pr_i_1, pr_i_m1] at h155
                    exact absurd h155 ez
                  · simp only [ab_cmp, pr_8_m2, pr_i_0, pr_i_1, pr_i_m1] at h155
                    first
                    | contradiction
                    | exact absurd trivial h155
                    | exact absurd h155 (by decide)
                    | exact absurd (Classical.not_not.mp h155) (by decide)
                    | skip
                      refine pr_seq (pc' := 160) 1 rfl ⟨trivial, trivial⟩ ?_
                      refine pr_if rfl (fun h160 => ?_) (fun h160 => ?_)
                      · simp only [ab_cmp, pr_8_m2, pr_i_0, pr_i_1, pr_i_m1] at h160
                        first
                        | contradiction
                        | exact absurd trivial h160
                        | exact absurd h160 (by decide)
                        | exact absurd (Classical.not_not.mp h160) (by decide)
                        | skip
                          refine pr_seq (pc' := 172) 4 rfl ⟨⟨⟨⟨trivial, trivial⟩, trivial⟩, trivial⟩, trivial⟩ ?_
                          refine pr_ic rfl (fun h172 => ?_) (fun h172 => ?_)
                          · simp only [ab_cmp, pr_8_m2, pr_i_0, pr_i_1, pr_i_m1] at h172
                            first
                            | contradiction
                            | exact absurd trivial h172
                            | exact absurd h172 (by decide)
                            | exact absurd (Classical.not_not.mp h172) (by decide)
                            | skip
                              refine pr_seq (pc' := 183) 3 rfl ⟨⟨⟨trivial, trivial⟩, trivial⟩, (by first | assumption | decide | exact ⟨Or.inl (by assumption), by assumption⟩ | exact ⟨by assumption, by assumption⟩ | omega)⟩ ?_
                              refine pr_cv [] rfl rfl rfl rfl rfl (Nat.le_of_ble_eq_true rfl) (by first | assumption | decide | exact ⟨Or.inl (by assumption), by assumption⟩ | exact ⟨by assumption, by assumption⟩ | omega) (Nat.le_of_ble_eq_true rfl) (hper) ?_
                              refine pr_seq (pc' := 187) 1 rfl ⟨trivial, trivial⟩ ?_
                              refine pr_if rfl (fun h187 => ?_) (fun h187 => ?_)
                              · simp only [ab_cmp, pr_8_m2, pr_i_0, pr_i_1, pr_i_m1] at h187
                                first
                                | contradiction
                                | exact absurd trivial h187
                                | exact absurd h187 (by decide)
                                | exact absurd (Classical.not_not.mp h187) (by decide)
                                | skip
                                  refine pr_seq (pc' := 198) 2 rfl ⟨⟨trivial, trivial⟩, trivial⟩ ?_
                                  exact pr_irM rfl (by rfl) trivial (by rfl)
                              · simp only [ab_cmp, pr_8_m2, pr_i_0, pr_i_1, pr_i_m1] at h187
                                exact absurd (Classical.not_not.mp h187) y0
                          · simp only [ab_cmp, pr_8_m2, pr_i_0, pr_i_1, pr_i_m1] at h172
                            exact absurd e2 h172
                      · simp only [ab_cmp, pr_8_m2, pr_i_0, pr_i_1, pr_i_m1] at h160
                        exact absurd rfl h160
                | false =>
                  refine pr_seq (pc' := 155) 1 rfl ⟨trivial, trivial⟩ ?_
                  refine pr_if rfl (fun h155 => ?_) (fun h155 => ?_)
                  · simp only [ab_cmp, pr_8_m2, pr_i_0, pr_i_1, pr_i_m1] at h155
                    exact absurd h155 ez
                  · simp only [ab_cmp, pr_8_m2, pr_i_0, pr_i_1, pr_i_m1] at h155
                    first
                    | contradiction
                    | exact absurd trivial h155
                    | exact absurd h155 (by decide)
                    | exact absurd (Classical.not_not.mp h155) (by decide)
                    | skip
                      refine pr_seq (pc' := 160) 1 rfl ⟨trivial, trivial⟩ ?_
                      refine pr_if rfl (fun h160 => ?_) (fun h160 => ?_)
                      · simp only [ab_cmp, pr_8_m2, pr_i_0, pr_i_1, pr_i_m1] at h160
                        exact absurd h160 (by decide)
                      · simp only [ab_cmp, pr_8_m2, pr_i_0, pr_i_1, pr_i_m1] at h160
                        first
                        | contradiction
                        | exact absurd trivial h160
                        | exact absurd h160 (by decide)
                        | exact absurd (Classical.not_not.mp h160) (by decide)
                        | skip
                          refine pr_seq (pc' := 172) 5 rfl ⟨⟨⟨⟨⟨trivial, trivial⟩, trivial⟩, trivial⟩, trivial⟩, trivial⟩ ?_
                          refine pr_ic rfl (fun h172 => ?_) (fun h172 => ?_)
                          · simp only [ab_cmp, pr_8_m2, pr_i_0, pr_i_1, pr_i_m1] at h172
                            first
                            | contradiction
                            | exact absurd trivial h172
                            | exact absurd h172 (by decide)
                            | exact absurd (Classical.not_not.mp h172) (by decide)
                            | skip
                              refine pr_seq (pc' := 183) 3 rfl ⟨⟨⟨trivial, trivial⟩, trivial⟩, (by first | assumption | decide | exact ⟨Or.inl (by assumption), by assumption⟩ | exact ⟨by assumption, by assumption⟩ | omega)⟩ ?_
                              refine pr_cv [] rfl rfl rfl rfl rfl (Nat.le_of_ble_eq_true rfl) (by first | assumption | decide | exact ⟨Or.inl (by assumption), by assumption⟩ | exact ⟨by assumption, by assumption⟩ | omega) (Nat.le_of_ble_eq_true rfl) (hper) ?_
                              refine pr_seq (pc' := 187) 1 rfl ⟨trivial, trivial⟩ ?_
                              refine pr_if rfl (fun h187 => ?_) (fun h187 => ?_)
                              · simp only [ab_cmp, pr_8_m2, pr_i_0, pr_i_1, pr_i_m1] at h187
                                first
                                | contradiction
                                | exact absurd trivial h187
                                | exact absurd h187 (by decide)
                                | exact absurd (Classical.not_not.mp h187) (by decide)
                                | skip
                                  refine pr_seq (pc' := 198) 2 rfl ⟨⟨trivial, trivial⟩, trivial⟩ ?_
                                  exact pr_irM rfl (by rfl) trivial (by rfl)
                              · simp only [ab_cmp, pr_8_m2, pr_i_0, pr_i_1, pr_i_m1] at h187
                                exact absurd (Classical.not_not.mp h187) y0
                          · simp only [ab_cmp, pr_8_m2, pr_i_0, pr_i_1, pr_i_m1] at h172
                            exact absurd e2 h172
        have loop : ∀ dd k, k + dd = X.1.2.1.length → ∀ z6 z7, pr_E pX11_crowd 46 [some (.ref 172), some (.int (nI a)), some (.int y), some (.int (nI (cnt (frs X s) k))), some (.int (pr_b (!nb (x_hl X) k))), some (.int (nI k)), z6, z7] [] h M (some (.int (if nI a = 0 then f_persons X else if y = 0 then (if nb (x_hl X) X.1.2.1.length = true then f_persons X + 1 else f_persons X) else i_min (f_persons X + nI a) (x_pc X s X.1.2.1.length)))) h M := by
          intro dd
          induction dd with
          | zero =>
            intro k hk z6 z7
            obtain rfl : k = X.1.2.1.length := by omega
            have e1 : nI X.1.2.1.length ≤ nI X.1.2.1.length := nI_le (Nat.le_refl _) (by omega)
            refine pr_seq (pc' := 52) 3 rfl ⟨⟨⟨trivial, trivial⟩, (by first | decide | assumption)⟩, (by assumption)⟩ ?_
            try simp (disch := omega) only [l1, rI_mul, nI_add, nI_1, nI_clamp, pr_8_m2, pr_i_0, pr_i_1, pr_i_m1]
            refine pr_ic rfl (fun h52 => ?_) (fun h52 => ?_)
            · simp only [ab_cmp, pr_8_m2, pr_i_0, pr_i_1, pr_i_m1] at h52
              first
              | contradiction
              | exact absurd trivial h52
              | exact absurd h52 (by decide)
              | exact absurd (Classical.not_not.mp h52) (by decide)
              | skip
                exact fin _ _ _
            · simp only [ab_cmp, pr_8_m2, pr_i_0, pr_i_1, pr_i_m1] at h52
              exact absurd e1 h52
          | succ dd ih =>
            intro k hk z6 z7
            have hk2 : k < X.1.2.1.length := by omega
            have e1 : ¬ nI X.1.2.1.length ≤ nI k := nI_ge hk2 (by omega)
            have hls := q_listSum h M hl hv.1 l3 l2 hk2
            have has := q_atSum (nI (x_ls X k)) h M hl hv.1
            rw [hsk] at hls has
            have hm0 : mk (fun q => decide (lK X.1.1 q ≠ 4) && decide (lS X.1.1 q = s k)) X.1.1.2.1.length = 0 ↔ x_hl X k = false := by
              rw [mk_0 _ (by omega), hxh]
              cases nb (fun q => decide (lK X.1.1 q ≠ 4) && decide (lS X.1.1 q = s k)) X.1.1.2.1.length <;> simp
            have inner : ∀ ee i, i + ee = k → ∀ z4, z4 = (nb (x_hl X) k && !x_hl X k) → pr_E pX11_crowd 95 [some (.ref 172), some (.int (nI a)), some (.int y), some (.int (nI (cnt (frs X s) k))), some (.int (pr_b (!z4))), some (.int (nI k)), some (.int (pr_b (!x_hl X k && nb (fun j => decide (s j = s k)) i))), some (.int (nI i))] [] h M (some (.int (if nI a = 0 then f_persons X else if y = 0 then (if nb (x_hl X) X.1.2.1.length = true then f_persons X + 1 else f_persons X) else i_min (f_persons X + nI a) (x_pc X s X.1.2.1.length)))) h M := by
              intro ee
              induction ee with
              | zero =>
                intro i hi z4 hz4
                obtain rfl : i = k := by omega
                have e2 : nI i ≤ nI i := nI_le (Nat.le_refl _) (by omega)
                have hh := ih (i + 1) (by omega) (some (.int (pr_b (!x_hl X i && nb (fun j => decide (s j = s i)) i)))) (some (.int (nI i)))
                rw [show nb (x_hl X) (i + 1) = (nb (x_hl X) i && !x_hl X i) from rfl, ← hz4] at hh
                have e0 : nI (cnt (frs X s) i) + 0 = nI (cnt (frs X s) i) := Int32.add_zero _
                cases cfr : frs X s i with
                | true =>
                  rw [cnt_s1 cfr] at hh
                  rw [hfr] at cfr
                  rw [cfr] at hh ⊢
                  refine pr_seq (pc' := 99) 2 rfl ⟨⟨trivial, trivial⟩, trivial⟩ ?_
                  try simp (disch := omega) only [rI_mul, nI_add, nI_1, nI_clamp, pr_8_m2, pr_i_0, pr_i_1, pr_i_m1]
                  refine pr_ic rfl (fun h99 => ?_) (fun h99 => ?_)
                  · simp only [ab_cmp, pr_8_m2, pr_i_0, pr_i_1, pr_i_m1] at h99
                    first
                    | contradiction
                    | exact absurd trivial h99
                    | exact absurd h99 (by decide)
                    | exact absurd (Classical.not_not.mp h99) (by decide)
                    | skip
                      refine pr_seq (pc' := 138) 2 rfl ⟨⟨trivial, trivial⟩, trivial⟩ ?_
                      try simp (disch := omega) only [rI_mul, nI_add, nI_1, nI_clamp, pr_8_m2, pr_i_0, pr_i_1, pr_i_m1]
                      refine pr_if rfl (fun h138 => ?_) (fun h138 => ?_)
                      · simp only [ab_cmp, pr_8_m2, pr_i_0, pr_i_1, pr_i_m1] at h138
                        exact absurd h138 (by decide)
                      · simp only [ab_cmp, pr_8_m2, pr_i_0, pr_i_1, pr_i_m1] at h138
                        first
                        | contradiction
                        | exact absurd trivial h138
                        | exact absurd h138 (by decide)
                        | exact absurd (Classical.not_not.mp h138) (by decide)
                        | skip
                          refine pr_seq (pc' := 46) 6 rfl ⟨⟨⟨⟨⟨⟨trivial, trivial⟩, trivial⟩, trivial⟩, trivial⟩, trivial⟩, trivial⟩ ?_
                          try simp (disch := omega) only [rI_mul, nI_add, nI_1, nI_clamp, pr_8_m2, pr_i_0, pr_i_1, pr_i_m1]
                          exact hh
                  · simp only [ab_cmp, pr_8_m2, pr_i_0, pr_i_1, pr_i_m1] at h99
                    exact absurd e2 h99
                | false =>
                  rw [cnt_s0 cfr] at hh
                  rw [hfr] at cfr
                  rw [cfr] at hh ⊢
                  refine pr_seq (pc' := 99) 2 rfl ⟨⟨trivial, trivial⟩, trivial⟩ ?_
                  try simp (disch := omega) only [e0, rI_mul, nI_add, nI_1, nI_clamp, pr_8_m2, pr_i_0, pr_i_1, pr_i_m1]
                  refine pr_ic rfl (fun h99 => ?_) (fun h99 => ?_)
                  · simp only [ab_cmp, pr_8_m2, pr_i_0, pr_i_1, pr_i_m1] at h99
                    first
                    | contradiction
                    | exact absurd trivial h99
                    | exact absurd h99 (by decide)
                    | exact absurd (Classical.not_not.mp h99) (by decide)
                    | skip
                      refine pr_seq (pc' := 138) 2 rfl ⟨⟨trivial, trivial⟩, trivial⟩ ?_
                      try simp (disch := omega) only [e0, rI_mul, nI_add, nI_1, nI_clamp, pr_8_m2, pr_i_0, pr_i_1, pr_i_m1]
                      refine pr_if rfl (fun h138 => ?_) (fun h138 => ?_)
                      · simp only [ab_cmp, pr_8_m2, pr_i_0, pr_i_1, pr_i_m1] at h138
                        first
                        | contradiction
                        | exact absurd trivial h138
                        | exact absurd h138 (by decide)
                        | exact absurd (Classical.not_not.mp h138) (by decide)
                        | skip
                          refine pr_seq (pc' := 46) 5 rfl ⟨⟨⟨⟨⟨trivial, trivial⟩, trivial⟩, trivial⟩, trivial⟩, trivial⟩ ?_
                          try simp (disch := omega) only [e0, rI_mul, nI_add, nI_1, nI_clamp, pr_8_m2, pr_i_0, pr_i_1, pr_i_m1]
                          exact hh
                      · simp only [ab_cmp, pr_8_m2, pr_i_0, pr_i_1, pr_i_m1] at h138
                        exact absurd rfl h138
                  · simp only [ab_cmp, pr_8_m2, pr_i_0, pr_i_1, pr_i_m1] at h99
                    exact absurd e2 h99
              | succ ee ih2 =>
                intro i hi z4 hz4
                have e2 : ¬ nI k ≤ nI i := nI_ge (by omega) (by omega)
                have hls2 := q_listSum h M hl hv.1 l3 l2 (show i < X.1.2.1.length by omega)
                rw [hsk] at hls2
                have hh := ih2 (i + 1) (by omega) z4 hz4
                rw [show nb (fun j => decide (s j = s k)) (i + 1) = (nb (fun j => decide (s j = s k)) i && !decide (s i = s k)) from rfl, ← Bool.and_assoc] at hh
                cases cb : (!x_hl X k && nb (fun j => decide (s j = s k)) i) with
                | false =>
                  rw [cb, Bool.false_and] at hh
                  refine pr_seq (pc' := 99) 2 rfl ⟨⟨trivial, trivial⟩, trivial⟩ ?_
                  try simp (disch := omega) only [rI_mul, nI_add, nI_1, nI_clamp, pr_8_m2, pr_i_0, pr_i_1, pr_i_m1]
                  refine pr_ic rfl (fun h99 => ?_) (fun h99 => ?_)
                  · simp only [ab_cmp, pr_8_m2, pr_i_0, pr_i_1, pr_i_m1] at h99
                    exact absurd h99 e2
                  · simp only [ab_cmp, pr_8_m2, pr_i_0, pr_i_1, pr_i_m1] at h99
                    first
                    | contradiction
                    | exact absurd trivial h99
                    | exact absurd h99 (by decide)
                    | exact absurd (Classical.not_not.mp h99) (by decide)
                    | skip
                      refine pr_seq (pc' := 104) 1 rfl ⟨trivial, trivial⟩ ?_
                      try simp (disch := omega) only [rI_mul, nI_add, nI_1, nI_clamp, pr_8_m2, pr_i_0, pr_i_1, pr_i_m1]
                      refine pr_if rfl (fun h104 => ?_) (fun h104 => ?_)
                      · simp only [ab_cmp, pr_8_m2, pr_i_0, pr_i_1, pr_i_m1] at h104
                        first
                        | contradiction
                        | exact absurd trivial h104
                        | exact absurd h104 (by decide)
                        | exact absurd (Classical.not_not.mp h104) (by decide)
                        | skip
                          refine pr_seq (pc' := 95) 4 rfl ⟨⟨⟨⟨trivial, trivial⟩, trivial⟩, trivial⟩, trivial⟩ ?_
                          try simp (disch := omega) only [rI_mul, nI_add, nI_1, nI_clamp, pr_8_m2, pr_i_0, pr_i_1, pr_i_m1]
                          exact hh
                      · simp only [ab_cmp, pr_8_m2, pr_i_0, pr_i_1, pr_i_m1] at h104
                        exact absurd rfl h104
                | true =>
                  rw [cb, Bool.true_and] at hh
                  by_cases cs : s i = s k
                  · rw [decide_eq_true cs] at hh
                    refine pr_seq (pc' := 99) 2 rfl ⟨⟨trivial, trivial⟩, trivial⟩ ?_
                    try simp (disch := omega) only [rI_mul, nI_add, nI_1, nI_clamp, pr_8_m2, pr_i_0, pr_i_1, pr_i_m1]
                    refine pr_ic rfl (fun h99 => ?_) (fun h99 => ?_)
                    · simp only [ab_cmp, pr_8_m2, pr_i_0, pr_i_1, pr_i_m1] at h99
                      exact absurd h99 e2
                    · simp only [ab_cmp, pr_8_m2, pr_i_0, pr_i_1, pr_i_m1] at h99
                      first
                      | contradiction
                      | exact absurd trivial h99
                      | exact absurd h99 (by decide)
                      | exact absurd (Classical.not_not.mp h99) (by decide)
                      | skip
                        refine pr_seq (pc' := 104) 1 rfl ⟨trivial, trivial⟩ ?_
                        try simp (disch := omega) only [rI_mul, nI_add, nI_1, nI_clamp, pr_8_m2, pr_i_0, pr_i_1, pr_i_m1]
                        refine pr_if rfl (fun h104 => ?_) (fun h104 => ?_)
                        · simp only [ab_cmp, pr_8_m2, pr_i_0, pr_i_1, pr_i_m1] at h104
                          exact absurd h104 (by decide)
                        · simp only [ab_cmp, pr_8_m2, pr_i_0, pr_i_1, pr_i_m1] at h104
                          first
                          | contradiction
                          | exact absurd trivial h104
                          | exact absurd h104 (by decide)
                          | exact absurd (Classical.not_not.mp h104) (by decide)
                          | skip
                            refine pr_seq (pc' := 110) 2 rfl ⟨⟨trivial, (by first | decide | assumption)⟩, trivial⟩ ?_
                            try simp (disch := omega) only [rI_mul, nI_add, nI_1, nI_clamp, pr_8_m2, pr_i_0, pr_i_1, pr_i_m1]
                            refine pr_cv [_] rfl rfl rfl rfl rfl (Nat.le_of_ble_eq_true rfl) (by first | assumption | decide | (simp (disch := omega) only [rI_mul, nI_add, nI_1, nI_clamp, pr_8_m2, pr_i_0, pr_i_1, pr_i_m1]; first | assumption | exact ⟨Or.inl (by assumption), rvin (by assumption) (by omega) (by decide)⟩ | exact ⟨by assumption, rvin (by assumption) (by omega) (by decide)⟩ | exact ⟨⟨by omega, by omega⟩, rvin (by assumption) (by omega) (by decide)⟩ | exact ⟨Or.inr (by assumption), rvin (by assumption) (by omega) (by decide)⟩ | exact ⟨Or.inr ⟨by assumption, (by first | exact Or.inl rfl | exact Or.inr rfl | exact pr_b01 _)⟩, rvin (by assumption) (by omega) (by decide)⟩ | exact ⟨by assumption, by assumption⟩ | decide | omega)) (Nat.le_of_ble_eq_true rfl) (hls2) ?_
                            refine pr_seq (pc' := 116) 2 rfl ⟨⟨trivial, (by first | decide | assumption)⟩, trivial⟩ ?_
                            try simp (disch := omega) only [rI_mul, nI_add, nI_1, nI_clamp, pr_8_m2, pr_i_0, pr_i_1, pr_i_m1]
                            refine pr_cv [_] rfl rfl rfl rfl rfl (Nat.le_of_ble_eq_true rfl) (by first | assumption | decide | (simp (disch := omega) only [rI_mul, nI_add, nI_1, nI_clamp, pr_8_m2, pr_i_0, pr_i_1, pr_i_m1]; first | assumption | exact ⟨Or.inl (by assumption), rvin (by assumption) (by omega) (by decide)⟩ | exact ⟨by assumption, rvin (by assumption) (by omega) (by decide)⟩ | exact ⟨⟨by omega, by omega⟩, rvin (by assumption) (by omega) (by decide)⟩ | exact ⟨Or.inr (by assumption), rvin (by assumption) (by omega) (by decide)⟩ | exact ⟨Or.inr ⟨by assumption, (by first | exact Or.inl rfl | exact Or.inr rfl | exact pr_b01 _)⟩, rvin (by assumption) (by omega) (by decide)⟩ | exact ⟨by assumption, by assumption⟩ | decide | omega)) (Nat.le_of_ble_eq_true rfl) (hls) ?_
                            refine pr_ic rfl (fun h119 => ?_) (fun h119 => ?_)
                            · simp only [ab_cmp, pr_8_m2, pr_i_0, pr_i_1, pr_i_m1] at h119
                              first
                              | contradiction
                              | exact absurd trivial h119
                              | exact absurd h119 (by decide)
                              | exact absurd (Classical.not_not.mp h119) (by decide)
                              | skip
                                refine pr_seq (pc' := 95) 4 rfl ⟨⟨⟨⟨trivial, trivial⟩, trivial⟩, trivial⟩, trivial⟩ ?_
                                try simp (disch := omega) only [rI_mul, nI_add, nI_1, nI_clamp, pr_8_m2, pr_i_0, pr_i_1, pr_i_m1]
                                exact hh
                            · simp only [ab_cmp, pr_8_m2, pr_i_0, pr_i_1, pr_i_m1] at h119
                              exact absurd cs h119
                  · rw [decide_eq_false cs] at hh
                    refine pr_seq (pc' := 99) 2 rfl ⟨⟨trivial, trivial⟩, trivial⟩ ?_
                    try simp (disch := omega) only [rI_mul, nI_add, nI_1, nI_clamp, pr_8_m2, pr_i_0, pr_i_1, pr_i_m1]
                    refine pr_ic rfl (fun h99 => ?_) (fun h99 => ?_)
                    · simp only [ab_cmp, pr_8_m2, pr_i_0, pr_i_1, pr_i_m1] at h99
                      exact absurd h99 e2
                    · simp only [ab_cmp, pr_8_m2, pr_i_0, pr_i_1, pr_i_m1] at h99
                      first
                      | contradiction
                      | exact absurd trivial h99
                      | exact absurd h99 (by decide)
                      | exact absurd (Classical.not_not.mp h99) (by decide)
                      | skip
                        refine pr_seq (pc' := 104) 1 rfl ⟨trivial, trivial⟩ ?_
                        try simp (disch := omega) only [rI_mul, nI_add, nI_1, nI_clamp, pr_8_m2, pr_i_0, pr_i_1, pr_i_m1]
                        refine pr_if rfl (fun h104 => ?_) (fun h104 => ?_)
                        · simp only [ab_cmp, pr_8_m2, pr_i_0, pr_i_1, pr_i_m1] at h104
                          exact absurd h104 (by decide)
                        · simp only [ab_cmp, pr_8_m2, pr_i_0, pr_i_1, pr_i_m1] at h104
                          first
                          | contradiction
                          | exact absurd trivial h104
                          | exact absurd h104 (by decide)
                          | exact absurd (Classical.not_not.mp h104) (by decide)
                          | skip
                            refine pr_seq (pc' := 110) 2 rfl ⟨⟨trivial, (by first | decide | assumption)⟩, trivial⟩ ?_
                            try simp (disch := omega) only [rI_mul, nI_add, nI_1, nI_clamp, pr_8_m2, pr_i_0, pr_i_1, pr_i_m1]
                            refine pr_cv [_] rfl rfl rfl rfl rfl (Nat.le_of_ble_eq_true rfl) (by first | assumption | decide | (simp (disch := omega) only [rI_mul, nI_add, nI_1, nI_clamp, pr_8_m2, pr_i_0, pr_i_1, pr_i_m1]; first | assumption | exact ⟨Or.inl (by assumption), rvin (by assumption) (by omega) (by decide)⟩ | exact ⟨by assumption, rvin (by assumption) (by omega) (by decide)⟩ | exact ⟨⟨by omega, by omega⟩, rvin (by assumption) (by omega) (by decide)⟩ | exact ⟨Or.inr (by assumption), rvin (by assumption) (by omega) (by decide)⟩ | exact ⟨Or.inr ⟨by assumption, (by first | exact Or.inl rfl | exact Or.inr rfl | exact pr_b01 _)⟩, rvin (by assumption) (by omega) (by decide)⟩ | exact ⟨by assumption, by assumption⟩ | decide | omega)) (Nat.le_of_ble_eq_true rfl) (hls2) ?_
                            refine pr_seq (pc' := 116) 2 rfl ⟨⟨trivial, (by first | decide | assumption)⟩, trivial⟩ ?_
                            try simp (disch := omega) only [rI_mul, nI_add, nI_1, nI_clamp, pr_8_m2, pr_i_0, pr_i_1, pr_i_m1]
                            refine pr_cv [_] rfl rfl rfl rfl rfl (Nat.le_of_ble_eq_true rfl) (by first | assumption | decide | (simp (disch := omega) only [rI_mul, nI_add, nI_1, nI_clamp, pr_8_m2, pr_i_0, pr_i_1, pr_i_m1]; first | assumption | exact ⟨Or.inl (by assumption), rvin (by assumption) (by omega) (by decide)⟩ | exact ⟨by assumption, rvin (by assumption) (by omega) (by decide)⟩ | exact ⟨⟨by omega, by omega⟩, rvin (by assumption) (by omega) (by decide)⟩ | exact ⟨Or.inr (by assumption), rvin (by assumption) (by omega) (by decide)⟩ | exact ⟨Or.inr ⟨by assumption, (by first | exact Or.inl rfl | exact Or.inr rfl | exact pr_b01 _)⟩, rvin (by assumption) (by omega) (by decide)⟩ | exact ⟨by assumption, by assumption⟩ | decide | omega)) (Nat.le_of_ble_eq_true rfl) (hls) ?_
                            refine pr_ic rfl (fun h119 => ?_) (fun h119 => ?_)
                            · simp only [ab_cmp, pr_8_m2, pr_i_0, pr_i_1, pr_i_m1] at h119
                              exact absurd h119 cs
                            · simp only [ab_cmp, pr_8_m2, pr_i_0, pr_i_1, pr_i_m1] at h119
                              first
                              | contradiction
                              | exact absurd trivial h119
                              | exact absurd h119 (by decide)
                              | exact absurd (Classical.not_not.mp h119) (by decide)
                              | skip
                                refine pr_seq (pc' := 95) 5 rfl ⟨⟨⟨⟨⟨trivial, trivial⟩, trivial⟩, trivial⟩, trivial⟩, trivial⟩ ?_
                                try simp (disch := omega) only [rI_mul, nI_add, nI_1, nI_clamp, pr_8_m2, pr_i_0, pr_i_1, pr_i_m1]
                                exact hh
            have h0 := inner k 0 (by omega) _ rfl
            rw [show nb (fun j => decide (s j = s k)) 0 = true from rfl, Bool.and_true] at h0
            cases cx : x_hl X k with
            | true =>
              have z : ¬ mk (fun q => decide (lK X.1.1 q ≠ 4) && decide (lS X.1.1 q = s k)) X.1.1.2.1.length = 0 := fun q => by rw [hm0.mp q] at cx; cases cx
              rw [cx, show (nb (x_hl X) k && !true) = false by cases nb (x_hl X) k <;> rfl] at h0
              cases cn : nb (x_hl X) k with
              | true =>
                refine pr_seq (pc' := 52) 3 rfl ⟨⟨⟨trivial, trivial⟩, (by first | decide | assumption)⟩, (by assumption)⟩ ?_
                try simp (disch := omega) only [l1, rI_mul, nI_add, nI_1, nI_clamp, pr_8_m2, pr_i_0, pr_i_1, pr_i_m1]
                refine pr_ic rfl (fun h52 => ?_) (fun h52 => ?_)
                · simp only [ab_cmp, pr_8_m2, pr_i_0, pr_i_1, pr_i_m1] at h52
                  exact absurd h52 e1
                · simp only [ab_cmp, pr_8_m2, pr_i_0, pr_i_1, pr_i_m1] at h52
                  first
                  | contradiction
                  | exact absurd trivial h52
                  | exact absurd h52 (by decide)
                  | exact absurd (Classical.not_not.mp h52) (by decide)
                  | skip
                    refine pr_seq (pc' := 59) 3 rfl ⟨⟨⟨trivial, (by first | decide | assumption)⟩, (by first | decide | assumption)⟩, trivial⟩ ?_
                    try simp (disch := omega) only [l1, rI_mul, nI_add, nI_1, nI_clamp, pr_8_m2, pr_i_0, pr_i_1, pr_i_m1]
                    refine pr_cv [_] rfl rfl rfl rfl rfl (Nat.le_of_ble_eq_true rfl) (by first | assumption | decide | (simp (disch := omega) only [l1, rI_mul, nI_add, nI_1, nI_clamp, pr_8_m2, pr_i_0, pr_i_1, pr_i_m1]; first | assumption | exact ⟨Or.inl (by assumption), rvin (by assumption) (by omega) (by decide)⟩ | exact ⟨by assumption, rvin (by assumption) (by omega) (by decide)⟩ | exact ⟨⟨by omega, by omega⟩, rvin (by assumption) (by omega) (by decide)⟩ | exact ⟨Or.inr (by assumption), rvin (by assumption) (by omega) (by decide)⟩ | exact ⟨Or.inr ⟨by assumption, (by first | exact Or.inl rfl | exact Or.inr rfl | exact pr_b01 _)⟩, rvin (by assumption) (by omega) (by decide)⟩ | exact ⟨by assumption, by assumption⟩ | decide | omega)) (Nat.le_of_ble_eq_true rfl) (hls) ?_
                    refine pr_cv [_] rfl rfl rfl rfl rfl (Nat.le_of_ble_eq_true rfl) (by first | assumption | decide | (simp (disch := omega) only [l1, rI_mul, nI_add, nI_1, nI_clamp, pr_8_m2, pr_i_0, pr_i_1, pr_i_m1]; first | assumption | exact ⟨Or.inl (by assumption), rvin (by assumption) (by omega) (by decide)⟩ | exact ⟨by assumption, rvin (by assumption) (by omega) (by decide)⟩ | exact ⟨⟨by omega, by omega⟩, rvin (by assumption) (by omega) (by decide)⟩ | exact ⟨Or.inr (by assumption), rvin (by assumption) (by omega) (by decide)⟩ | exact ⟨Or.inr ⟨by assumption, (by first | exact Or.inl rfl | exact Or.inr rfl | exact pr_b01 _)⟩, rvin (by assumption) (by omega) (by decide)⟩ | exact ⟨by assumption, by assumption⟩ | decide | omega)) (Nat.le_of_ble_eq_true rfl) (has) ?_
                    refine pr_if rfl (fun h65 => ?_) (fun h65 => ?_)
                    · simp only [ab_cmp, pr_8_m2, pr_i_0, pr_i_1, pr_i_m1] at h65
                      first
                      | contradiction
                      | exact absurd trivial h65
                      | exact absurd h65 (by decide)
                      | exact absurd (Classical.not_not.mp h65) (by decide)
                      | skip
                        refine pr_seq (pc' := 77) 3 rfl ⟨⟨⟨trivial, trivial⟩, trivial⟩, trivial⟩ ?_
                        try simp (disch := omega) only [l1, rI_mul, nI_add, nI_1, nI_clamp, pr_8_m2, pr_i_0, pr_i_1, pr_i_m1]
                        refine pr_if rfl (fun h77 => ?_) (fun h77 => ?_)
                        · simp only [ab_cmp, pr_8_m2, pr_i_0, pr_i_1, pr_i_m1] at h77
                          exact absurd rfl h77
                        · simp only [ab_cmp, pr_8_m2, pr_i_0, pr_i_1, pr_i_m1] at h77
                          first
                          | contradiction
                          | exact absurd trivial h77
                          | exact absurd h77 (by decide)
                          | exact absurd (Classical.not_not.mp h77) (by decide)
                          | skip
                            refine pr_seq (pc' := 82) 1 rfl ⟨trivial, trivial⟩ ?_
                            try simp (disch := omega) only [l1, rI_mul, nI_add, nI_1, nI_clamp, pr_8_m2, pr_i_0, pr_i_1, pr_i_m1]
                            refine pr_if rfl (fun h82 => ?_) (fun h82 => ?_)
                            · simp only [ab_cmp, pr_8_m2, pr_i_0, pr_i_1, pr_i_m1] at h82
                              exact absurd trivial h82
                            · simp only [ab_cmp, pr_8_m2, pr_i_0, pr_i_1, pr_i_m1] at h82
                              first
                              | contradiction
                              | exact absurd trivial h82
                              | exact absurd h82 (by decide)
                              | exact absurd (Classical.not_not.mp h82) (by decide)
                              | skip
                                refine pr_seq (pc' := 95) 5 rfl ⟨⟨⟨⟨⟨trivial, trivial⟩, trivial⟩, trivial⟩, trivial⟩, trivial⟩ ?_
                                try simp (disch := omega) only [l1, rI_mul, nI_add, nI_1, nI_clamp, pr_8_m2, pr_i_0, pr_i_1, pr_i_m1]
                                exact h0
                    · simp only [ab_cmp, pr_8_m2, pr_i_0, pr_i_1, pr_i_m1] at h65
                      exact absurd (Classical.not_not.mp h65) z
              | false =>
                refine pr_seq (pc' := 52) 3 rfl ⟨⟨⟨trivial, trivial⟩, (by first | decide | assumption)⟩, (by assumption)⟩ ?_
                try simp (disch := omega) only [l1, rI_mul, nI_add, nI_1, nI_clamp, pr_8_m2, pr_i_0, pr_i_1, pr_i_m1]
                refine pr_ic rfl (fun h52 => ?_) (fun h52 => ?_)
                · simp only [ab_cmp, pr_8_m2, pr_i_0, pr_i_1, pr_i_m1] at h52
                  exact absurd h52 e1
                · simp only [ab_cmp, pr_8_m2, pr_i_0, pr_i_1, pr_i_m1] at h52
                  first
                  | contradiction
                  | exact absurd trivial h52
                  | exact absurd h52 (by decide)
                  | exact absurd (Classical.not_not.mp h52) (by decide)
                  | skip
                    refine pr_seq (pc' := 59) 3 rfl ⟨⟨⟨trivial, (by first | decide | assumption)⟩, (by first | decide | assumption)⟩, trivial⟩ ?_
                    try simp (disch := omega) only [l1, rI_mul, nI_add, nI_1, nI_clamp, pr_8_m2, pr_i_0, pr_i_1, pr_i_m1]
                    refine pr_cv [_] rfl rfl rfl rfl rfl (Nat.le_of_ble_eq_true rfl) (by first | assumption | decide | (simp (disch := omega) only [l1, rI_mul, nI_add, nI_1, nI_clamp, pr_8_m2, pr_i_0, pr_i_1, pr_i_m1]; first | assumption | exact ⟨Or.inl (by assumption), rvin (by assumption) (by omega) (by decide)⟩ | exact ⟨by assumption, rvin (by assumption) (by omega) (by decide)⟩ | exact ⟨⟨by omega, by omega⟩, rvin (by assumption) (by omega) (by decide)⟩ | exact ⟨Or.inr (by assumption), rvin (by assumption) (by omega) (by decide)⟩ | exact ⟨Or.inr ⟨by assumption, (by first | exact Or.inl rfl | exact Or.inr rfl | exact pr_b01 _)⟩, rvin (by assumption) (by omega) (by decide)⟩ | exact ⟨by assumption, by assumption⟩ | decide | omega)) (Nat.le_of_ble_eq_true rfl) (hls) ?_
                    refine pr_cv [_] rfl rfl rfl rfl rfl (Nat.le_of_ble_eq_true rfl) (by first | assumption | decide | (simp (disch := omega) only [l1, rI_mul, nI_add, nI_1, nI_clamp, pr_8_m2, pr_i_0, pr_i_1, pr_i_m1]; first | assumption | exact ⟨Or.inl (by assumption), rvin (by assumption) (by omega) (by decide)⟩ | exact ⟨by assumption, rvin (by assumption) (by omega) (by decide)⟩ | exact ⟨⟨by omega, by omega⟩, rvin (by assumption) (by omega) (by decide)⟩ | exact ⟨Or.inr (by assumption), rvin (by assumption) (by omega) (by decide)⟩ | exact ⟨Or.inr ⟨by assumption, (by first | exact Or.inl rfl | exact Or.inr rfl | exact pr_b01 _)⟩, rvin (by assumption) (by omega) (by decide)⟩ | exact ⟨by assumption, by assumption⟩ | decide | omega)) (Nat.le_of_ble_eq_true rfl) (has) ?_
                    refine pr_if rfl (fun h65 => ?_) (fun h65 => ?_)
                    · simp only [ab_cmp, pr_8_m2, pr_i_0, pr_i_1, pr_i_m1] at h65
                      first
                      | contradiction
                      | exact absurd trivial h65
                      | exact absurd h65 (by decide)
                      | exact absurd (Classical.not_not.mp h65) (by decide)
                      | skip
                        refine pr_seq (pc' := 77) 3 rfl ⟨⟨⟨trivial, trivial⟩, trivial⟩, trivial⟩ ?_
                        try simp (disch := omega) only [l1, rI_mul, nI_add, nI_1, nI_clamp, pr_8_m2, pr_i_0, pr_i_1, pr_i_m1]
                        refine pr_if rfl (fun h77 => ?_) (fun h77 => ?_)
                        · simp only [ab_cmp, pr_8_m2, pr_i_0, pr_i_1, pr_i_m1] at h77
                          first
                          | contradiction
                          | exact absurd trivial h77
                          | exact absurd h77 (by decide)
                          | exact absurd (Classical.not_not.mp h77) (by decide)
                          | skip
                            refine pr_seq (pc' := 95) 5 rfl ⟨⟨⟨⟨⟨trivial, trivial⟩, trivial⟩, trivial⟩, trivial⟩, trivial⟩ ?_
                            try simp (disch := omega) only [l1, rI_mul, nI_add, nI_1, nI_clamp, pr_8_m2, pr_i_0, pr_i_1, pr_i_m1]
                            exact h0
                        · simp only [ab_cmp, pr_8_m2, pr_i_0, pr_i_1, pr_i_m1] at h77
                          exact absurd (Classical.not_not.mp h77) (by decide)
                    · simp only [ab_cmp, pr_8_m2, pr_i_0, pr_i_1, pr_i_m1] at h65
                      exact absurd (Classical.not_not.mp h65) z
            | false =>
              have z := hm0.mpr cx
              rw [cx, Bool.not_false, Bool.and_true] at h0
              cases cn : nb (x_hl X) k with
              | true =>
                rw [cn] at h0
                refine pr_seq (pc' := 52) 3 rfl ⟨⟨⟨trivial, trivial⟩, (by first | decide | assumption)⟩, (by assumption)⟩ ?_
                try simp (disch := omega) only [l1, rI_mul, nI_add, nI_1, nI_clamp, pr_8_m2, pr_i_0, pr_i_1, pr_i_m1]
                refine pr_ic rfl (fun h52 => ?_) (fun h52 => ?_)
                · simp only [ab_cmp, pr_8_m2, pr_i_0, pr_i_1, pr_i_m1] at h52
                  exact absurd h52 e1
                · simp only [ab_cmp, pr_8_m2, pr_i_0, pr_i_1, pr_i_m1] at h52
                  first
                  | contradiction
                  | exact absurd trivial h52
                  | exact absurd h52 (by decide)
                  | exact absurd (Classical.not_not.mp h52) (by decide)
                  | skip
                    refine pr_seq (pc' := 59) 3 rfl ⟨⟨⟨trivial, (by first | decide | assumption)⟩, (by first | decide | assumption)⟩, trivial⟩ ?_
                    try simp (disch := omega) only [l1, rI_mul, nI_add, nI_1, nI_clamp, pr_8_m2, pr_i_0, pr_i_1, pr_i_m1]
                    refine pr_cv [_] rfl rfl rfl rfl rfl (Nat.le_of_ble_eq_true rfl) (by first | assumption | decide | (simp (disch := omega) only [l1, rI_mul, nI_add, nI_1, nI_clamp, pr_8_m2, pr_i_0, pr_i_1, pr_i_m1]; first | assumption | exact ⟨Or.inl (by assumption), rvin (by assumption) (by omega) (by decide)⟩ | exact ⟨by assumption, rvin (by assumption) (by omega) (by decide)⟩ | exact ⟨⟨by omega, by omega⟩, rvin (by assumption) (by omega) (by decide)⟩ | exact ⟨Or.inr (by assumption), rvin (by assumption) (by omega) (by decide)⟩ | exact ⟨Or.inr ⟨by assumption, (by first | exact Or.inl rfl | exact Or.inr rfl | exact pr_b01 _)⟩, rvin (by assumption) (by omega) (by decide)⟩ | exact ⟨by assumption, by assumption⟩ | decide | omega)) (Nat.le_of_ble_eq_true rfl) (hls) ?_
                    refine pr_cv [_] rfl rfl rfl rfl rfl (Nat.le_of_ble_eq_true rfl) (by first | assumption | decide | (simp (disch := omega) only [l1, rI_mul, nI_add, nI_1, nI_clamp, pr_8_m2, pr_i_0, pr_i_1, pr_i_m1]; first | assumption | exact ⟨Or.inl (by assumption), rvin (by assumption) (by omega) (by decide)⟩ | exact ⟨by assumption, rvin (by assumption) (by omega) (by decide)⟩ | exact ⟨⟨by omega, by omega⟩, rvin (by assumption) (by omega) (by decide)⟩ | exact ⟨Or.inr (by assumption), rvin (by assumption) (by omega) (by decide)⟩ | exact ⟨Or.inr ⟨by assumption, (by first | exact Or.inl rfl | exact Or.inr rfl | exact pr_b01 _)⟩, rvin (by assumption) (by omega) (by decide)⟩ | exact ⟨by assumption, by assumption⟩ | decide | omega)) (Nat.le_of_ble_eq_true rfl) (has) ?_
                    refine pr_if rfl (fun h65 => ?_) (fun h65 => ?_)
                    · simp only [ab_cmp, pr_8_m2, pr_i_0, pr_i_1, pr_i_m1] at h65
                      exact absurd z h65
                    · simp only [ab_cmp, pr_8_m2, pr_i_0, pr_i_1, pr_i_m1] at h65
                      first
                      | contradiction
                      | exact absurd trivial h65
                      | exact absurd h65 (by decide)
                      | exact absurd (Classical.not_not.mp h65) (by decide)
                      | skip
                        refine pr_seq (pc' := 77) 4 rfl ⟨⟨⟨⟨trivial, trivial⟩, trivial⟩, trivial⟩, trivial⟩ ?_
                        try simp (disch := omega) only [l1, rI_mul, nI_add, nI_1, nI_clamp, pr_8_m2, pr_i_0, pr_i_1, pr_i_m1]
                        refine pr_if rfl (fun h77 => ?_) (fun h77 => ?_)
                        · simp only [ab_cmp, pr_8_m2, pr_i_0, pr_i_1, pr_i_m1] at h77
                          exact absurd rfl h77
                        · simp only [ab_cmp, pr_8_m2, pr_i_0, pr_i_1, pr_i_m1] at h77
                          first
                          | contradiction
                          | exact absurd trivial h77
                          | exact absurd h77 (by decide)
                          | exact absurd (Classical.not_not.mp h77) (by decide)
                          | skip
                            refine pr_seq (pc' := 82) 1 rfl ⟨trivial, trivial⟩ ?_
                            try simp (disch := omega) only [l1, rI_mul, nI_add, nI_1, nI_clamp, pr_8_m2, pr_i_0, pr_i_1, pr_i_m1]
                            refine pr_if rfl (fun h82 => ?_) (fun h82 => ?_)
                            · simp only [ab_cmp, pr_8_m2, pr_i_0, pr_i_1, pr_i_m1] at h82
                              first
                              | contradiction
                              | exact absurd trivial h82
                              | exact absurd h82 (by decide)
                              | exact absurd (Classical.not_not.mp h82) (by decide)
                              | skip
                                refine pr_seq (pc' := 95) 4 rfl ⟨⟨⟨⟨trivial, trivial⟩, trivial⟩, trivial⟩, trivial⟩ ?_
                                try simp (disch := omega) only [l1, rI_mul, nI_add, nI_1, nI_clamp, pr_8_m2, pr_i_0, pr_i_1, pr_i_m1]
                                exact h0
                            · simp only [ab_cmp, pr_8_m2, pr_i_0, pr_i_1, pr_i_m1] at h82
                              exact absurd (Classical.not_not.mp h82) (by decide)
              | false =>
                rw [cn] at h0
                refine pr_seq (pc' := 52) 3 rfl ⟨⟨⟨trivial, trivial⟩, (by first | decide | assumption)⟩, (by assumption)⟩ ?_
                try simp (disch := omega) only [l1, rI_mul, nI_add, nI_1, nI_clamp, pr_8_m2, pr_i_0, pr_i_1, pr_i_m1]
                refine pr_ic rfl (fun h52 => ?_) (fun h52 => ?_)
                · simp only [ab_cmp, pr_8_m2, pr_i_0, pr_i_1, pr_i_m1] at h52
                  exact absurd h52 e1
                · simp only [ab_cmp, pr_8_m2, pr_i_0, pr_i_1, pr_i_m1] at h52
                  first
                  | contradiction
                  | exact absurd trivial h52
                  | exact absurd h52 (by decide)
                  | exact absurd (Classical.not_not.mp h52) (by decide)
                  | skip
                    refine pr_seq (pc' := 59) 3 rfl ⟨⟨⟨trivial, (by first | decide | assumption)⟩, (by first | decide | assumption)⟩, trivial⟩ ?_
                    try simp (disch := omega) only [l1, rI_mul, nI_add, nI_1, nI_clamp, pr_8_m2, pr_i_0, pr_i_1, pr_i_m1]
                    refine pr_cv [_] rfl rfl rfl rfl rfl (Nat.le_of_ble_eq_true rfl) (by first | assumption | decide | (simp (disch := omega) only [l1, rI_mul, nI_add, nI_1, nI_clamp, pr_8_m2, pr_i_0, pr_i_1, pr_i_m1]; first | assumption | exact ⟨Or.inl (by assumption), rvin (by assumption) (by omega) (by decide)⟩ | exact ⟨by assumption, rvin (by assumption) (by omega) (by decide)⟩ | exact ⟨⟨by omega, by omega⟩, rvin (by assumption) (by omega) (by decide)⟩ | exact ⟨Or.inr (by assumption), rvin (by assumption) (by omega) (by decide)⟩ | exact ⟨Or.inr ⟨by assumption, (by first | exact Or.inl rfl | exact Or.inr rfl | exact pr_b01 _)⟩, rvin (by assumption) (by omega) (by decide)⟩ | exact ⟨by assumption, by assumption⟩ | decide | omega)) (Nat.le_of_ble_eq_true rfl) (hls) ?_
                    refine pr_cv [_] rfl rfl rfl rfl rfl (Nat.le_of_ble_eq_true rfl) (by first | assumption | decide | (simp (disch := omega) only [l1, rI_mul, nI_add, nI_1, nI_clamp, pr_8_m2, pr_i_0, pr_i_1, pr_i_m1]; first | assumption | exact ⟨Or.inl (by assumption), rvin (by assumption) (by omega) (by decide)⟩ | exact ⟨by assumption, rvin (by assumption) (by omega) (by decide)⟩ | exact ⟨⟨by omega, by omega⟩, rvin (by assumption) (by omega) (by decide)⟩ | exact ⟨Or.inr (by assumption), rvin (by assumption) (by omega) (by decide)⟩ | exact ⟨Or.inr ⟨by assumption, (by first | exact Or.inl rfl | exact Or.inr rfl | exact pr_b01 _)⟩, rvin (by assumption) (by omega) (by decide)⟩ | exact ⟨by assumption, by assumption⟩ | decide | omega)) (Nat.le_of_ble_eq_true rfl) (has) ?_
                    refine pr_if rfl (fun h65 => ?_) (fun h65 => ?_)
                    · simp only [ab_cmp, pr_8_m2, pr_i_0, pr_i_1, pr_i_m1] at h65
                      exact absurd z h65
                    · simp only [ab_cmp, pr_8_m2, pr_i_0, pr_i_1, pr_i_m1] at h65
                      first
                      | contradiction
                      | exact absurd trivial h65
                      | exact absurd h65 (by decide)
                      | exact absurd (Classical.not_not.mp h65) (by decide)
                      | skip
                        refine pr_seq (pc' := 77) 4 rfl ⟨⟨⟨⟨trivial, trivial⟩, trivial⟩, trivial⟩, trivial⟩ ?_
                        try simp (disch := omega) only [l1, rI_mul, nI_add, nI_1, nI_clamp, pr_8_m2, pr_i_0, pr_i_1, pr_i_m1]
                        refine pr_if rfl (fun h77 => ?_) (fun h77 => ?_)
                        · simp only [ab_cmp, pr_8_m2, pr_i_0, pr_i_1, pr_i_m1] at h77
                          first
                          | contradiction
                          | exact absurd trivial h77
                          | exact absurd h77 (by decide)
                          | exact absurd (Classical.not_not.mp h77) (by decide)
                          | skip
                            refine pr_seq (pc' := 95) 5 rfl ⟨⟨⟨⟨⟨trivial, trivial⟩, trivial⟩, trivial⟩, trivial⟩, trivial⟩ ?_
                            try simp (disch := omega) only [l1, rI_mul, nI_add, nI_1, nI_clamp, pr_8_m2, pr_i_0, pr_i_1, pr_i_m1]
                            exact h0
                        · simp only [ab_cmp, pr_8_m2, pr_i_0, pr_i_1, pr_i_m1] at h77
                          exact absurd (Classical.not_not.mp h77) (by decide)
        have h0 := loop X.1.2.1.length 0 (by omega) none none
        by_cases az : a = 0
        · have e1 : nI a ≤ 0 := a0.mpr az
          refine pr_seq (pc' := 6) 4 rfl ⟨⟨⟨⟨trivial, trivial⟩, trivial⟩, trivial⟩, trivial⟩ ?_
          try simp (disch := omega) only [rI_mul, nI_add, nI_1, nI_clamp, pr_8_m2, pr_i_0, pr_i_1, pr_i_m1]
          refine pr_cs [_, _, _] rfl rfl rfl rfl rfl (Nat.le_of_ble_eq_true rfl) (Nat.le_of_ble_eq_true rfl) (h1) ?_
          refine pr_if rfl (fun h9 => ?_) (fun h9 => ?_)
          · simp only [ab_cmp, pr_8_m2, pr_i_0, pr_i_1, pr_i_m1] at h9
            exact absurd h9 (by decide)
          · simp only [ab_cmp, pr_8_m2, pr_i_0, pr_i_1, pr_i_m1] at h9
            first
            | contradiction
            | exact absurd trivial h9
            | exact absurd h9 (by decide)
            | exact absurd (Classical.not_not.mp h9) (by decide)
            | skip
              refine pr_seq (pc' := 16) 4 rfl ⟨⟨⟨⟨trivial, trivial⟩, trivial⟩, trivial⟩, trivial⟩ ?_
              try simp (disch := omega) only [rI_mul, nI_add, nI_1, nI_clamp, pr_8_m2, pr_i_0, pr_i_1, pr_i_m1]
              refine pr_cs [_, _, _] rfl rfl rfl rfl rfl (Nat.le_of_ble_eq_true rfl) (Nat.le_of_ble_eq_true rfl) (h2) ?_
              refine pr_if rfl (fun h19 => ?_) (fun h19 => ?_)
              · simp only [ab_cmp, pr_8_m2, pr_i_0, pr_i_1, pr_i_m1] at h19
                first
                | contradiction
                | exact absurd trivial h19
                | exact absurd h19 (by decide)
                | exact absurd (Classical.not_not.mp h19) (by decide)
                | skip
                  refine pr_seq (pc' := 25) 1 rfl ⟨trivial, trivial⟩ ?_
                  try simp (disch := omega) only [rI_mul, nI_add, nI_1, nI_clamp, pr_8_m2, pr_i_0, pr_i_1, pr_i_m1]
                  refine pr_if rfl (fun h25 => ?_) (fun h25 => ?_)
                  · simp only [ab_cmp, pr_8_m2, pr_i_0, pr_i_1, pr_i_m1] at h25
                    first
                    | contradiction
                    | exact absurd trivial h25
                    | exact absurd h25 (by decide)
                    | exact absurd (Classical.not_not.mp h25) (by decide)
                    | skip
                      refine pr_seq (pc' := 46) 6 rfl ⟨⟨⟨⟨⟨⟨trivial, trivial⟩, trivial⟩, trivial⟩, trivial⟩, trivial⟩, trivial⟩ ?_
                      try simp (disch := omega) only [rI_mul, nI_add, nI_1, nI_clamp, pr_8_m2, pr_i_0, pr_i_1, pr_i_m1]
                      exact h0
                  · simp only [ab_cmp, pr_8_m2, pr_i_0, pr_i_1, pr_i_m1] at h25
                    exact absurd e1 h25
              · simp only [ab_cmp, pr_8_m2, pr_i_0, pr_i_1, pr_i_m1] at h19
                exact absurd (Classical.not_not.mp h19) (by decide)
        · have e1 : ¬ nI a ≤ 0 := fun q => az (a0.mp q)
          have e2 : ¬ nI X.1.2.1.length = 0 := nI_ne0 (Nat.pos_of_ne_zero (fun q => c0 ⟨az, q⟩)) (by omega)
          refine pr_seq (pc' := 6) 4 rfl ⟨⟨⟨⟨trivial, trivial⟩, trivial⟩, trivial⟩, trivial⟩ ?_
          try simp (disch := omega) only [l1, rI_mul, nI_add, nI_1, nI_clamp, pr_8_m2, pr_i_0, pr_i_1, pr_i_m1]
          refine pr_cs [_, _, _] rfl rfl rfl rfl rfl (Nat.le_of_ble_eq_true rfl) (Nat.le_of_ble_eq_true rfl) (h1) ?_
          refine pr_if rfl (fun h9 => ?_) (fun h9 => ?_)
          · simp only [ab_cmp, pr_8_m2, pr_i_0, pr_i_1, pr_i_m1] at h9
            exact absurd h9 (by decide)
          · simp only [ab_cmp, pr_8_m2, pr_i_0, pr_i_1, pr_i_m1] at h9
            first
            | contradiction
            | exact absurd trivial h9
            | exact absurd h9 (by decide)
            | exact absurd (Classical.not_not.mp h9) (by decide)
            | skip
              refine pr_seq (pc' := 16) 4 rfl ⟨⟨⟨⟨trivial, trivial⟩, trivial⟩, trivial⟩, trivial⟩ ?_
              try simp (disch := omega) only [l1, rI_mul, nI_add, nI_1, nI_clamp, pr_8_m2, pr_i_0, pr_i_1, pr_i_m1]
              refine pr_cs [_, _, _] rfl rfl rfl rfl rfl (Nat.le_of_ble_eq_true rfl) (Nat.le_of_ble_eq_true rfl) (h2) ?_
              refine pr_if rfl (fun h19 => ?_) (fun h19 => ?_)
              · simp only [ab_cmp, pr_8_m2, pr_i_0, pr_i_1, pr_i_m1] at h19
                first
                | contradiction
                | exact absurd trivial h19
                | exact absurd h19 (by decide)
                | exact absurd (Classical.not_not.mp h19) (by decide)
                | skip
                  refine pr_seq (pc' := 25) 1 rfl ⟨trivial, trivial⟩ ?_
                  try simp (disch := omega) only [l1, rI_mul, nI_add, nI_1, nI_clamp, pr_8_m2, pr_i_0, pr_i_1, pr_i_m1]
                  refine pr_if rfl (fun h25 => ?_) (fun h25 => ?_)
                  · simp only [ab_cmp, pr_8_m2, pr_i_0, pr_i_1, pr_i_m1] at h25
                    exact absurd h25 e1
                  · simp only [ab_cmp, pr_8_m2, pr_i_0, pr_i_1, pr_i_m1] at h25
                    first
                    | contradiction
                    | exact absurd trivial h25
                    | exact absurd h25 (by decide)
                    | exact absurd (Classical.not_not.mp h25) (by decide)
                    | skip
                      refine pr_seq (pc' := 32) 2 rfl ⟨⟨trivial, (by first | decide | assumption)⟩, (by assumption)⟩ ?_
                      try simp (disch := omega) only [l1, rI_mul, nI_add, nI_1, nI_clamp, pr_8_m2, pr_i_0, pr_i_1, pr_i_m1]
                      refine pr_if rfl (fun h32 => ?_) (fun h32 => ?_)
                      · simp only [ab_cmp, pr_8_m2, pr_i_0, pr_i_1, pr_i_m1] at h32
                        first
                        | contradiction
                        | exact absurd trivial h32
                        | exact absurd h32 (by decide)
                        | exact absurd (Classical.not_not.mp h32) (by decide)
                        | skip
                          refine pr_seq (pc' := 46) 6 rfl ⟨⟨⟨⟨⟨⟨trivial, trivial⟩, trivial⟩, trivial⟩, trivial⟩, trivial⟩, trivial⟩ ?_
                          try simp (disch := omega) only [l1, rI_mul, nI_add, nI_1, nI_clamp, pr_8_m2, pr_i_0, pr_i_1, pr_i_m1]
                          exact h0
                      · simp only [ab_cmp, pr_8_m2, pr_i_0, pr_i_1, pr_i_m1] at h32
                        exact absurd (Classical.not_not.mp h32) e2
              · simp only [ab_cmp, pr_8_m2, pr_i_0, pr_i_1, pr_i_m1] at h19
                exact absurd (Classical.not_not.mp h19) (by decide)
