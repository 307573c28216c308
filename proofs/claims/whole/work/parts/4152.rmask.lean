
/-! ===== masks; persons as the reference finds them ===== -/
theorem i_shr {x k : Nat} (hx : x < 2 ^ 31) (hk : k < 32) : nI x >>> (nI k &&& 31) = nI (x / 2 ^ k) := by
  have e : ∀ m : Fin 32, nI m.val &&& 31 = nI m.val := by decide
  rw [e ⟨k, hk⟩]
  apply Int32.toBitVec_inj.mp
  show (BitVec.ofNat 32 x).sshiftRight' ((BitVec.ofNat 32 k).smod 32#32) = BitVec.ofNat 32 (x / 2 ^ k)
  have hk2 : (BitVec.ofNat 32 k).smod 32#32 = BitVec.ofNat 32 k := by
    have : ∀ m : Fin 32, (BitVec.ofNat 32 m.val).smod 32#32 = BitVec.ofNat 32 m.val := by decide
    exact this ⟨k, hk⟩
  rw [hk2]
  show (BitVec.ofNat 32 x).sshiftRight (BitVec.ofNat 32 k).toNat = _
  have msb : (BitVec.ofNat 32 x).msb = false := by
    rw [BitVec.msb_eq_false_iff_two_mul_lt, BitVec.toNat_ofNat, Nat.mod_eq_of_lt (by omega)]
    omega
  rw [BitVec.sshiftRight_eq_of_msb_false msb]
  apply BitVec.eq_of_toNat_eq
  have hd : x / 2 ^ k < 2 ^ 32 := Nat.lt_of_le_of_lt (Nat.div_le_self _ _) (by omega)
  rw [BitVec.toNat_ushiftRight, BitVec.toNat_ofNat, BitVec.toNat_ofNat, BitVec.toNat_ofNat, Nat.mod_eq_of_lt (show x < 2 ^ 32 by omega), Nat.mod_eq_of_lt (show k < 2 ^ 32 by omega), Nat.shiftRight_eq_div_pow, Nat.mod_eq_of_lt hd]
theorem bs_tb (f : Nat → Bool) (n i : Nat) : (bs f n).testBit i = (decide (i < n) && f i) := by
  by_cases h : i < n
  · rw [Nat.testBit_eq_decide_div_mod_eq, bs_bit f i n h, decide_eq_true h]
    cases f i <;> rfl
  · rw [decide_eq_false h, Bool.false_and]
    exact Nat.testBit_lt_two_pow (Nat.lt_of_lt_of_le (bs_lt f n) (Nat.pow_le_pow_right (by decide) (by omega)))
theorem bs_and (f g : Nat → Bool) (n : Nat) : bs f n &&& bs g n = bs (fun i => f i && g i) n := Nat.eq_of_testBit_eq (fun i => by
  rw [Nat.testBit_and, bs_tb, bs_tb, bs_tb]
  cases decide (i < n) <;> simp)
theorem mk_and (f g : Nat → Bool) {n : Nat} (hn : n ≤ 32) : mk f n &&& mk g n = mk (fun i => f i && g i) n := by
  rw [mk_bs f n hn, mk_bs g n hn, i_and, bs_and, mk_bs _ n hn]
theorem mk_congr {f g : Nat → Bool} : ∀ n, (∀ i, i < n → f i = g i) → mk f n = mk g n
  | 0, _ => rfl
  | n + 1, h => by
    have ih := mk_congr n (fun i hi => h i (by omega))
    cases hf : f n with
    | true => rw [mk_s1 hf, mk_s1 (by rw [← h n (by omega)]; exact hf), ih]
    | false => rw [mk_s0 hf, mk_s0 (by rw [← h n (by omega)]; exact hf), ih]
theorem bs_0 (f : Nat → Bool) : ∀ n, bs f n = 0 ↔ nb f n = true
  | 0 => ⟨fun _ => rfl, fun _ => rfl⟩
  | n + 1 => by
    have ih := bs_0 f n
    show bs f n + (if f n then 2 ^ n else 0) = 0 ↔ (nb f n && !f n) = true
    have := Nat.two_pow_pos n
    cases f n with
    | true => simp only [if_true, Bool.not_true, Bool.and_false]; constructor <;> intro q <;> first | omega | cases q
    | false => simp only [Bool.false_eq_true, if_false, Nat.add_zero, Bool.not_false, Bool.and_true]; exact ih
theorem bs_31 (f : Nat → Bool) {n : Nat} (hn : n ≤ 31) : bs f n < 2 ^ 31 := Nat.lt_of_lt_of_le (bs_lt f n) (Nat.pow_le_pow_right (by decide) hn)
theorem mk_0 (f : Nat → Bool) {n : Nat} (hn : n ≤ 31) : mk f n = 0 ↔ nb f n = true := by
  rw [mk_bs f n (by omega), show (0 : Int32) = nI 0 from rfl, nI_eq (bs_31 f hn) (by decide)]
  exact bs_0 f n
theorem bs_mod (f : Nat → Bool) {n p : Nat} (h : p ≤ n) : bs f n % 2 ^ p = bs f p := Nat.eq_of_testBit_eq (fun i => by
  rw [Nat.testBit_mod_two_pow, bs_tb, bs_tb]
  by_cases q : i < p
  · rw [decide_eq_true q, decide_eq_true (show i < n by omega), Bool.true_and]
  · rw [decide_eq_false q, Bool.false_and, Bool.false_and])
theorem mk_low (f : Nat → Bool) {n p : Nat} (hn : n ≤ 31) (h : p ≤ n) : mk f n &&& (bt1 p - 1) = 0 ↔ nb f p = true := by
  have e : bt1 p - 1 = nI (2 ^ p - 1) := by
    show (1 : Int32) <<< (nI p &&& 31) - 1 = _
    rw [i_bit p (by omega)]
    exact i_sub (b := 1) (Nat.two_pow_pos p)
  rw [e, mk_bs f n (by omega), i_and, Nat.and_two_pow_sub_one_eq_mod, bs_mod f h, show (0 : Int32) = nI 0 from rfl, nI_eq (bs_31 f (by omega)) (by decide)]
  exact bs_0 f p
theorem nI_and1 (x : Nat) : nI x &&& 1 = nI (x % 2) := by
  show nI x &&& nI 1 = _
  rw [i_and, Nat.and_one_is_mod]
theorem mk_bit (f : Nat → Bool) {n p : Nat} (hn : n ≤ 31) (h : p < n) : (mk f n >>> (nI p &&& 31)) &&& 1 = nI (f p).toNat := by
  rw [mk_bs f n (by omega), i_shr (bs_31 f hn) (by omega), nI_and1, bs_bit f p n h]
  cases f p <;> rfl
/-- a mask and one bit more -/
def mo (f : Nat → Bool) (p n : Nat) : Int32 := mk f n ||| bt1 p
theorem mo_0 (f : Nat → Bool) (p : Nat) : mo f p 0 = bt1 p := Int32.zero_or
theorem mo_1 {f : Nat → Bool} {p k : Nat} (h : f k = true) : mo f p k ||| bt1 k = mo f p (k + 1) := by
  unfold mo
  rw [mk_s1 h, Int32.or_assoc, Int32.or_assoc, Int32.or_comm (bt1 p) (bt1 k)]
theorem mo_2 {f : Nat → Bool} {p k : Nat} (h : f k = false) : mo f p k ||| 0 = mo f p (k + 1) := by
  unfold mo
  rw [mk_s0 h, Int32.or_zero]
theorem mo_mk (f : Nat → Bool) (p : Nat) : ∀ n, p < n → mo f p n = mk (fun q => f q || decide (p = q)) n := by
  intro n
  induction n with
  | zero => intro h; omega
  | succ n ih =>
    intro h
    by_cases e : p = n
    · subst e
      have e1 : mk (fun q => f q || decide (p = q)) p = mk f p := mk_congr p (fun i hi => by rw [decide_eq_false (show ¬ p = i by omega), Bool.or_false])
      rw [mk_s1 (f := fun q => f q || decide (p = q)) (by simp), e1]
      unfold mo
      cases hf : f p with
      | true => rw [mk_s1 hf, Int32.or_assoc, Int32.or_self]
      | false => rw [mk_s0 hf]
    · have ih := ih (by omega)
      cases hf : f n with
      | true => rw [← mo_1 hf, ih, mk_s1 (f := fun q => f q || decide (p = q)) (n := n) (by simp [hf])]
      | false => rw [← mo_2 hf, ih, mk_s0 (f := fun q => f q || decide (p = q)) (n := n) (by simp [hf, e]), Int32.or_zero]
theorem mk_none : ∀ n, mk (fun _ => false) n = 0
  | 0 => rfl
  | n + 1 => by rw [mk_s0 rfl]; exact mk_none n
abbrev lS (d : Ld) : Nat → Int32 := fun p => nI (d_S d p)
abbrev lK (d : Ld) : Nat → Nat := fun p => (d_pn d p).1
abbrev lD (d : Ld) : Nat → Nat := fun p => (d_pn d p).2.1
abbrev lW (d : Ld) : Nat → Nat := fun p => (d_pn d p).2.2.1
abbrev lal (d : Ld) (p : Nat) : Nat → Bool := al (lS d) (lK d) p
theorem q_personOf {d : Ld} {p : Nat} (h : ab_H) (M : ab_M) (hl : rL h M.2.2) (hv : pg_r (M.1 173) d) (hp : p < d.2.1.length) : pr_C pX11_personOf [.ref 172, .int (nI p)] h M (some (.int (mk (lal d p) d.2.1.length))) h M := by
  obtain ⟨k172, rS, rLs, rKn, rPg, rRl, rRk, rTp, rCu, rLe, rLt, rSm, rIk, rLn, rLg, rCe, ⟨kS, nS⟩, ⟨kLs, nLs⟩, ⟨kKn, nKn⟩, ⟨kPg, nPg⟩, ⟨kRl, nRl⟩, ⟨kRk, nRk⟩, ⟨kTp, nTp⟩, ⟨kCu, nCu⟩, ⟨kLe, nLe⟩, ⟨kLt, nLt⟩, ⟨kSm, nSm⟩, ⟨kIk, nIk⟩, ⟨kLn, nLn⟩, ⟨kLg, nLg⟩, kCe, nCe⟩ := id hl
  obtain ⟨g1, g2, g3, g4, g5, ⟨g6, g6'⟩, g7, g8⟩ := id hv
  have hpe := q_people h M hl hv
  have hkp := q_kindOf h M hl hv hp
  have hsp := q_sumOf h M hl hv hp
  by_cases k4 : lK d p = 4
  · have z : nI (d_pn d p).1 = nI 4 := by rw [show (d_pn d p).1 = 4 from k4]
    have e1 : ¬ nI d.2.1.length ≤ nI 0 := nI_ge (by omega) (by omega)
    have e2 : mk (lal d p) d.2.1.length = bt1 p := by
      have a1 := mo_mk (fun _ => false) p d.2.1.length hp
      unfold mo at a1
      rw [mk_none, Int32.zero_or] at a1
      rw [a1]
      refine mk_congr _ (fun i hi => ?_)
      show (decide (p = i) || (decide (lK d p ≠ 4) && _)) = _
      rw [decide_eq_false (show ¬ lK d p ≠ 4 from fun q => q k4)]
      simp
    rw [e2]
    refine pr_seq (pc' := 8) 8 rfl ⟨⟨⟨⟨⟨⟨⟨⟨trivial, trivial⟩, trivial⟩, trivial⟩, trivial⟩, trivial⟩, trivial⟩, trivial⟩, (by first | decide | assumption)⟩ ?_
    try simp (disch := omega) only [c4, rI_mul, nI_add, nI_1, nI_clamp, pr_i_0, pr_i_1, pr_i_4]
    refine pr_cv [] rfl rfl rfl rfl rfl (Nat.le_of_ble_eq_true rfl) (by first | assumption | decide | (simp (disch := omega) only [c4, rI_mul, nI_add, nI_1, nI_clamp, pr_i_0, pr_i_1, pr_i_4]; first | assumption | exact ⟨Or.inl (by assumption), rvin (by assumption) (by omega) (by decide)⟩ | exact ⟨by assumption, rvin (by assumption) (by omega) (by decide)⟩ | exact ⟨⟨by omega, by omega⟩, rvin (by assumption) (by omega) (by decide)⟩ | exact ⟨Or.inl (by assumption), by assumption⟩ | exact ⟨Or.inr (by assumption), by assumption⟩ | exact ⟨by assumption, by assumption⟩ | decide | omega)) (Nat.le_of_ble_eq_true rfl) (hpe) ?_
    refine pr_ic rfl (fun h11 => ?_) (fun h11 => ?_)
    · simp only [ab_cmp, pr_i_0, pr_i_1, pr_i_4] at h11
      exact absurd h11 e1
    · simp only [ab_cmp, pr_i_0, pr_i_1, pr_i_4] at h11
      first
      | contradiction
      | exact absurd trivial h11
      | exact absurd h11 (by decide)
      | exact absurd (Classical.not_not.mp h11) (by decide)
      | skip
        refine pr_seq (pc' := 16) 2 rfl ⟨⟨trivial, (by first | decide | assumption)⟩, trivial⟩ ?_
        try simp (disch := omega) only [c4, rI_mul, nI_add, nI_1, nI_clamp, pr_i_0, pr_i_1, pr_i_4]
        refine pr_cv [_] rfl rfl rfl rfl rfl (Nat.le_of_ble_eq_true rfl) (by first | assumption | decide | (simp (disch := omega) only [c4, rI_mul, nI_add, nI_1, nI_clamp, pr_i_0, pr_i_1, pr_i_4]; first | assumption | exact ⟨Or.inl (by assumption), rvin (by assumption) (by omega) (by decide)⟩ | exact ⟨by assumption, rvin (by assumption) (by omega) (by decide)⟩ | exact ⟨⟨by omega, by omega⟩, rvin (by assumption) (by omega) (by decide)⟩ | exact ⟨Or.inl (by assumption), by assumption⟩ | exact ⟨Or.inr (by assumption), by assumption⟩ | exact ⟨by assumption, by assumption⟩ | decide | omega)) (Nat.le_of_ble_eq_true rfl) (hkp) ?_
        refine pr_seq (pc' := 20) 1 rfl ⟨trivial, trivial⟩ ?_
        try simp (disch := omega) only [c4, rI_mul, nI_add, nI_1, nI_clamp, pr_i_0, pr_i_1, pr_i_4]
        refine pr_ic rfl (fun h20 => ?_) (fun h20 => ?_)
        · simp only [ab_cmp, pr_i_0, pr_i_1, pr_i_4] at h20
          first
          | contradiction
          | exact absurd trivial h20
          | exact absurd h20 (by decide)
          | exact absurd (Classical.not_not.mp h20) (by decide)
          | skip
            refine pr_seq (pc' := 62) 1 rfl ⟨trivial, trivial⟩ ?_
            try simp (disch := omega) only [c4, rI_mul, nI_add, nI_1, nI_clamp, pr_i_0, pr_i_1, pr_i_4]
            exact pr_irM rfl (by rfl) trivial (by rfl)
        · simp only [ab_cmp, pr_i_0, pr_i_1, pr_i_4] at h20
          exact absurd z h20
  · have z : ¬ nI (d_pn d p).1 = nI 4 := nI_ne k4 (by have := (g8 p hp).2.1; omega) (by decide)
    have e2 : mk (lal d p) d.2.1.length = mo (fun q => decide (lK d q ≠ 4) && decide (lS d q = lS d p)) p d.2.1.length := by
      rw [mo_mk _ p _ hp]
      refine mk_congr _ (fun i hi => ?_)
      show (decide (p = i) || (decide (lK d p ≠ 4) && (decide (lK d i ≠ 4) && decide (lS d p = lS d i)))) = _
      rw [decide_eq_true (show lK d p ≠ 4 from k4), Bool.true_and, Bool.or_comm, decide_eq_decide.mpr (show lS d p = lS d i ↔ lS d i = lS d p from eq_comm)]
    rw [e2]
    have loop : ∀ dd k, k + dd = d.2.1.length → pr_E pX11_personOf 6 [some (.ref 172), some (.int (nI p)), some (.int (mo (fun q => decide (lK d q ≠ 4) && decide (lS d q = lS d p)) p k)), some (.int (nI k))] [] h M (some (.int (mo (fun q => decide (lK d q ≠ 4) && decide (lS d q = lS d p)) p d.2.1.length))) h M := by
      intro dd
      induction dd with
      | zero =>
        intro k hk
        obtain rfl : k = d.2.1.length := by omega
        have e1 : nI d.2.1.length ≤ nI d.2.1.length := nI_le (Nat.le_refl _) (by omega)
        refine pr_seq (pc' := 8) 2 rfl ⟨⟨trivial, trivial⟩, (by first | decide | assumption)⟩ ?_
        try simp (disch := omega) only [c4, rI_mul, nI_add, nI_1, nI_clamp, pr_i_0, pr_i_1, pr_i_4]
        refine pr_cv [] rfl rfl rfl rfl rfl (Nat.le_of_ble_eq_true rfl) (by first | assumption | decide | (simp (disch := omega) only [c4, rI_mul, nI_add, nI_1, nI_clamp, pr_i_0, pr_i_1, pr_i_4]; first | assumption | exact ⟨Or.inl (by assumption), rvin (by assumption) (by omega) (by decide)⟩ | exact ⟨by assumption, rvin (by assumption) (by omega) (by decide)⟩ | exact ⟨⟨by omega, by omega⟩, rvin (by assumption) (by omega) (by decide)⟩ | exact ⟨Or.inl (by assumption), by assumption⟩ | exact ⟨Or.inr (by assumption), by assumption⟩ | exact ⟨by assumption, by assumption⟩ | decide | omega)) (Nat.le_of_ble_eq_true rfl) (hpe) ?_
        refine pr_ic rfl (fun h11 => ?_) (fun h11 => ?_)
        · simp only [ab_cmp, pr_i_0, pr_i_1, pr_i_4] at h11
          first
          | contradiction
          | exact absurd trivial h11
          | exact absurd h11 (by decide)
          | exact absurd (Classical.not_not.mp h11) (by decide)
          | skip
            refine pr_seq (pc' := 62) 1 rfl ⟨trivial, trivial⟩ ?_
            try simp (disch := omega) only [c4, rI_mul, nI_add, nI_1, nI_clamp, pr_i_0, pr_i_1, pr_i_4]
            exact pr_irM rfl (by rfl) trivial (by rfl)
        · simp only [ab_cmp, pr_i_0, pr_i_1, pr_i_4] at h11
          exact absurd e1 h11
      | succ dd ih =>
        intro k hk
        have e1 : ¬ nI d.2.1.length ≤ nI k := nI_ge (by omega) (by omega)
        have hk2 : k < d.2.1.length := by omega
        have hkk := q_kindOf h M hl hv hk2
        have hsk := q_sumOf h M hl hv hk2
        have hh := ih (k + 1) (by omega)
        by_cases c1 : lK d k = 4
        · have z1 : nI (d_pn d k).1 = nI 4 := by rw [show (d_pn d k).1 = 4 from c1]
          rw [← mo_2 (by rw [decide_eq_false (fun q => q c1)]; rfl)] at hh
          refine pr_seq (pc' := 8) 2 rfl ⟨⟨trivial, trivial⟩, (by first | decide | assumption)⟩ ?_
          try simp (disch := omega) only [c4, rI_mul, nI_add, nI_1, nI_clamp, pr_i_0, pr_i_1, pr_i_4]
          refine pr_cv [] rfl rfl rfl rfl rfl (Nat.le_of_ble_eq_true rfl) (by first | assumption | decide | (simp (disch := omega) only [c4, rI_mul, nI_add, nI_1, nI_clamp, pr_i_0, pr_i_1, pr_i_4]; first | assumption | exact ⟨Or.inl (by assumption), rvin (by assumption) (by omega) (by decide)⟩ | exact ⟨by assumption, rvin (by assumption) (by omega) (by decide)⟩ | exact ⟨⟨by omega, by omega⟩, rvin (by assumption) (by omega) (by decide)⟩ | exact ⟨Or.inl (by assumption), by assumption⟩ | exact ⟨Or.inr (by assumption), by assumption⟩ | exact ⟨by assumption, by assumption⟩ | decide | omega)) (Nat.le_of_ble_eq_true rfl) (hpe) ?_
          refine pr_ic rfl (fun h11 => ?_) (fun h11 => ?_)
          · simp only [ab_cmp, pr_i_0, pr_i_1, pr_i_4] at h11
            exact absurd h11 e1
          · simp only [ab_cmp, pr_i_0, pr_i_1, pr_i_4] at h11
            first
            | contradiction
            | exact absurd trivial h11
            | exact absurd h11 (by decide)
            | exact absurd (Classical.not_not.mp h11) (by decide)
            | skip
              refine pr_seq (pc' := 16) 2 rfl ⟨⟨trivial, (by first | decide | assumption)⟩, trivial⟩ ?_
              try simp (disch := omega) only [c4, rI_mul, nI_add, nI_1, nI_clamp, pr_i_0, pr_i_1, pr_i_4]
              refine pr_cv [_] rfl rfl rfl rfl rfl (Nat.le_of_ble_eq_true rfl) (by first | assumption | decide | (simp (disch := omega) only [c4, rI_mul, nI_add, nI_1, nI_clamp, pr_i_0, pr_i_1, pr_i_4]; first | assumption | exact ⟨Or.inl (by assumption), rvin (by assumption) (by omega) (by decide)⟩ | exact ⟨by assumption, rvin (by assumption) (by omega) (by decide)⟩ | exact ⟨⟨by omega, by omega⟩, rvin (by assumption) (by omega) (by decide)⟩ | exact ⟨Or.inl (by assumption), by assumption⟩ | exact ⟨Or.inr (by assumption), by assumption⟩ | exact ⟨by assumption, by assumption⟩ | decide | omega)) (Nat.le_of_ble_eq_true rfl) (hkp) ?_
              refine pr_seq (pc' := 20) 1 rfl ⟨trivial, trivial⟩ ?_
              try simp (disch := omega) only [c4, rI_mul, nI_add, nI_1, nI_clamp, pr_i_0, pr_i_1, pr_i_4]
              refine pr_ic rfl (fun h20 => ?_) (fun h20 => ?_)
              · simp only [ab_cmp, pr_i_0, pr_i_1, pr_i_4] at h20
                exact absurd h20 z
              · simp only [ab_cmp, pr_i_0, pr_i_1, pr_i_4] at h20
                first
                | contradiction
                | exact absurd trivial h20
                | exact absurd h20 (by decide)
                | exact absurd (Classical.not_not.mp h20) (by decide)
                | skip
                  refine pr_seq (pc' := 26) 3 rfl ⟨⟨⟨trivial, trivial⟩, (by first | decide | assumption)⟩, trivial⟩ ?_
                  try simp (disch := omega) only [c4, rI_mul, nI_add, nI_1, nI_clamp, pr_i_0, pr_i_1, pr_i_4]
                  refine pr_cv [_] rfl rfl rfl rfl rfl (Nat.le_of_ble_eq_true rfl) (by first | assumption | decide | (simp (disch := omega) only [c4, rI_mul, nI_add, nI_1, nI_clamp, pr_i_0, pr_i_1, pr_i_4]; first | assumption | exact ⟨Or.inl (by assumption), rvin (by assumption) (by omega) (by decide)⟩ | exact ⟨by assumption, rvin (by assumption) (by omega) (by decide)⟩ | exact ⟨⟨by omega, by omega⟩, rvin (by assumption) (by omega) (by decide)⟩ | exact ⟨Or.inl (by assumption), by assumption⟩ | exact ⟨Or.inr (by assumption), by assumption⟩ | exact ⟨by assumption, by assumption⟩ | decide | omega)) (Nat.le_of_ble_eq_true rfl) (hkk) ?_
                  refine pr_seq (pc' := 30) 1 rfl ⟨trivial, trivial⟩ ?_
                  try simp (disch := omega) only [c4, rI_mul, nI_add, nI_1, nI_clamp, pr_i_0, pr_i_1, pr_i_4]
                  refine pr_ic rfl (fun h30 => ?_) (fun h30 => ?_)
                  · simp only [ab_cmp, pr_i_0, pr_i_1, pr_i_4] at h30
                    first
                    | contradiction
                    | exact absurd trivial h30
                    | exact absurd h30 (by decide)
                    | exact absurd (Classical.not_not.mp h30) (by decide)
                    | skip
                      refine pr_seq (pc' := 6) 5 rfl ⟨⟨⟨⟨⟨trivial, trivial⟩, trivial⟩, trivial⟩, trivial⟩, trivial⟩ ?_
                      try simp (disch := omega) only [c4, rI_mul, nI_add, nI_1, nI_clamp, pr_i_0, pr_i_1, pr_i_4]
                      exact hh
                  · simp only [ab_cmp, pr_i_0, pr_i_1, pr_i_4] at h30
                    exact absurd z1 h30
        · have z1 : ¬ nI (d_pn d k).1 = nI 4 := nI_ne c1 (by have := (g8 k hk2).2.1; omega) (by decide)
          by_cases c2 : lS d k = lS d p
          · rw [← mo_1 (by rw [decide_eq_true (show lK d k ≠ 4 from c1), decide_eq_true c2]; rfl)] at hh
            refine pr_seq (pc' := 8) 2 rfl ⟨⟨trivial, trivial⟩, (by first | decide | assumption)⟩ ?_
            try simp (disch := omega) only [c4, rI_mul, nI_add, nI_1, nI_clamp, pr_i_0, pr_i_1, pr_i_4]
            refine pr_cv [] rfl rfl rfl rfl rfl (Nat.le_of_ble_eq_true rfl) (by first | assumption | decide | (simp (disch := omega) only [c4, rI_mul, nI_add, nI_1, nI_clamp, pr_i_0, pr_i_1, pr_i_4]; first | assumption | exact ⟨Or.inl (by assumption), rvin (by assumption) (by omega) (by decide)⟩ | exact ⟨by assumption, rvin (by assumption) (by omega) (by decide)⟩ | exact ⟨⟨by omega, by omega⟩, rvin (by assumption) (by omega) (by decide)⟩ | exact ⟨Or.inl (by assumption), by assumption⟩ | exact ⟨Or.inr (by assumption), by assumption⟩ | exact ⟨by assumption, by assumption⟩ | decide | omega)) (Nat.le_of_ble_eq_true rfl) (hpe) ?_
            refine pr_ic rfl (fun h11 => ?_) (fun h11 => ?_)
            · simp only [ab_cmp, pr_i_0, pr_i_1, pr_i_4] at h11
              exact absurd h11 e1
            · simp only [ab_cmp, pr_i_0, pr_i_1, pr_i_4] at h11
              first
              | contradiction
              | exact absurd trivial h11
              | exact absurd h11 (by decide)
              | exact absurd (Classical.not_not.mp h11) (by decide)
              | skip
                refine pr_seq (pc' := 16) 2 rfl ⟨⟨trivial, (by first | decide | assumption)⟩, trivial⟩ ?_
                try simp (disch := omega) only [c4, rI_mul, nI_add, nI_1, nI_clamp, pr_i_0, pr_i_1, pr_i_4]
                refine pr_cv [_] rfl rfl rfl rfl rfl (Nat.le_of_ble_eq_true rfl) (by first | assumption | decide | (simp (disch := omega) only [c4, rI_mul, nI_add, nI_1, nI_clamp, pr_i_0, pr_i_1, pr_i_4]; first | assumption | exact ⟨Or.inl (by assumption), rvin (by assumption) (by omega) (by decide)⟩ | exact ⟨by assumption, rvin (by assumption) (by omega) (by decide)⟩ | exact ⟨⟨by omega, by omega⟩, rvin (by assumption) (by omega) (by decide)⟩ | exact ⟨Or.inl (by assumption), by assumption⟩ | exact ⟨Or.inr (by assumption), by assumption⟩ | exact ⟨by assumption, by assumption⟩ | decide | omega)) (Nat.le_of_ble_eq_true rfl) (hkp) ?_
                refine pr_seq (pc' := 20) 1 rfl ⟨trivial, trivial⟩ ?_
                try simp (disch := omega) only [c4, rI_mul, nI_add, nI_1, nI_clamp, pr_i_0, pr_i_1, pr_i_4]
                refine pr_ic rfl (fun h20 => ?_) (fun h20 => ?_)
                · simp only [ab_cmp, pr_i_0, pr_i_1, pr_i_4] at h20
                  exact absurd h20 z
                · simp only [ab_cmp, pr_i_0, pr_i_1, pr_i_4] at h20
                  first
                  | contradiction
                  | exact absurd trivial h20
                  | exact absurd h20 (by decide)
                  | exact absurd (Classical.not_not.mp h20) (by decide)
                  | skip
                    refine pr_seq (pc' := 26) 3 rfl ⟨⟨⟨trivial, trivial⟩, (by first | decide | assumption)⟩, trivial⟩ ?_
                    try simp (disch := omega) only [c4, rI_mul, nI_add, nI_1, nI_clamp, pr_i_0, pr_i_1, pr_i_4]
                    refine pr_cv [_] rfl rfl rfl rfl rfl (Nat.le_of_ble_eq_true rfl) (by first | assumption | decide | (simp (disch := omega) only [c4, rI_mul, nI_add, nI_1, nI_clamp, pr_i_0, pr_i_1, pr_i_4]; first | assumption | exact ⟨Or.inl (by assumption), rvin (by assumption) (by omega) (by decide)⟩ | exact ⟨by assumption, rvin (by assumption) (by omega) (by decide)⟩ | exact ⟨⟨by omega, by omega⟩, rvin (by assumption) (by omega) (by decide)⟩ | exact ⟨Or.inl (by assumption), by assumption⟩ | exact ⟨Or.inr (by assumption), by assumption⟩ | exact ⟨by assumption, by assumption⟩ | decide | omega)) (Nat.le_of_ble_eq_true rfl) (hkk) ?_
                    refine pr_seq (pc' := 30) 1 rfl ⟨trivial, trivial⟩ ?_
                    try simp (disch := omega) only [c4, rI_mul, nI_add, nI_1, nI_clamp, pr_i_0, pr_i_1, pr_i_4]
                    refine pr_ic rfl (fun h30 => ?_) (fun h30 => ?_)
                    · simp only [ab_cmp, pr_i_0, pr_i_1, pr_i_4] at h30
                      exact absurd h30 z1
                    · simp only [ab_cmp, pr_i_0, pr_i_1, pr_i_4] at h30
                      first
                      | contradiction
                      | exact absurd trivial h30
                      | exact absurd h30 (by decide)
                      | exact absurd (Classical.not_not.mp h30) (by decide)
                      | skip
                        refine pr_seq (pc' := 35) 2 rfl ⟨⟨trivial, (by first | decide | assumption)⟩, trivial⟩ ?_
                        try simp (disch := omega) only [c4, rI_mul, nI_add, nI_1, nI_clamp, pr_i_0, pr_i_1, pr_i_4]
                        refine pr_cv [_] rfl rfl rfl rfl rfl (Nat.le_of_ble_eq_true rfl) (by first | assumption | decide | (simp (disch := omega) only [c4, rI_mul, nI_add, nI_1, nI_clamp, pr_i_0, pr_i_1, pr_i_4]; first | assumption | exact ⟨Or.inl (by assumption), rvin (by assumption) (by omega) (by decide)⟩ | exact ⟨by assumption, rvin (by assumption) (by omega) (by decide)⟩ | exact ⟨⟨by omega, by omega⟩, rvin (by assumption) (by omega) (by decide)⟩ | exact ⟨Or.inl (by assumption), by assumption⟩ | exact ⟨Or.inr (by assumption), by assumption⟩ | exact ⟨by assumption, by assumption⟩ | decide | omega)) (Nat.le_of_ble_eq_true rfl) (hsk) ?_
                        refine pr_seq (pc' := 40) 2 rfl ⟨⟨trivial, (by first | decide | assumption)⟩, trivial⟩ ?_
                        try simp (disch := omega) only [c4, rI_mul, nI_add, nI_1, nI_clamp, pr_i_0, pr_i_1, pr_i_4]
                        refine pr_cv [_] rfl rfl rfl rfl rfl (Nat.le_of_ble_eq_true rfl) (by first | assumption | decide | (simp (disch := omega) only [c4, rI_mul, nI_add, nI_1, nI_clamp, pr_i_0, pr_i_1, pr_i_4]; first | assumption | exact ⟨Or.inl (by assumption), rvin (by assumption) (by omega) (by decide)⟩ | exact ⟨by assumption, rvin (by assumption) (by omega) (by decide)⟩ | exact ⟨⟨by omega, by omega⟩, rvin (by assumption) (by omega) (by decide)⟩ | exact ⟨Or.inl (by assumption), by assumption⟩ | exact ⟨Or.inr (by assumption), by assumption⟩ | exact ⟨by assumption, by assumption⟩ | decide | omega)) (Nat.le_of_ble_eq_true rfl) (hsp) ?_
                        refine pr_ic rfl (fun h43 => ?_) (fun h43 => ?_)
                        · simp only [ab_cmp, pr_i_0, pr_i_1, pr_i_4] at h43
                          exact absurd c2 h43
                        · simp only [ab_cmp, pr_i_0, pr_i_1, pr_i_4] at h43
                          first
                          | contradiction
                          | exact absurd trivial h43
                          | exact absurd h43 (by decide)
                          | exact absurd (Classical.not_not.mp h43) (by decide)
                          | skip
                            refine pr_seq (pc' := 6) 8 rfl ⟨⟨⟨⟨⟨⟨⟨⟨trivial, trivial⟩, trivial⟩, trivial⟩, trivial⟩, trivial⟩, trivial⟩, trivial⟩, trivial⟩ ?_
                            try simp (disch := omega) only [c4, rI_mul, nI_add, nI_1, nI_clamp, pr_i_0, pr_i_1, pr_i_4]
                            exact hh
          · rw [← mo_2 (by rw [decide_eq_false c2, Bool.and_false])] at hh
            refine pr_seq (pc' := 8) 2 rfl ⟨⟨trivial, trivial⟩, (by first | decide | assumption)⟩ ?_
            try simp (disch := omega) only [c4, rI_mul, nI_add, nI_1, nI_clamp, pr_i_0, pr_i_1, pr_i_4]
            refine pr_cv [] rfl rfl rfl rfl rfl (Nat.le_of_ble_eq_true rfl) (by first | assumption | decide | (simp (disch := omega) only [c4, rI_mul, nI_add, nI_1, nI_clamp, pr_i_0, pr_i_1, pr_i_4]; first | assumption | exact ⟨Or.inl (by assumption), rvin (by assumption) (by omega) (by decide)⟩ | exact ⟨by assumption, rvin (by assumption) (by omega) (by decide)⟩ | exact ⟨⟨by omega, by omega⟩, rvin (by assumption) (by omega) (by decide)⟩ | exact ⟨Or.inl (by assumption), by assumption⟩ | exact ⟨Or.inr (by assumption), by assumption⟩ | exact ⟨by assumption, by assumption⟩ | decide | omega)) (Nat.le_of_ble_eq_true rfl) (hpe) ?_
            refine pr_ic rfl (fun h11 => ?_) (fun h11 => ?_)
            · simp only [ab_cmp, pr_i_0, pr_i_1, pr_i_4] at h11
              exact absurd h11 e1
            · simp only [ab_cmp, pr_i_0, pr_i_1, pr_i_4] at h11
              first
              | contradiction
              | exact absurd trivial h11
              | exact absurd h11 (by decide)
              | exact absurd (Classical.not_not.mp h11) (by decide)
              | skip
                refine pr_seq (pc' := 16) 2 rfl ⟨⟨trivial, (by first | decide | assumption)⟩, trivial⟩ ?_
                try simp (disch := omega) only [c4, rI_mul, nI_add, nI_1, nI_clamp, pr_i_0, pr_i_1, pr_i_4]
                refine pr_cv [_] rfl rfl rfl rfl rfl (Nat.le_of_ble_eq_true rfl) (by first | assumption | decide | (simp (disch := omega) only [c4, rI_mul, nI_add, nI_1, nI_clamp, pr_i_0, pr_i_1, pr_i_4]; first | assumption | exact ⟨Or.inl (by assumption), rvin (by assumption) (by omega) (by decide)⟩ | exact ⟨by assumption, rvin (by assumption) (by omega) (by decide)⟩ | exact ⟨⟨by omega, by omega⟩, rvin (by assumption) (by omega) (by decide)⟩ | exact ⟨Or.inl (by assumption), by assumption⟩ | exact ⟨Or.inr (by assumption), by assumption⟩ | exact ⟨by assumption, by assumption⟩ | decide | omega)) (Nat.le_of_ble_eq_true rfl) (hkp) ?_
                refine pr_seq (pc' := 20) 1 rfl ⟨trivial, trivial⟩ ?_
                try simp (disch := omega) only [c4, rI_mul, nI_add, nI_1, nI_clamp, pr_i_0, pr_i_1, pr_i_4]
                refine pr_ic rfl (fun h20 => ?_) (fun h20 => ?_)
                · simp only [ab_cmp, pr_i_0, pr_i_1, pr_i_4] at h20
                  exact absurd h20 z
                · simp only [ab_cmp, pr_i_0, pr_i_1, pr_i_4] at h20
                  first
                  | contradiction
                  | exact absurd trivial h20
                  | exact absurd h20 (by decide)
                  | exact absurd (Classical.not_not.mp h20) (by decide)
                  | skip
                    refine pr_seq (pc' := 26) 3 rfl ⟨⟨⟨trivial, trivial⟩, (by first | decide | assumption)⟩, trivial⟩ ?_
                    try simp (disch := omega) only [c4, rI_mul, nI_add, nI_1, nI_clamp, pr_i_0, pr_i_1, pr_i_4]
                    refine pr_cv [_] rfl rfl rfl rfl rfl (Nat.le_of_ble_eq_true rfl) (by first | assumption | decide | (simp (disch := omega) only [c4, rI_mul, nI_add, nI_1, nI_clamp, pr_i_0, pr_i_1, pr_i_4]; first | assumption | exact ⟨Or.inl (by assumption), rvin (by assumption) (by omega) (by decide)⟩ | exact ⟨by assumption, rvin (by assumption) (by omega) (by decide)⟩ | exact ⟨⟨by omega, by omega⟩, rvin (by assumption) (by omega) (by decide)⟩ | exact ⟨Or.inl (by assumption), by assumption⟩ | exact ⟨Or.inr (by assumption), by assumption⟩ | exact ⟨by assumption, by assumption⟩ | decide | omega)) (Nat.le_of_ble_eq_true rfl) (hkk) ?_
                    refine pr_seq (pc' := 30) 1 rfl ⟨trivial, trivial⟩ ?_
                    try simp (disch := omega) only [c4, rI_mul, nI_add, nI_1, nI_clamp, pr_i_0, pr_i_1, pr_i_4]
                    refine pr_ic rfl (fun h30 => ?_) (fun h30 => ?_)
                    · simp only [ab_cmp, pr_i_0, pr_i_1, pr_i_4] at h30
                      exact absurd h30 z1
                    · simp only [ab_cmp, pr_i_0, pr_i_1, pr_i_4] at h30
                      first
                      | contradiction
                      | exact absurd trivial h30
                      | exact absurd h30 (by decide)
                      | exact absurd (Classical.not_not.mp h30) (by decide)
                      | skip
                        refine pr_seq (pc' := 35) 2 rfl ⟨⟨trivial, (by first | decide | assumption)⟩, trivial⟩ ?_
                        try simp (disch := omega) only [c4, rI_mul, nI_add, nI_1, nI_clamp, pr_i_0, pr_i_1, pr_i_4]
                        refine pr_cv [_] rfl rfl rfl rfl rfl (Nat.le_of_ble_eq_true rfl) (by first | assumption | decide | (simp (disch := omega) only [c4, rI_mul, nI_add, nI_1, nI_clamp, pr_i_0, pr_i_1, pr_i_4]; first | assumption | exact ⟨Or.inl (by assumption), rvin (by assumption) (by omega) (by decide)⟩ | exact ⟨by assumption, rvin (by assumption) (by omega) (by decide)⟩ | exact ⟨⟨by omega, by omega⟩, rvin (by assumption) (by omega) (by decide)⟩ | exact ⟨Or.inl (by assumption), by assumption⟩ | exact ⟨Or.inr (by assumption), by assumption⟩ | exact ⟨by assumption, by assumption⟩ | decide | omega)) (Nat.le_of_ble_eq_true rfl) (hsk) ?_
                        refine pr_seq (pc' := 40) 2 rfl ⟨⟨trivial, (by first | decide | assumption)⟩, trivial⟩ ?_
                        try simp (disch := omega) only [c4, rI_mul, nI_add, nI_1, nI_clamp, pr_i_0, pr_i_1, pr_i_4]
                        refine pr_cv [_] rfl rfl rfl rfl rfl (Nat.le_of_ble_eq_true rfl) (by first | assumption | decide | (simp (disch := omega) only [c4, rI_mul, nI_add, nI_1, nI_clamp, pr_i_0, pr_i_1, pr_i_4]; first | assumption | exact ⟨Or.inl (by assumption), rvin (by assumption) (by omega) (by decide)⟩ | exact ⟨by assumption, rvin (by assumption) (by omega) (by decide)⟩ | exact ⟨⟨by omega, by omega⟩, rvin (by assumption) (by omega) (by decide)⟩ | exact ⟨Or.inl (by assumption), by assumption⟩ | exact ⟨Or.inr (by assumption), by assumption⟩ | exact ⟨by assumption, by assumption⟩ | decide | omega)) (Nat.le_of_ble_eq_true rfl) (hsp) ?_
                        refine pr_ic rfl (fun h43 => ?_) (fun h43 => ?_)
                        · simp only [ab_cmp, pr_i_0, pr_i_1, pr_i_4] at h43
                          first
                          | contradiction
                          | exact absurd trivial h43
                          | exact absurd h43 (by decide)
                          | exact absurd (Classical.not_not.mp h43) (by decide)
                          | skip
                            refine pr_seq (pc' := 6) 5 rfl ⟨⟨⟨⟨⟨trivial, trivial⟩, trivial⟩, trivial⟩, trivial⟩, trivial⟩ ?_
                            try simp (disch := omega) only [c4, rI_mul, nI_add, nI_1, nI_clamp, pr_i_0, pr_i_1, pr_i_4]
                            exact hh
                        · simp only [ab_cmp, pr_i_0, pr_i_1, pr_i_4] at h43
                          exact absurd (Classical.not_not.mp h43) c2
    have h0 := loop d.2.1.length 0 (by omega)
    rw [mo_0] at h0
    refine pr_seq (pc' := 6) 6 rfl ⟨⟨⟨⟨⟨⟨trivial, trivial⟩, trivial⟩, trivial⟩, trivial⟩, trivial⟩, trivial⟩ ?_
    exact h0
theorem q_persons {d : Ld} (h : ab_H) (M : ab_M) (hl : rL h M.2.2) (hv : pg_r (M.1 173) d) : pr_C pX11_persons [.ref 172] h M (some (.int (nI (cnt (fun p => nb (lal d p) p) d.2.1.length)))) h M := by
  obtain ⟨k172, rS, rLs, rKn, rPg, rRl, rRk, rTp, rCu, rLe, rLt, rSm, rIk, rLn, rLg, rCe, ⟨kS, nS⟩, ⟨kLs, nLs⟩, ⟨kKn, nKn⟩, ⟨kPg, nPg⟩, ⟨kRl, nRl⟩, ⟨kRk, nRk⟩, ⟨kTp, nTp⟩, ⟨kCu, nCu⟩, ⟨kLe, nLe⟩, ⟨kLt, nLt⟩, ⟨kSm, nSm⟩, ⟨kIk, nIk⟩, ⟨kLn, nLn⟩, ⟨kLg, nLg⟩, kCe, nCe⟩ := id hl
  obtain ⟨g1, g2, g3, g4, g5, ⟨g6, g6'⟩, g7, g8⟩ := id hv
  have hpe := q_people h M hl hv
  have loop : ∀ dd k, k + dd = d.2.1.length → pr_E pX11_persons 4 [some (.ref 172), some (.int (nI (cnt (fun p => nb (lal d p) p) k))), some (.int (nI k))] [] h M (some (.int (nI (cnt (fun p => nb (lal d p) p) d.2.1.length)))) h M := by
    intro dd
    induction dd with
    | zero =>
      intro k hk
      obtain rfl : k = d.2.1.length := by omega
      have e1 : nI d.2.1.length ≤ nI d.2.1.length := nI_le (Nat.le_refl _) (by omega)
      refine pr_seq (pc' := 6) 2 rfl ⟨⟨trivial, trivial⟩, (by first | decide | assumption)⟩ ?_
      try simp (disch := omega) only [rI_mul, nI_add, nI_1, nI_clamp, pr_i_0, pr_i_1]
      refine pr_cv [] rfl rfl rfl rfl rfl (Nat.le_of_ble_eq_true rfl) (by first | assumption | decide | (simp (disch := omega) only [rI_mul, nI_add, nI_1, nI_clamp, pr_i_0, pr_i_1]; first | assumption | exact ⟨Or.inl (by assumption), rvin (by assumption) (by omega) (by decide)⟩ | exact ⟨by assumption, rvin (by assumption) (by omega) (by decide)⟩ | exact ⟨⟨by omega, by omega⟩, rvin (by assumption) (by omega) (by decide)⟩ | exact ⟨Or.inl (by assumption), by assumption⟩ | exact ⟨Or.inr (by assumption), by assumption⟩ | exact ⟨by assumption, by assumption⟩ | decide | omega)) (Nat.le_of_ble_eq_true rfl) (hpe) ?_
      refine pr_ic rfl (fun h9 => ?_) (fun h9 => ?_)
      · simp only [ab_cmp, pr_i_0, pr_i_1] at h9
        first
        | contradiction
        | exact absurd trivial h9
        | exact absurd h9 (by decide)
        | exact absurd (Classical.not_not.mp h9) (by decide)
        | skip
          refine pr_seq (pc' := 41) 1 rfl ⟨trivial, trivial⟩ ?_
          try simp (disch := omega) only [rI_mul, nI_add, nI_1, nI_clamp, pr_i_0, pr_i_1]
          exact pr_irM rfl (by rfl) trivial (by rfl)
      · simp only [ab_cmp, pr_i_0, pr_i_1] at h9
        exact absurd e1 h9
    | succ dd ih =>
      intro k hk
      have e1 : ¬ nI d.2.1.length ≤ nI k := nI_ge (by omega) (by omega)
      have hk2 : k < d.2.1.length := by omega
      have hpo := q_personOf h M hl hv hk2
      have hlo := mk_low (lal d k) (n := d.2.1.length) (p := k) (by omega) (by omega)
      have hh := ih (k + 1) (by omega)
      cases c : nb (lal d k) k with
      | true =>
        have z := hlo.mpr c
        rw [cnt_s1 (f := fun p => nb (lal d p) p) c] at hh
        refine pr_seq (pc' := 6) 2 rfl ⟨⟨trivial, trivial⟩, (by first | decide | assumption)⟩ ?_
        try simp (disch := omega) only [rI_mul, nI_add, nI_1, nI_clamp, pr_i_0, pr_i_1]
        refine pr_cv [] rfl rfl rfl rfl rfl (Nat.le_of_ble_eq_true rfl) (by first | assumption | decide | (simp (disch := omega) only [rI_mul, nI_add, nI_1, nI_clamp, pr_i_0, pr_i_1]; first | assumption | exact ⟨Or.inl (by assumption), rvin (by assumption) (by omega) (by decide)⟩ | exact ⟨by assumption, rvin (by assumption) (by omega) (by decide)⟩ | exact ⟨⟨by omega, by omega⟩, rvin (by assumption) (by omega) (by decide)⟩ | exact ⟨Or.inl (by assumption), by assumption⟩ | exact ⟨Or.inr (by assumption), by assumption⟩ | exact ⟨by assumption, by assumption⟩ | decide | omega)) (Nat.le_of_ble_eq_true rfl) (hpe) ?_
        refine pr_ic rfl (fun h9 => ?_) (fun h9 => ?_)
        · simp only [ab_cmp, pr_i_0, pr_i_1] at h9
          exact absurd h9 e1
        · simp only [ab_cmp, pr_i_0, pr_i_1] at h9
          first
          | contradiction
          | exact absurd trivial h9
          | exact absurd h9 (by decide)
          | exact absurd (Classical.not_not.mp h9) (by decide)
          | skip
            refine pr_seq (pc' := 15) 3 rfl ⟨⟨⟨trivial, trivial⟩, (by first | decide | assumption)⟩, trivial⟩ ?_
            try simp (disch := omega) only [rI_mul, nI_add, nI_1, nI_clamp, pr_i_0, pr_i_1]
            refine pr_cv [_] rfl rfl rfl rfl rfl (Nat.le_of_ble_eq_true rfl) (by first | assumption | decide | (simp (disch := omega) only [rI_mul, nI_add, nI_1, nI_clamp, pr_i_0, pr_i_1]; first | assumption | exact ⟨Or.inl (by assumption), rvin (by assumption) (by omega) (by decide)⟩ | exact ⟨by assumption, rvin (by assumption) (by omega) (by decide)⟩ | exact ⟨⟨by omega, by omega⟩, rvin (by assumption) (by omega) (by decide)⟩ | exact ⟨Or.inl (by assumption), by assumption⟩ | exact ⟨Or.inr (by assumption), by assumption⟩ | exact ⟨by assumption, by assumption⟩ | decide | omega)) (Nat.le_of_ble_eq_true rfl) (hpo) ?_
            refine pr_seq (pc' := 24) 6 rfl ⟨⟨⟨⟨⟨⟨trivial, trivial⟩, trivial⟩, trivial⟩, trivial⟩, trivial⟩, trivial⟩ ?_
            try simp (disch := omega) only [rI_mul, nI_add, nI_1, nI_clamp, pr_i_0, pr_i_1]
            refine pr_if rfl (fun h24 => ?_) (fun h24 => ?_)
            · simp only [ab_cmp, pr_i_0, pr_i_1] at h24
              exact absurd z h24
            · simp only [ab_cmp, pr_i_0, pr_i_1] at h24
              first
              | contradiction
              | exact absurd trivial h24
              | exact absurd h24 (by decide)
              | exact absurd (Classical.not_not.mp h24) (by decide)
              | skip
                refine pr_seq (pc' := 4) 6 rfl ⟨⟨⟨⟨⟨⟨trivial, trivial⟩, trivial⟩, trivial⟩, trivial⟩, trivial⟩, trivial⟩ ?_
                try simp (disch := omega) only [rI_mul, nI_add, nI_1, nI_clamp, pr_i_0, pr_i_1]
                exact hh
      | false =>
        have z : ¬ mk (lal d k) d.2.1.length &&& (bt1 k - 1) = 0 := fun q => by rw [hlo.mp q] at c; cases c
        rw [cnt_s0 (f := fun p => nb (lal d p) p) c] at hh
        have e0 : nI (cnt (fun p => nb (lal d p) p) k) + 0 = nI (cnt (fun p => nb (lal d p) p) k) := Int32.add_zero _
        refine pr_seq (pc' := 6) 2 rfl ⟨⟨trivial, trivial⟩, (by first | decide | assumption)⟩ ?_
        try simp (disch := omega) only [e0, rI_mul, nI_add, nI_1, nI_clamp, pr_i_0, pr_i_1]
        refine pr_cv [] rfl rfl rfl rfl rfl (Nat.le_of_ble_eq_true rfl) (by first | assumption | decide | (simp (disch := omega) only [e0, rI_mul, nI_add, nI_1, nI_clamp, pr_i_0, pr_i_1]; first | assumption | exact ⟨Or.inl (by assumption), rvin (by assumption) (by omega) (by decide)⟩ | exact ⟨by assumption, rvin (by assumption) (by omega) (by decide)⟩ | exact ⟨⟨by omega, by omega⟩, rvin (by assumption) (by omega) (by decide)⟩ | exact ⟨Or.inl (by assumption), by assumption⟩ | exact ⟨Or.inr (by assumption), by assumption⟩ | exact ⟨by assumption, by assumption⟩ | decide | omega)) (Nat.le_of_ble_eq_true rfl) (hpe) ?_
        refine pr_ic rfl (fun h9 => ?_) (fun h9 => ?_)
        · simp only [ab_cmp, pr_i_0, pr_i_1] at h9
          exact absurd h9 e1
        · simp only [ab_cmp, pr_i_0, pr_i_1] at h9
          first
          | contradiction
          | exact absurd trivial h9
          | exact absurd h9 (by decide)
          | exact absurd (Classical.not_not.mp h9) (by decide)
          | skip
            refine pr_seq (pc' := 15) 3 rfl ⟨⟨⟨trivial, trivial⟩, (by first | decide | assumption)⟩, trivial⟩ ?_
            try simp (disch := omega) only [e0, rI_mul, nI_add, nI_1, nI_clamp, pr_i_0, pr_i_1]
            refine pr_cv [_] rfl rfl rfl rfl rfl (Nat.le_of_ble_eq_true rfl) (by first | assumption | decide | (simp (disch := omega) only [e0, rI_mul, nI_add, nI_1, nI_clamp, pr_i_0, pr_i_1]; first | assumption | exact ⟨Or.inl (by assumption), rvin (by assumption) (by omega) (by decide)⟩ | exact ⟨by assumption, rvin (by assumption) (by omega) (by decide)⟩ | exact ⟨⟨by omega, by omega⟩, rvin (by assumption) (by omega) (by decide)⟩ | exact ⟨Or.inl (by assumption), by assumption⟩ | exact ⟨Or.inr (by assumption), by assumption⟩ | exact ⟨by assumption, by assumption⟩ | decide | omega)) (Nat.le_of_ble_eq_true rfl) (hpo) ?_
            refine pr_seq (pc' := 24) 6 rfl ⟨⟨⟨⟨⟨⟨trivial, trivial⟩, trivial⟩, trivial⟩, trivial⟩, trivial⟩, trivial⟩ ?_
            try simp (disch := omega) only [e0, rI_mul, nI_add, nI_1, nI_clamp, pr_i_0, pr_i_1]
            refine pr_if rfl (fun h24 => ?_) (fun h24 => ?_)
            · simp only [ab_cmp, pr_i_0, pr_i_1] at h24
              first
              | contradiction
              | exact absurd trivial h24
              | exact absurd h24 (by decide)
              | exact absurd (Classical.not_not.mp h24) (by decide)
              | skip
                refine pr_seq (pc' := 4) 5 rfl ⟨⟨⟨⟨⟨trivial, trivial⟩, trivial⟩, trivial⟩, trivial⟩, trivial⟩ ?_
                try simp (disch := omega) only [e0, rI_mul, nI_add, nI_1, nI_clamp, pr_i_0, pr_i_1]
                exact hh
            · simp only [ab_cmp, pr_i_0, pr_i_1] at h24
              exact absurd (Classical.not_not.mp h24) z
  refine pr_seq (pc' := 4) 4 rfl ⟨⟨⟨⟨trivial, trivial⟩, trivial⟩, trivial⟩, trivial⟩ ?_
  exact loop d.2.1.length 0 (by omega)
theorem q_lone {d : Ld} (h : ab_H) (M : ab_M) (hl : rL h M.2.2) (hv : pg_r (M.1 173) d) : pr_C pX11_lone [.ref 172] h M (some (.int (mk (fun p => decide (mk (lal d p) d.2.1.length = bt1 p)) d.2.1.length))) h M := by
  obtain ⟨k172, rS, rLs, rKn, rPg, rRl, rRk, rTp, rCu, rLe, rLt, rSm, rIk, rLn, rLg, rCe, ⟨kS, nS⟩, ⟨kLs, nLs⟩, ⟨kKn, nKn⟩, ⟨kPg, nPg⟩, ⟨kRl, nRl⟩, ⟨kRk, nRk⟩, ⟨kTp, nTp⟩, ⟨kCu, nCu⟩, ⟨kLe, nLe⟩, ⟨kLt, nLt⟩, ⟨kSm, nSm⟩, ⟨kIk, nIk⟩, ⟨kLn, nLn⟩, ⟨kLg, nLg⟩, kCe, nCe⟩ := id hl
  obtain ⟨g1, g2, g3, g4, g5, ⟨g6, g6'⟩, g7, g8⟩ := id hv
  have hpe := q_people h M hl hv
  have loop : ∀ dd k, k + dd = d.2.1.length → pr_E pX11_lone 4 [some (.ref 172), some (.int (mk (fun p => decide (mk (lal d p) d.2.1.length = bt1 p)) k)), some (.int (nI k))] [] h M (some (.int (mk (fun p => decide (mk (lal d p) d.2.1.length = bt1 p)) d.2.1.length))) h M := by
    intro dd
    induction dd with
    | zero =>
      intro k hk
      obtain rfl : k = d.2.1.length := by omega
      have e1 : nI d.2.1.length ≤ nI d.2.1.length := nI_le (Nat.le_refl _) (by omega)
      refine pr_seq (pc' := 6) 2 rfl ⟨⟨trivial, trivial⟩, (by first | decide | assumption)⟩ ?_
      try simp (disch := omega) only [rI_mul, nI_add, nI_1, nI_clamp, pr_i_0, pr_i_1]
      refine pr_cv [] rfl rfl rfl rfl rfl (Nat.le_of_ble_eq_true rfl) (by first | assumption | decide | (simp (disch := omega) only [rI_mul, nI_add, nI_1, nI_clamp, pr_i_0, pr_i_1]; first | assumption | exact ⟨Or.inl (by assumption), rvin (by assumption) (by omega) (by decide)⟩ | exact ⟨by assumption, rvin (by assumption) (by omega) (by decide)⟩ | exact ⟨⟨by omega, by omega⟩, rvin (by assumption) (by omega) (by decide)⟩ | exact ⟨Or.inl (by assumption), by assumption⟩ | exact ⟨Or.inr (by assumption), by assumption⟩ | exact ⟨by assumption, by assumption⟩ | decide | omega)) (Nat.le_of_ble_eq_true rfl) (hpe) ?_
      refine pr_ic rfl (fun h9 => ?_) (fun h9 => ?_)
      · simp only [ab_cmp, pr_i_0, pr_i_1] at h9
        first
        | contradiction
        | exact absurd trivial h9
        | exact absurd h9 (by decide)
        | exact absurd (Classical.not_not.mp h9) (by decide)
        | skip
          refine pr_seq (pc' := 40) 1 rfl ⟨trivial, trivial⟩ ?_
          try simp (disch := omega) only [rI_mul, nI_add, nI_1, nI_clamp, pr_i_0, pr_i_1]
          exact pr_irM rfl (by rfl) trivial (by rfl)
      · simp only [ab_cmp, pr_i_0, pr_i_1] at h9
        exact absurd e1 h9
    | succ dd ih =>
      intro k hk
      have e1 : ¬ nI d.2.1.length ≤ nI k := nI_ge (by omega) (by omega)
      have hk2 : k < d.2.1.length := by omega
      have hpo := q_personOf h M hl hv hk2
      have hh := ih (k + 1) (by omega)
      by_cases c : mk (lal d k) d.2.1.length = bt1 k
      · rw [mk_s1 (f := fun p => decide (mk (lal d p) d.2.1.length = bt1 p)) (decide_eq_true c)] at hh
        refine pr_seq (pc' := 6) 2 rfl ⟨⟨trivial, trivial⟩, (by first | decide | assumption)⟩ ?_
        try simp (disch := omega) only [rI_mul, nI_add, nI_1, nI_clamp, pr_i_0, pr_i_1]
        refine pr_cv [] rfl rfl rfl rfl rfl (Nat.le_of_ble_eq_true rfl) (by first | assumption | decide | (simp (disch := omega) only [rI_mul, nI_add, nI_1, nI_clamp, pr_i_0, pr_i_1]; first | assumption | exact ⟨Or.inl (by assumption), rvin (by assumption) (by omega) (by decide)⟩ | exact ⟨by assumption, rvin (by assumption) (by omega) (by decide)⟩ | exact ⟨⟨by omega, by omega⟩, rvin (by assumption) (by omega) (by decide)⟩ | exact ⟨Or.inl (by assumption), by assumption⟩ | exact ⟨Or.inr (by assumption), by assumption⟩ | exact ⟨by assumption, by assumption⟩ | decide | omega)) (Nat.le_of_ble_eq_true rfl) (hpe) ?_
        refine pr_ic rfl (fun h9 => ?_) (fun h9 => ?_)
        · simp only [ab_cmp, pr_i_0, pr_i_1] at h9
          exact absurd h9 e1
        · simp only [ab_cmp, pr_i_0, pr_i_1] at h9
          first
          | contradiction
          | exact absurd trivial h9
          | exact absurd h9 (by decide)
          | exact absurd (Classical.not_not.mp h9) (by decide)
          | skip
            refine pr_seq (pc' := 15) 3 rfl ⟨⟨⟨trivial, trivial⟩, (by first | decide | assumption)⟩, trivial⟩ ?_
            try simp (disch := omega) only [rI_mul, nI_add, nI_1, nI_clamp, pr_i_0, pr_i_1]
            refine pr_cv [_] rfl rfl rfl rfl rfl (Nat.le_of_ble_eq_true rfl) (by first | assumption | decide | (simp (disch := omega) only [rI_mul, nI_add, nI_1, nI_clamp, pr_i_0, pr_i_1]; first | assumption | exact ⟨Or.inl (by assumption), rvin (by assumption) (by omega) (by decide)⟩ | exact ⟨by assumption, rvin (by assumption) (by omega) (by decide)⟩ | exact ⟨⟨by omega, by omega⟩, rvin (by assumption) (by omega) (by decide)⟩ | exact ⟨Or.inl (by assumption), by assumption⟩ | exact ⟨Or.inr (by assumption), by assumption⟩ | exact ⟨by assumption, by assumption⟩ | decide | omega)) (Nat.le_of_ble_eq_true rfl) (hpo) ?_
            refine pr_seq (pc' := 21) 3 rfl ⟨⟨⟨trivial, trivial⟩, trivial⟩, trivial⟩ ?_
            try simp (disch := omega) only [rI_mul, nI_add, nI_1, nI_clamp, pr_i_0, pr_i_1]
            refine pr_ic rfl (fun h21 => ?_) (fun h21 => ?_)
            · simp only [ab_cmp, pr_i_0, pr_i_1] at h21
              exact absurd c h21
            · simp only [ab_cmp, pr_i_0, pr_i_1] at h21
              first
              | contradiction
              | exact absurd trivial h21
              | exact absurd h21 (by decide)
              | exact absurd (Classical.not_not.mp h21) (by decide)
              | skip
                refine pr_seq (pc' := 4) 8 rfl ⟨⟨⟨⟨⟨⟨⟨⟨trivial, trivial⟩, trivial⟩, trivial⟩, trivial⟩, trivial⟩, trivial⟩, trivial⟩, trivial⟩ ?_
                try simp (disch := omega) only [rI_mul, nI_add, nI_1, nI_clamp, pr_i_0, pr_i_1]
                exact hh
      · rw [mk_s0 (f := fun p => decide (mk (lal d p) d.2.1.length = bt1 p)) (decide_eq_false c)] at hh
        have e0 : mk (fun p => decide (mk (lal d p) d.2.1.length = bt1 p)) k ||| 0 = mk (fun p => decide (mk (lal d p) d.2.1.length = bt1 p)) k := Int32.or_zero
        refine pr_seq (pc' := 6) 2 rfl ⟨⟨trivial, trivial⟩, (by first | decide | assumption)⟩ ?_
        try simp (disch := omega) only [e0, rI_mul, nI_add, nI_1, nI_clamp, pr_i_0, pr_i_1]
        refine pr_cv [] rfl rfl rfl rfl rfl (Nat.le_of_ble_eq_true rfl) (by first | assumption | decide | (simp (disch := omega) only [e0, rI_mul, nI_add, nI_1, nI_clamp, pr_i_0, pr_i_1]; first | assumption | exact ⟨Or.inl (by assumption), rvin (by assumption) (by omega) (by decide)⟩ | exact ⟨by assumption, rvin (by assumption) (by omega) (by decide)⟩ | exact ⟨⟨by omega, by omega⟩, rvin (by assumption) (by omega) (by decide)⟩ | exact ⟨Or.inl (by assumption), by assumption⟩ | exact ⟨Or.inr (by assumption), by assumption⟩ | exact ⟨by assumption, by assumption⟩ | decide | omega)) (Nat.le_of_ble_eq_true rfl) (hpe) ?_
        refine pr_ic rfl (fun h9 => ?_) (fun h9 => ?_)
        · simp only [ab_cmp, pr_i_0, pr_i_1] at h9
          exact absurd h9 e1
        · simp only [ab_cmp, pr_i_0, pr_i_1] at h9
          first
          | contradiction
          | exact absurd trivial h9
          | exact absurd h9 (by decide)
          | exact absurd (Classical.not_not.mp h9) (by decide)
          | skip
            refine pr_seq (pc' := 15) 3 rfl ⟨⟨⟨trivial, trivial⟩, (by first | decide | assumption)⟩, trivial⟩ ?_
            try simp (disch := omega) only [e0, rI_mul, nI_add, nI_1, nI_clamp, pr_i_0, pr_i_1]
            refine pr_cv [_] rfl rfl rfl rfl rfl (Nat.le_of_ble_eq_true rfl) (by first | assumption | decide | (simp (disch := omega) only [e0, rI_mul, nI_add, nI_1, nI_clamp, pr_i_0, pr_i_1]; first | assumption | exact ⟨Or.inl (by assumption), rvin (by assumption) (by omega) (by decide)⟩ | exact ⟨by assumption, rvin (by assumption) (by omega) (by decide)⟩ | exact ⟨⟨by omega, by omega⟩, rvin (by assumption) (by omega) (by decide)⟩ | exact ⟨Or.inl (by assumption), by assumption⟩ | exact ⟨Or.inr (by assumption), by assumption⟩ | exact ⟨by assumption, by assumption⟩ | decide | omega)) (Nat.le_of_ble_eq_true rfl) (hpo) ?_
            refine pr_seq (pc' := 21) 3 rfl ⟨⟨⟨trivial, trivial⟩, trivial⟩, trivial⟩ ?_
            try simp (disch := omega) only [e0, rI_mul, nI_add, nI_1, nI_clamp, pr_i_0, pr_i_1]
            refine pr_ic rfl (fun h21 => ?_) (fun h21 => ?_)
            · simp only [ab_cmp, pr_i_0, pr_i_1] at h21
              first
              | contradiction
              | exact absurd trivial h21
              | exact absurd h21 (by decide)
              | exact absurd (Classical.not_not.mp h21) (by decide)
              | skip
                refine pr_seq (pc' := 4) 5 rfl ⟨⟨⟨⟨⟨trivial, trivial⟩, trivial⟩, trivial⟩, trivial⟩, trivial⟩ ?_
                try simp (disch := omega) only [e0, rI_mul, nI_add, nI_1, nI_clamp, pr_i_0, pr_i_1]
                exact hh
            · simp only [ab_cmp, pr_i_0, pr_i_1] at h21
              exact absurd (Classical.not_not.mp h21) c
  refine pr_seq (pc' := 4) 4 rfl ⟨⟨⟨⟨trivial, trivial⟩, trivial⟩, trivial⟩, trivial⟩ ?_
  exact loop d.2.1.length 0 (by omega)
theorem q_summed {d : Ld} {f : Nat → Bool} {A : Nat → Nat} {t : Nat} (h : ab_H) (M : ab_M) (hl : rL h M.2.2) (hv : pg_r (M.1 173) d) (ht : t < 24) (hA : ∀ p, p < d.2.1.length → M.1 173 (24 * p + t) = nI (A p)) : pr_C pX11_summed [.ref 172, .int (mk f d.2.1.length), .int (nI t)] h M (some (.int (nI (mon f A d.2.1.length)))) h M := by
  obtain ⟨k172, rS, rLs, rKn, rPg, rRl, rRk, rTp, rCu, rLe, rLt, rSm, rIk, rLn, rLg, rCe, ⟨kS, nS⟩, ⟨kLs, nLs⟩, ⟨kKn, nKn⟩, ⟨kPg, nPg⟩, ⟨kRl, nRl⟩, ⟨kRk, nRk⟩, ⟨kTp, nTp⟩, ⟨kCu, nCu⟩, ⟨kLe, nLe⟩, ⟨kLt, nLt⟩, ⟨kSm, nSm⟩, ⟨kIk, nIk⟩, ⟨kLn, nLn⟩, ⟨kLg, nLg⟩, kCe, nCe⟩ := id hl
  obtain ⟨g1, g2, g3, g4, g5, ⟨g6, g6'⟩, g7, g8⟩ := id hv
  have hpe := q_people h M hl hv
  have loop : ∀ dd k, k + dd = d.2.1.length → pr_E pX11_summed 5 [some (.ref 172), some (.int (mk f d.2.1.length)), some (.int (nI t)), some (.int (nI (mon f A k))), some (.int (nI k))] [] h M (some (.int (nI (mon f A d.2.1.length)))) h M := by
    intro dd
    induction dd with
    | zero =>
      intro k hk
      obtain rfl : k = d.2.1.length := by omega
      have e1 : nI d.2.1.length ≤ nI d.2.1.length := nI_le (Nat.le_refl _) (by omega)
      refine pr_seq (pc' := 8) 2 rfl ⟨⟨trivial, trivial⟩, (by first | decide | assumption)⟩ ?_
      try simp (disch := omega) only [rS, rI_mul, nI_add, nI_1, nI_clamp, c24, pr_8_24, pr_i_0, pr_i_1]
      refine pr_cv [] rfl rfl rfl rfl rfl (Nat.le_of_ble_eq_true rfl) (by first | assumption | decide | (simp (disch := omega) only [rS, rI_mul, nI_add, nI_1, nI_clamp, c24, pr_8_24, pr_i_0, pr_i_1]; first | assumption | exact ⟨Or.inl (by assumption), rvin (by assumption) (by omega) (by decide)⟩ | exact ⟨by assumption, rvin (by assumption) (by omega) (by decide)⟩ | exact ⟨⟨by omega, by omega⟩, rvin (by assumption) (by omega) (by decide)⟩ | exact ⟨Or.inl (by assumption), by assumption⟩ | exact ⟨Or.inr (by assumption), by assumption⟩ | exact ⟨by assumption, by assumption⟩ | decide | omega)) (Nat.le_of_ble_eq_true rfl) (hpe) ?_
      refine pr_ic rfl (fun h11 => ?_) (fun h11 => ?_)
      · simp only [ab_cmp, pr_8_24, pr_i_0, pr_i_1] at h11
        first
        | contradiction
        | exact absurd trivial h11
        | exact absurd h11 (by decide)
        | exact absurd (Classical.not_not.mp h11) (by decide)
        | skip
          refine pr_seq (pc' := 50) 1 rfl ⟨trivial, trivial⟩ ?_
          try simp (disch := omega) only [rS, rI_mul, nI_add, nI_1, nI_clamp, c24, pr_8_24, pr_i_0, pr_i_1]
          exact pr_irM rfl (by rfl) trivial (by rfl)
      · simp only [ab_cmp, pr_8_24, pr_i_0, pr_i_1] at h11
        exact absurd e1 h11
    | succ dd ih =>
      intro k hk
      have e1 : ¬ nI d.2.1.length ≤ nI k := nI_ge (by omega) (by omega)
      have hk2 : k < d.2.1.length := by omega
      have hb := mk_bit f (n := d.2.1.length) (p := k) (by omega) hk2
      have y := hA k hk2
      have hh := ih (k + 1) (by omega)
      cases c : f k with
      | true =>
        rw [c] at hb
        have z : (mk f d.2.1.length >>> (nI k &&& 31)) &&& 1 = 1 := hb
        rw [mon_s1 c] at hh
        refine pr_seq (pc' := 8) 2 rfl ⟨⟨trivial, trivial⟩, (by first | decide | assumption)⟩ ?_
        try simp (disch := omega) only [y, rS, rI_mul, nI_add, nI_1, nI_clamp, c24, pr_8_24, pr_i_0, pr_i_1]
        refine pr_cv [] rfl rfl rfl rfl rfl (Nat.le_of_ble_eq_true rfl) (by first | assumption | decide | (simp (disch := omega) only [y, rS, rI_mul, nI_add, nI_1, nI_clamp, c24, pr_8_24, pr_i_0, pr_i_1]; first | assumption | exact ⟨Or.inl (by assumption), rvin (by assumption) (by omega) (by decide)⟩ | exact ⟨by assumption, rvin (by assumption) (by omega) (by decide)⟩ | exact ⟨⟨by omega, by omega⟩, rvin (by assumption) (by omega) (by decide)⟩ | exact ⟨Or.inl (by assumption), by assumption⟩ | exact ⟨Or.inr (by assumption), by assumption⟩ | exact ⟨by assumption, by assumption⟩ | decide | omega)) (Nat.le_of_ble_eq_true rfl) (hpe) ?_
        refine pr_ic rfl (fun h11 => ?_) (fun h11 => ?_)
        · simp only [ab_cmp, pr_8_24, pr_i_0, pr_i_1] at h11
          exact absurd h11 e1
        · simp only [ab_cmp, pr_8_24, pr_i_0, pr_i_1] at h11
          first
          | contradiction
          | exact absurd trivial h11
          | exact absurd h11 (by decide)
          | exact absurd (Classical.not_not.mp h11) (by decide)
          | skip
            refine pr_seq (pc' := 22) 7 rfl ⟨⟨⟨⟨⟨⟨⟨trivial, trivial⟩, trivial⟩, trivial⟩, trivial⟩, trivial⟩, trivial⟩, trivial⟩ ?_
            try simp (disch := omega) only [y, rS, rI_mul, nI_add, nI_1, nI_clamp, c24, pr_8_24, pr_i_0, pr_i_1]
            refine pr_ic rfl (fun h22 => ?_) (fun h22 => ?_)
            · simp only [ab_cmp, pr_8_24, pr_i_0, pr_i_1] at h22
              exact absurd z h22
            · simp only [ab_cmp, pr_8_24, pr_i_0, pr_i_1] at h22
              first
              | contradiction
              | exact absurd trivial h22
              | exact absurd h22 (by decide)
              | exact absurd (Classical.not_not.mp h22) (by decide)
              | skip
                refine pr_seq (pc' := 5) 13 rfl ⟨⟨⟨⟨⟨⟨⟨⟨⟨⟨⟨⟨⟨trivial, (by first | decide | assumption)⟩, (by assumption)⟩, trivial⟩, trivial⟩, trivial⟩, trivial⟩, trivial⟩, (by first | assumption | decide | (simp (disch := omega) only [y, rS, rI_mul, nI_add, nI_1, nI_clamp, c24, pr_8_24, pr_i_0, pr_i_1]; first | assumption | exact ⟨Or.inl (by assumption), rvin (by assumption) (by omega) (by decide)⟩ | exact ⟨by assumption, rvin (by assumption) (by omega) (by decide)⟩ | exact ⟨⟨by omega, by omega⟩, rvin (by assumption) (by omega) (by decide)⟩ | exact ⟨Or.inl (by assumption), by assumption⟩ | exact ⟨Or.inr (by assumption), by assumption⟩ | exact ⟨by assumption, by assumption⟩ | decide | omega))⟩, trivial⟩, trivial⟩, trivial⟩, trivial⟩, trivial⟩ ?_
                try simp (disch := omega) only [y, rS, rI_mul, nI_add, nI_1, nI_clamp, c24, pr_8_24, pr_i_0, pr_i_1]
                exact hh
      | false =>
        rw [c] at hb
        have z : ¬ (mk f d.2.1.length >>> (nI k &&& 31)) &&& 1 = 1 := by rw [hb]; decide
        rw [mon_s0 c] at hh
        have e0 : nI (mon f A k) + 0 = nI (mon f A k) := Int32.add_zero _
        refine pr_seq (pc' := 8) 2 rfl ⟨⟨trivial, trivial⟩, (by first | decide | assumption)⟩ ?_
        try simp (disch := omega) only [y, e0, rS, rI_mul, nI_add, nI_1, nI_clamp, c24, pr_8_24, pr_i_0, pr_i_1]
        refine pr_cv [] rfl rfl rfl rfl rfl (Nat.le_of_ble_eq_true rfl) (by first | assumption | decide | (simp (disch := omega) only [y, e0, rS, rI_mul, nI_add, nI_1, nI_clamp, c24, pr_8_24, pr_i_0, pr_i_1]; first | assumption | exact ⟨Or.inl (by assumption), rvin (by assumption) (by omega) (by decide)⟩ | exact ⟨by assumption, rvin (by assumption) (by omega) (by decide)⟩ | exact ⟨⟨by omega, by omega⟩, rvin (by assumption) (by omega) (by decide)⟩ | exact ⟨Or.inl (by assumption), by assumption⟩ | exact ⟨Or.inr (by assumption), by assumption⟩ | exact ⟨by assumption, by assumption⟩ | decide | omega)) (Nat.le_of_ble_eq_true rfl) (hpe) ?_
        refine pr_ic rfl (fun h11 => ?_) (fun h11 => ?_)
        · simp only [ab_cmp, pr_8_24, pr_i_0, pr_i_1] at h11
          exact absurd h11 e1
        · simp only [ab_cmp, pr_8_24, pr_i_0, pr_i_1] at h11
          first
          | contradiction
          | exact absurd trivial h11
          | exact absurd h11 (by decide)
          | exact absurd (Classical.not_not.mp h11) (by decide)
          | skip
            refine pr_seq (pc' := 22) 7 rfl ⟨⟨⟨⟨⟨⟨⟨trivial, trivial⟩, trivial⟩, trivial⟩, trivial⟩, trivial⟩, trivial⟩, trivial⟩ ?_
            try simp (disch := omega) only [y, e0, rS, rI_mul, nI_add, nI_1, nI_clamp, c24, pr_8_24, pr_i_0, pr_i_1]
            refine pr_ic rfl (fun h22 => ?_) (fun h22 => ?_)
            · simp only [ab_cmp, pr_8_24, pr_i_0, pr_i_1] at h22
              first
              | contradiction
              | exact absurd trivial h22
              | exact absurd h22 (by decide)
              | exact absurd (Classical.not_not.mp h22) (by decide)
              | skip
                refine pr_seq (pc' := 5) 5 rfl ⟨⟨⟨⟨⟨trivial, trivial⟩, trivial⟩, trivial⟩, trivial⟩, trivial⟩ ?_
                try simp (disch := omega) only [y, e0, rS, rI_mul, nI_add, nI_1, nI_clamp, c24, pr_8_24, pr_i_0, pr_i_1]
                exact hh
            · simp only [ab_cmp, pr_8_24, pr_i_0, pr_i_1] at h22
              exact absurd (Classical.not_not.mp h22) z
  refine pr_seq (pc' := 5) 4 rfl ⟨⟨⟨⟨trivial, trivial⟩, trivial⟩, trivial⟩, trivial⟩ ?_
  exact loop d.2.1.length 0 (by omega)
theorem q_worthHaving {d : Ld} {f : Nat → Bool} (h : ab_H) (M : ab_M) (hl : rL h M.2.2) (hv : pg_r (M.1 173) d) : pr_C pX11_worthHaving [.ref 172, .int (mk f d.2.1.length)] h M (some (.int (a_wh f (lW d) (lD d) d.2.1.length))) h M := by
  obtain ⟨k172, rS, rLs, rKn, rPg, rRl, rRk, rTp, rCu, rLe, rLt, rSm, rIk, rLn, rLg, rCe, ⟨kS, nS⟩, ⟨kLs, nLs⟩, ⟨kKn, nKn⟩, ⟨kPg, nPg⟩, ⟨kRl, nRl⟩, ⟨kRk, nRk⟩, ⟨kTp, nTp⟩, ⟨kCu, nCu⟩, ⟨kLe, nLe⟩, ⟨kLt, nLt⟩, ⟨kSm, nSm⟩, ⟨kIk, nIk⟩, ⟨kLn, nLn⟩, ⟨kLg, nLg⟩, kCe, nCe⟩ := id hl
  obtain ⟨g1, g2, g3, g4, g5, ⟨g6, g6'⟩, g7, g8⟩ := id hv
  have h1 := q_summed (t := 1) (f := f) (A := lD d) h M hl hv (by decide) (fun p hp => (g8 p hp).2.2.1)
  have h2 := q_summed (t := 2) (f := f) (A := lW d) h M hl hv (by decide) (fun p hp => (g8 p hp).2.2.2.2.1)
  have c10000 : (10000 : Int32) = nI 10000 := rfl
  have n1 : (1 : Int32) = nI 1 := rfl
  refine pr_seq (pc' := 6) 4 rfl ⟨⟨⟨⟨trivial, trivial⟩, (by first | assumption | (simp only [c10000, c2, n1, pr_16_10000, pr_i_1, pr_i_2]; first | assumption | decide | exact ⟨by assumption, by assumption⟩ | exact ⟨Or.inl (by assumption), by assumption⟩ | omega) | decide | exact ⟨Or.inl (by assumption), by assumption⟩ | exact ⟨by assumption, by assumption⟩ | omega)⟩, trivial⟩, trivial⟩ ?_
  try simp only [c10000, c2, n1, pr_16_10000, pr_i_1, pr_i_2]
  refine pr_cv [_, _] rfl rfl rfl rfl rfl (Nat.le_of_ble_eq_true rfl) (by first | assumption | (simp only [c10000, c2, n1, pr_16_10000, pr_i_1, pr_i_2]; first | assumption | decide | exact ⟨by assumption, by assumption⟩ | exact ⟨Or.inl (by assumption), by assumption⟩ | omega) | decide | exact ⟨Or.inl (by assumption), by assumption⟩ | exact ⟨by assumption, by assumption⟩ | omega) (Nat.le_of_ble_eq_true rfl) (h2) ?_
  refine pr_seq (pc' := 13) 4 rfl ⟨⟨⟨⟨trivial, trivial⟩, (by first | assumption | (simp only [c10000, c2, n1, pr_16_10000, pr_i_1, pr_i_2]; first | assumption | decide | exact ⟨by assumption, by assumption⟩ | exact ⟨Or.inl (by assumption), by assumption⟩ | omega) | decide | exact ⟨Or.inl (by assumption), by assumption⟩ | exact ⟨by assumption, by assumption⟩ | omega)⟩, trivial⟩, trivial⟩ ?_
  try simp only [c10000, c2, n1, pr_16_10000, pr_i_1, pr_i_2]
  refine pr_cv [_, _] rfl rfl rfl rfl rfl (Nat.le_of_ble_eq_true rfl) (by first | assumption | (simp only [c10000, c2, n1, pr_16_10000, pr_i_1, pr_i_2]; first | assumption | decide | exact ⟨by assumption, by assumption⟩ | exact ⟨Or.inl (by assumption), by assumption⟩ | omega) | decide | exact ⟨Or.inl (by assumption), by assumption⟩ | exact ⟨by assumption, by assumption⟩ | omega) (Nat.le_of_ble_eq_true rfl) (h1) ?_
  refine pr_seq (pc' := 17) 1 rfl ⟨trivial, trivial⟩ ?_
  try simp only [c10000, c2, n1, pr_16_10000, pr_i_1, pr_i_2]
  exact pr_irM rfl (by rfl) trivial (by rfl)
