
/-! ===== masks as numbers; counting bits ===== -/
def bs (f : Nat → Bool) : Nat → Nat
  | 0 => 0
  | n + 1 => bs f n + (if f n then 2 ^ n else 0)
theorem bs_lt (f : Nat → Bool) : ∀ n, bs f n < 2 ^ n
  | 0 => by show 0 < 1; decide
  | n + 1 => by
    have := bs_lt f n
    show bs f n + (if f n then 2 ^ n else 0) < 2 ^ (n + 1)
    rw [Nat.pow_succ]
    split <;> omega
theorem i_or (a b : Nat) : nI a ||| nI b = nI (a ||| b) := by
  apply Int32.toBitVec_inj.mp
  show BitVec.ofNat 32 a ||| BitVec.ofNat 32 b = BitVec.ofNat 32 (a ||| b)
  apply BitVec.eq_of_toNat_eq
  simp only [BitVec.toNat_or, BitVec.toNat_ofNat, Nat.or_mod_two_pow]
theorem i_and (a b : Nat) : nI a &&& nI b = nI (a &&& b) := by
  apply Int32.toBitVec_inj.mp
  show BitVec.ofNat 32 a &&& BitVec.ofNat 32 b = BitVec.ofNat 32 (a &&& b)
  apply BitVec.eq_of_toNat_eq
  simp only [BitVec.toNat_and, BitVec.toNat_ofNat, Nat.and_mod_two_pow]
theorem i_bit (n : Nat) (h : n < 32) : (1 : Int32) <<< (nI n &&& 31) = nI (2 ^ n) := by
  have : ∀ m : Fin 32, (1 : Int32) <<< (nI m.val &&& 31) = nI (2 ^ m.val) := by decide
  exact this ⟨n, h⟩
theorem or_pow {a n : Nat} (h : a < 2 ^ n) : a ||| 2 ^ n = a + 2 ^ n := by
  have := Nat.two_pow_add_eq_or_of_lt h 1
  rw [Nat.mul_one] at this
  rw [Nat.or_comm, ← this, Nat.add_comm]
theorem mk_bs (f : Nat → Bool) : ∀ n, n ≤ 32 → mk f n = nI (bs f n)
  | 0, _ => rfl
  | n + 1, h => by
    have ih := mk_bs f n (by omega)
    cases hf : f n with
    | true =>
      rw [mk_s1 hf, ih, i_bit n (by omega), i_or, or_pow (bs_lt f n)]
      show _ = nI (bs f n + (if f n then 2 ^ n else 0))
      rw [hf]; rfl
    | false =>
      rw [mk_s0 hf, ih]
      show _ = nI (bs f n + (if f n then 2 ^ n else 0))
      rw [hf]; rfl
theorem bs_bit (f : Nat → Bool) (i : Nat) : ∀ n, i < n → bs f n / 2 ^ i % 2 = if f i then 1 else 0 := by
  intro n
  induction n with
  | zero => intro h; omega
  | succ n ih =>
    intro h
    show (bs f n + (if f n then 2 ^ n else 0)) / 2 ^ i % 2 = _
    by_cases e : i = n
    · subst e
      have := bs_lt f i
      cases hf : f i with
      | true =>
        rw [if_pos rfl, if_pos rfl, Nat.add_div_right _ (Nat.two_pow_pos i), Nat.div_eq_of_lt this]
      | false =>
        rw [if_neg (by decide), if_neg (by decide), Nat.add_zero, Nat.div_eq_of_lt this]
    · have hin : i < n := by omega
      cases hf : f n with
      | true =>
        rw [if_pos rfl]
        obtain ⟨d, rfl⟩ : ∃ d, n = i + (d + 1) := ⟨n - i - 1, by omega⟩
        rw [Nat.pow_add, Nat.add_mul_div_left _ _ (Nat.two_pow_pos i), Nat.pow_succ, Nat.mul_comm (2 ^ d) 2, Nat.add_mul_mod_self_left]
        exact ih hin
      | false =>
        rw [if_neg (by decide), Nat.add_zero]
        exact ih hin
theorem bs_congr {f g : Nat → Bool} : ∀ n, (∀ i, i < n → f i = g i) → bs f n = bs g n
  | 0, _ => rfl
  | n + 1, h => by
    show bs f n + (if f n then 2 ^ n else 0) = bs g n + (if g n then 2 ^ n else 0)
    rw [bs_congr n (fun i hi => h i (by omega)), h n (by omega)]
theorem cnt_congr {f g : Nat → Bool} : ∀ n, (∀ i, i < n → f i = g i) → cnt f n = cnt g n
  | 0, _ => rfl
  | n + 1, h => by
    show cnt f n + (if f n then 1 else 0) = cnt g n + (if g n then 1 else 0)
    rw [cnt_congr n (fun i hi => h i (by omega)), h n (by omega)]
theorem bs_more {f : Nat → Bool} {n : Nat} : ∀ m, (∀ i, n ≤ i → i < n + m → f i = false) → bs f (n + m) = bs f n
  | 0, _ => rfl
  | m + 1, h => by
    show bs f (n + m) + (if f (n + m) then 2 ^ (n + m) else 0) = _
    rw [bs_more m (fun i a b => h i a (by omega)), h (n + m) (by omega) (by omega)]
    rfl
theorem cnt_more {f : Nat → Bool} {n : Nat} : ∀ m, (∀ i, n ≤ i → i < n + m → f i = false) → cnt f (n + m) = cnt f n
  | 0, _ => rfl
  | m + 1, h => by
    show cnt f (n + m) + (if f (n + m) then 1 else 0) = _
    rw [cnt_more m (fun i a b => h i a (by omega)), h (n + m) (by omega) (by omega)]
    rfl
/-! the pipeline, on bytes -/
def q1 (b : Nat) : Nat := b - (b / 2 &&& 85)
def q2 (b : Nat) : Nat := (q1 b &&& 51) + (q1 b / 4 &&& 51)
def q3 (b : Nat) : Nat := (q2 b + q2 b / 16) &&& 15
def n4 (a b c d : Nat) : Nat := a + 256 * (b + 256 * (c + 256 * d))
theorem and_dig {a c q r : Nat} (ha : a < 256) (hc : c < 256) : (a + 256 * q) &&& (c + 256 * r) = (a &&& c) + 256 * (q &&& r) := by
  have e : ∀ x y : Nat, x < 256 → x + 256 * y = y <<< 8 ||| x := by
    intro x y hx
    have := Nat.two_pow_add_eq_or_of_lt (i := 8) (b := x) hx y
    rw [Nat.shiftLeft_eq, Nat.mul_comm y, ← this, Nat.add_comm]
  have hac : a &&& c < 256 := Nat.lt_of_le_of_lt Nat.and_le_left ha
  rw [e a q ha, e c r hc, e _ _ hac]
  apply Nat.eq_of_testBit_eq
  intro i
  simp only [Nat.testBit_and, Nat.testBit_or, Nat.testBit_shiftLeft]
  by_cases hi : 8 ≤ i
  · have z : ∀ x : Nat, x < 256 → x.testBit i = false := fun x hx => Nat.testBit_lt_two_pow (Nat.lt_of_lt_of_le hx (show 2 ^ 8 ≤ 2 ^ i from Nat.pow_le_pow_right (by decide) hi))
    rw [z a ha, z c hc]
    simp [hi]
  · simp [hi]
theorem and_n4 {a b c d x y z w : Nat} (ha : a < 256) (hb : b < 256) (hc : c < 256) (hx : x < 256) (hy : y < 256) (hz : z < 256) : n4 a b c d &&& n4 x y z w = n4 (a &&& x) (b &&& y) (c &&& z) (d &&& w) := by
  unfold n4
  rw [and_dig ha hx, and_dig hb hy, and_dig hc hz]
theorem q1_ok : ∀ b, b < 256 → (b / 2 &&& 85) ≤ b ∧ q1 b ≤ 170 := by
  have : ∀ b : Fin 256, (b.val / 2 &&& 85) ≤ b.val ∧ q1 b.val ≤ 170 := by decide +kernel
  exact fun b hb => this ⟨b, hb⟩
theorem q1_c : ∀ b c, b < 256 → c < 2 → (b / 2 + 128 * c) &&& 85 = b / 2 &&& 85 := by
  have : ∀ (b : Fin 256) (c : Fin 2), (b.val / 2 + 128 * c.val) &&& 85 = b.val / 2 &&& 85 := by decide +kernel
  exact fun b c hb hc => this ⟨b, hb⟩ ⟨c, hc⟩
theorem q2_c : ∀ b c, b < 256 → c < 4 → (b / 4 + 64 * c) &&& 51 = b / 4 &&& 51 := by
  have : ∀ (b : Fin 256) (c : Fin 4), (b.val / 4 + 64 * c.val) &&& 51 = b.val / 4 &&& 51 := by decide +kernel
  exact fun b c hb hc => this ⟨b, hb⟩ ⟨c, hc⟩
theorem q2_ok : ∀ b, b < 256 → q2 b ≤ 68 ∧ q2 b % 16 ≤ 4 := by
  have : ∀ b : Fin 256, q2 b.val ≤ 68 ∧ q2 b.val % 16 ≤ 4 := by decide +kernel
  exact fun b hb => this ⟨b, hb⟩
theorem q3_c : ∀ b c, b ≤ 68 → c ≤ 4 → (b + (b / 16 + 16 * c)) &&& 15 = (b + b / 16) &&& 15 := by
  have : ∀ (b : Fin 69) (c : Fin 5), (b.val + (b.val / 16 + 16 * c.val)) &&& 15 = (b.val + b.val / 16) &&& 15 := by decide +kernel
  exact fun b c hb hc => this ⟨b, by omega⟩ ⟨c, by omega⟩
theorem q3_ok : ∀ b, b < 256 → q3 b ≤ 8 := by
  have : ∀ b : Fin 256, q3 b.val ≤ 8 := by decide +kernel
  exact fun b hb => this ⟨b, hb⟩
def b8 (f : Nat → Bool) (k : Nat) : Nat := (f k).toNat + 2 * (f (k + 1)).toNat + 4 * (f (k + 2)).toNat + 8 * (f (k + 3)).toNat + 16 * (f (k + 4)).toNat + 32 * (f (k + 5)).toNat + 64 * (f (k + 6)).toNat + 128 * (f (k + 7)).toNat
theorem q3_b8 (f : Nat → Bool) (k : Nat) : q3 (b8 f k) = (f k).toNat + (f (k + 1)).toNat + (f (k + 2)).toNat + (f (k + 3)).toNat + (f (k + 4)).toNat + (f (k + 5)).toNat + (f (k + 6)).toNat + (f (k + 7)).toNat := by
  have : ∀ a b c d e g h i : Bool, q3 (a.toNat + 2 * b.toNat + 4 * c.toNat + 8 * d.toNat + 16 * e.toNat + 32 * g.toNat + 64 * h.toNat + 128 * i.toNat) = a.toNat + b.toNat + c.toNat + d.toNat + e.toNat + g.toNat + h.toNat + i.toNat := by decide +kernel
  exact this _ _ _ _ _ _ _ _
theorem b8_lt (f : Nat → Bool) (k : Nat) : b8 f k < 256 := by
  unfold b8
  have : ∀ x : Bool, x.toNat ≤ 1 := by decide
  have h0 := this (f k)
  have h1 := this (f (k + 1))
  have h2 := this (f (k + 2))
  have h3 := this (f (k + 3))
  have h4 := this (f (k + 4))
  have h5 := this (f (k + 5))
  have h6 := this (f (k + 6))
  have h7 := this (f (k + 7))
  omega
theorem bs_32 (f : Nat → Bool) : bs f 32 = n4 (b8 f 0) (b8 f 8) (b8 f 16) (b8 f 24) := by
  have hb : ∀ (x : Bool) (n : Nat), (if x then n else 0) = n * x.toNat := by intro x n; cases x <;> simp
  unfold n4 b8
  simp only [bs, hb, Nat.reduceAdd, Nat.reducePow, Nat.zero_add]
  omega
theorem cnt_32 (f : Nat → Bool) : cnt f 32 = q3 (b8 f 0) + q3 (b8 f 8) + q3 (b8 f 16) + q3 (b8 f 24) := by
  have hb : ∀ (x : Bool), (if x then 1 else 0) = x.toNat := by intro x; cases x <;> rfl
  rw [q3_b8, q3_b8, q3_b8, q3_b8]
  simp only [cnt, hb, Nat.reduceAdd, Nat.zero_add]
  omega
theorem i_ushr {X : Nat} (hX : X < 2 ^ 32) (k : Nat) (hk : k < 32) : ((nI X).toUInt32 >>> ((nI k).toUInt32 &&& Int32.toUInt32 31)).toInt32 = nI (X / 2 ^ k) := by
  have e : (nI k).toUInt32 &&& Int32.toUInt32 31 = UInt32.ofNat k := by
    have : ∀ m : Fin 32, (nI m.val).toUInt32 &&& Int32.toUInt32 31 = UInt32.ofNat m.val := by decide
    exact this ⟨k, hk⟩
  rw [e]
  apply Int32.toBitVec_inj.mp
  show (nI X).toUInt32.toBitVec >>> ((UInt32.ofNat k).toBitVec % 32) = BitVec.ofNat 32 (X / 2 ^ k)
  apply BitVec.eq_of_toNat_eq
  show ((BitVec.ofNat 32 X) >>> ((BitVec.ofNat 32 k) % 32#32)).toNat = _
  have hk2 : ((BitVec.ofNat 32 k) % 32#32).toNat = k := by
    rw [BitVec.toNat_umod]
    show k % 2 ^ 32 % 32 = k
    omega
  rw [BitVec.ushiftRight_eq', BitVec.toNat_ushiftRight, hk2, BitVec.toNat_ofNat, BitVec.toNat_ofNat, Nat.mod_eq_of_lt hX, Nat.shiftRight_eq_div_pow, Nat.mod_eq_of_lt (Nat.lt_of_le_of_lt (Nat.div_le_self _ _) hX)]
theorem i_sub {a b : Nat} (h : b ≤ a) : nI a - nI b = nI (a - b) := by
  have e : nI a = nI (a - b) + nI b := by rw [nI_add]; congr 1; omega
  rw [e]
  grind
def us (x k : Int32) : Int32 := (x.toUInt32 >>> (k.toUInt32 &&& Int32.toUInt32 31)).toInt32
def bc1 (x : Int32) : Int32 := x - (us x 1 &&& 1431655765)
def bc2 (x : Int32) : Int32 := (x &&& 858993459) + (us x 2 &&& 858993459)
def bc3 (x : Int32) : Int32 := (x + us x 4) &&& 252645135
def bc4 (x : Int32) : Int32 := x + us x 8
def bc5 (x : Int32) : Int32 := x + us x 16
def bc (x : Int32) : Int32 := bc5 (bc4 (bc3 (bc2 (bc1 x)))) &&& 63
theorem n4_lt {a b c d : Nat} (ha : a < 256) (hb : b < 256) (hc : c < 256) (hd : d < 256) : n4 a b c d < 2 ^ 32 := by unfold n4; omega
theorem bc1_n {a b c d : Nat} (ha : a < 256) (hb : b < 256) (hc : c < 256) (hd : d < 256) : bc1 (nI (n4 a b c d)) = nI (n4 (q1 a) (q1 b) (q1 c) (q1 d)) := by
  unfold bc1 us
  rw [show (1 : Int32) = nI 1 from rfl, i_ushr (n4_lt ha hb hc hd) 1 (by decide), show (1431655765 : Int32) = nI (n4 85 85 85 85) from rfl, i_and]
  have e : n4 a b c d / 2 ^ 1 = n4 (a / 2 + 128 * (b % 2)) (b / 2 + 128 * (c % 2)) (c / 2 + 128 * (d % 2)) (d / 2 + 128 * 0) := by unfold n4; omega
  rw [e, and_n4 (by omega) (by omega) (by omega) (by decide) (by decide) (by decide), q1_c _ _ ha (by omega), q1_c _ _ hb (by omega), q1_c _ _ hc (by omega), q1_c _ _ hd (by omega)]
  have ka := q1_ok a ha
  have kb := q1_ok b hb
  have kc := q1_ok c hc
  have kd := q1_ok d hd
  rw [i_sub (by unfold n4; omega)]
  congr 1
  unfold q1
  generalize a / 2 &&& 85 = a' at *
  generalize b / 2 &&& 85 = b' at *
  generalize c / 2 &&& 85 = c' at *
  generalize d / 2 &&& 85 = d' at *
  unfold n4
  omega
theorem bc2_n {a b c d : Nat} (ha : a < 256) (hb : b < 256) (hc : c < 256) (hd : d < 256) : bc2 (nI (n4 (q1 a) (q1 b) (q1 c) (q1 d))) = nI (n4 (q2 a) (q2 b) (q2 c) (q2 d)) := by
  have ka := (q1_ok a ha).2
  have kb := (q1_ok b hb).2
  have kc := (q1_ok c hc).2
  have kd := (q1_ok d hd).2
  unfold bc2 us
  rw [show (2 : Int32) = nI 2 from rfl, i_ushr (n4_lt (by omega) (by omega) (by omega) (by omega)) 2 (by decide), show (858993459 : Int32) = nI (n4 51 51 51 51) from rfl, i_and, i_and, nI_add]
  unfold q2
  generalize q1 a = a' at *
  generalize q1 b = b' at *
  generalize q1 c = c' at *
  generalize q1 d = d' at *
  have e : n4 a' b' c' d' / 2 ^ 2 = n4 (a' / 4 + 64 * (b' % 4)) (b' / 4 + 64 * (c' % 4)) (c' / 4 + 64 * (d' % 4)) (d' / 4 + 64 * 0) := by unfold n4; omega
  rw [e, and_n4 (by omega) (by omega) (by omega) (by decide) (by decide) (by decide), and_n4 (by omega) (by omega) (by omega) (by decide) (by decide) (by decide), q2_c _ _ (by omega) (by omega), q2_c _ _ (by omega) (by omega), q2_c _ _ (by omega) (by omega), q2_c _ _ (by omega) (by omega)]
  congr 1
  unfold n4
  omega
theorem bc3_n {a b c d : Nat} (ha : a < 256) (hb : b < 256) (hc : c < 256) (hd : d < 256) : bc3 (nI (n4 (q2 a) (q2 b) (q2 c) (q2 d))) = nI (n4 (q3 a) (q3 b) (q3 c) (q3 d)) := by
  have ka := q2_ok a ha
  have kb := q2_ok b hb
  have kc := q2_ok c hc
  have kd := q2_ok d hd
  unfold bc3 us
  rw [show (4 : Int32) = nI 4 from rfl, i_ushr (n4_lt (by omega) (by omega) (by omega) (by omega)) 4 (by decide), show (252645135 : Int32) = nI (n4 15 15 15 15) from rfl, nI_add, i_and]
  unfold q3
  generalize q2 a = a' at *
  generalize q2 b = b' at *
  generalize q2 c = c' at *
  generalize q2 d = d' at *
  have q3z := q3_c d' 0 kd.1 (by decide)
  have e : n4 a' b' c' d' + n4 a' b' c' d' / 2 ^ 4 = n4 (a' + (a' / 16 + 16 * (b' % 16))) (b' + (b' / 16 + 16 * (c' % 16))) (c' + (c' / 16 + 16 * (d' % 16))) (d' + (d' / 16 + 16 * 0)) := by unfold n4; omega
  have r : ∀ x y, x ≤ 68 → y ≤ 68 → (x + (x / 16 + 16 * (y % 16))) &&& 15 = (x + x / 16) &&& 15 := by
    have : ∀ (x y : Fin 69), (x.val + (x.val / 16 + 16 * (y.val % 16))) &&& 15 = (x.val + x.val / 16) &&& 15 := by decide +kernel
    exact fun x y hx hy => this ⟨x, by omega⟩ ⟨y, by omega⟩
  rw [e, and_n4 (by omega) (by omega) (by omega) (by decide) (by decide) (by decide), r _ _ ka.1 kb.1, r _ _ kb.1 kc.1, r _ _ kc.1 kd.1, q3z]
theorem bc_n {a b c d : Nat} (ha : a < 256) (hb : b < 256) (hc : c < 256) (hd : d < 256) : bc (nI (n4 a b c d)) = nI (q3 a + q3 b + q3 c + q3 d) := by
  unfold bc
  rw [bc1_n ha hb hc hd, bc2_n ha hb hc hd, bc3_n ha hb hc hd]
  have ka := q3_ok a ha
  have kb := q3_ok b hb
  have kc := q3_ok c hc
  have kd := q3_ok d hd
  generalize q3 a = a' at *
  generalize q3 b = b' at *
  generalize q3 c = c' at *
  generalize q3 d = d' at *
  unfold bc4 us
  rw [show (8 : Int32) = nI 8 from rfl, i_ushr (n4_lt (by omega) (by omega) (by omega) (by omega)) 8 (by decide), nI_add]
  have e : n4 a' b' c' d' + n4 a' b' c' d' / 2 ^ 8 = n4 (a' + b') (b' + c') (c' + d') d' := by unfold n4; omega
  rw [e]
  unfold bc5 us
  rw [show (16 : Int32) = nI 16 from rfl, i_ushr (n4_lt (by omega) (by omega) (by omega) (by omega)) 16 (by decide), nI_add, show (63 : Int32) = nI 63 from rfl, i_and]
  have e5 : n4 (a' + b') (b' + c') (c' + d') d' / 2 ^ 16 = (c' + d') + 256 * d' := by unfold n4; omega
  rw [show (63 : Nat) = 2 ^ 6 - 1 from rfl, Nat.and_two_pow_sub_one_eq_mod, e5]
  clear e e5
  congr 1
  unfold n4
  omega
theorem bc_mk (f : Nat → Bool) (n : Nat) (hn : n ≤ 32) : bc (mk f n) = nI (cnt f n) := by
  have e1 : bs f n = bs (fun i => decide (i < n) && f i) 32 := by
    rw [bs_congr (g := fun i => decide (i < n) && f i) n (fun i hi => by simp [hi])]
    have := bs_more (f := fun i => decide (i < n) && f i) (n := n) (32 - n) (fun i a b => by simp; omega)
    rw [show n + (32 - n) = 32 by omega] at this
    exact this.symm
  have e2 : cnt f n = cnt (fun i => decide (i < n) && f i) 32 := by
    rw [cnt_congr (g := fun i => decide (i < n) && f i) n (fun i hi => by simp [hi])]
    have := cnt_more (f := fun i => decide (i < n) && f i) (n := n) (32 - n) (fun i a b => by simp; omega)
    rw [show n + (32 - n) = 32 by omega] at this
    exact this.symm
  rw [mk_bs f n hn, e1, e2, bs_32, bc_n (b8_lt _ _) (b8_lt _ _) (b8_lt _ _) (b8_lt _ _), cnt_32]
theorem c_bitCount (x : Int32) (h : ab_H) (M : ab_M) : pr_C pJ6_bitCount_0f7a4 [.int x] h M (some (.int (bc x))) h M := by
  refine pr_seq (pc' := 52) 41 rfl ⟨⟨⟨⟨⟨⟨⟨⟨⟨⟨⟨⟨⟨⟨⟨⟨⟨⟨⟨⟨⟨⟨⟨⟨⟨⟨⟨⟨⟨⟨⟨⟨⟨⟨⟨⟨⟨⟨⟨⟨⟨trivial, trivial⟩, trivial⟩, trivial⟩, trivial⟩, trivial⟩, trivial⟩, trivial⟩, trivial⟩, trivial⟩, trivial⟩, trivial⟩, trivial⟩, trivial⟩, trivial⟩, trivial⟩, trivial⟩, trivial⟩, trivial⟩, trivial⟩, trivial⟩, trivial⟩, trivial⟩, trivial⟩, trivial⟩, trivial⟩, trivial⟩, trivial⟩, trivial⟩, trivial⟩, trivial⟩, trivial⟩, trivial⟩, trivial⟩, trivial⟩, trivial⟩, trivial⟩, trivial⟩, trivial⟩, trivial⟩, trivial⟩, trivial⟩ ?_
  exact pr_irM rfl (by rfl) trivial (by rfl)
