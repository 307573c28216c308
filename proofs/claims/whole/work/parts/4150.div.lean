
/-! ===== division ===== -/
theorem nI_div {a m : Nat} (ha : a < 2 ^ 31) (hm : m < 2 ^ 31) : nI a / nI m = nI (a / m) := by
  apply Int32.toInt_inj.mp
  have hd : a / m < 2 ^ 31 := Nat.lt_of_le_of_lt (Nat.div_le_self _ _) ha
  rw [Int32.toInt_div, nI_toInt ha, nI_toInt hm, nI_toInt hd, ← Int.ofNat_tdiv]
  have h0 : (0 : Int) ≤ ((a / m : Nat) : Int) := Int.natCast_nonneg _
  apply Int.bmod_eq_of_le
  · omega
  · omega
theorem nI_mul (a b : Nat) : nI a * nI b = nI (a * b) := (Int32.ofNat_mul a b).symm
theorem nI_rem {a m : Nat} (ha : a < 2 ^ 31) (hm : m < 2 ^ 31) : nI a - nI a / nI m * nI m = nI (a % m) := by
  rw [nI_div ha hm, nI_mul, i_sub (Nat.div_mul_le_self a m)]
  congr 1
  have := Nat.div_add_mod a m
  rw [Nat.mul_comm] at this
  omega
theorem nI_u (s : Int32) : nI s.toUInt32.toNat = s := by
  apply Int32.toBitVec_inj.mp
  show BitVec.ofNat 32 s.toBitVec.toNat = s.toBitVec
  exact BitVec.ofNat_toNat _ _ |>.trans (by simp)
theorem yv_u (s : Int32) : us s 16 &&& 32767 = nI (yv s) := by
  unfold us yv
  have h1 : s.toUInt32.toNat < 2 ^ 32 := s.toUInt32.toNat_lt
  have h2 := i_ushr h1 16 (by decide)
  rw [nI_u] at h2
  rw [show (16 : Int32) = nI 16 from rfl, h2, show (32767 : Int32) = nI 32767 from rfl, i_and, show (32767 : Nat) = 2 ^ 15 - 1 from rfl, Nat.and_two_pow_sub_one_eq_mod]
theorem yv_s (s : Int32) : s >>> ((16 : Int32) &&& 31) &&& 32767 = nI (yv s) := by
  rw [← yv_u]
  unfold us
  rw [show (16 : Int32) &&& 31 = 16 from rfl, show (16 : Int32).toUInt32 &&& Int32.toUInt32 31 = 16 from rfl]
  apply Int32.toBitVec_inj.mp
  show (s.toBitVec.sshiftRight' (16#32 % 32#32)) &&& 32767#32 = (s.toBitVec >>> (16#32 % 32#32)) &&& 32767#32
  apply BitVec.eq_of_getLsbD_eq
  intro i hi
  show ((s.toBitVec.sshiftRight 16) &&& 32767#32).getLsbD i = ((s.toBitVec >>> 16) &&& 32767#32).getLsbD i
  rw [BitVec.getLsbD_and, BitVec.getLsbD_and, BitVec.getLsbD_sshiftRight, BitVec.getLsbD_ushiftRight]
  by_cases h : i < 16
  · rw [if_pos (by omega)]
    simp [show ¬ 32 ≤ i by omega]
  · have z : (32767#32).getLsbD i = false := by
      have : ∀ j : Fin 32, 15 ≤ j.val → (32767#32).getLsbD j.val = false := by decide
      exact this ⟨i, hi⟩ (by show 15 ≤ i; omega)
    rw [z, Bool.and_false, Bool.and_false]
