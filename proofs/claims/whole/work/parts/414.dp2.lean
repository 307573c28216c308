
/-! ===== the two ways agree ===== -/
section DPG
variable {c : Nat → Nat} {sh : Nat → Nat → Nat}
theorem dB_lt {f : Nat → Nat → Nat} {i s m v : Nat} (h : dB c sh f i s m = v) (hv : v < 100000) : m < c i ∧ sh i m ≤ s ∧ v = m + f (i + 1) (s - sh i m) := by
  unfold dB at h
  by_cases q : m < c i ∧ sh i m ≤ s
  · rw [if_pos q] at h
    exact ⟨q.1, q.2, h.symm⟩
  · rw [if_neg q] at h
    omega
theorem gA {n s : Nat} (h0 : dL c sh n 0 s < 100000) : ∀ j, j ≤ n → dL c sh (n - j) j (gL c sh n s j) < 100000 ∧ sfA (fun k => sh k (gR c sh n s k)) j 0 + gL c sh n s j = s ∧ sfA (gR c sh n s) j 0 + dL c sh (n - j) j (gL c sh n s j) = dL c sh n 0 s ∧ vr c (gR c sh n s) 0 j := by
  intro j
  induction j with
  | zero => intro _; exact ⟨h0, by show 0 + s = s; omega, by show 0 + dL c sh n 0 s = _; omega, fun k a b => by omega⟩
  | succ j ih =>
    intro hj
    obtain ⟨h1, h2, h3, h4⟩ := ih (by omega)
    have e : n - j = (n - j - 1) + 1 := by omega
    rw [e] at h1 h3
    obtain ⟨m1, m2, m3⟩ := dM_spec (n - j - 1) j (gL c sh n s j) h1
    obtain ⟨b1, b2, b3⟩ := dB_lt m1 h1
    have eL : gL c sh n s (j + 1) = gL c sh n s j - sh j (gR c sh n s j) := rfl
    have e2 : n - (j + 1) = n - j - 1 := by omega
    rw [sfA_last, sfA_last, Nat.zero_add, eL, e2]
    have b1 : gR c sh n s j < c j := b1
    have b2 : sh j (gR c sh n s j) ≤ gL c sh n s j := b2
    have b3 : dL c sh (n - j - 1 + 1) j (gL c sh n s j) = gR c sh n s j + dL c sh (n - j - 1) (j + 1) (gL c sh n s j - sh j (gR c sh n s j)) := b3
    refine ⟨by omega, by omega, by omega, fun k a b => ?_⟩
    by_cases q : k = j
    · subst q; exact b1
    · exact h4 k a (by omega)
theorem gEnd {n s : Nat} (h0 : dL c sh n 0 s < 100000) : sfA (fun k => sh k (gR c sh n s k)) n 0 = s ∧ sfA (gR c sh n s) n 0 = dL c sh n 0 s ∧ vr c (gR c sh n s) 0 n := by
  obtain ⟨h1, h2, h3, h4⟩ := gA h0 n (Nat.le_refl _)
  rw [Nat.sub_self] at h1 h3
  unfold dL at h1
  by_cases z : gL c sh n s n = 0
  · have z2 : dL c sh 0 n (gL c sh n s n) = 0 := by unfold dL; exact if_pos z
    exact ⟨by omega, by omega, h4⟩
  · rw [if_neg z] at h1
    omega
def lo (r : Nat → Nat) (d i : Nat) : Nat := sfA (fun j => r j * 4 ^ (19 - j)) d i
theorem lo_lt (r : Nat → Nat) : ∀ d i, i + d ≤ 20 → (∀ j, i ≤ j → j < i + d → r j ≤ 3) → lo r d i < 4 ^ (20 - i)
  | 0, i, _, _ => Nat.pow_pos (by decide)
  | d + 1, i, h, hr => by
    have h1 := lo_lt r d (i + 1) (by omega) (fun j a b => hr j (by omega) (by omega))
    have h2 := hr i (by omega) (by omega)
    show r i * 4 ^ (19 - i) + lo r d (i + 1) < 4 ^ (20 - i)
    rw [show 20 - i = 19 - i + 1 by omega, Nat.pow_succ]
    rw [show 20 - (i + 1) = 19 - i by omega] at h1
    have h3 : r i * 4 ^ (19 - i) ≤ 3 * 4 ^ (19 - i) := Nat.mul_le_mul_right _ h2
    omega
theorem pc_eq (r : Nat → Nat) : ∀ d i, sfA (fun j => r j * un j) d i = sfA r d i * 2 ^ 40 + lo r d i
  | 0, _ => by simp [sfA, lo]
  | d + 1, i => by
    have := pc_eq r d (i + 1)
    show r i * un i + sfA (fun j => r j * un j) d (i + 1) = (r i + sfA r d (i + 1)) * 2 ^ 40 + (r i * 4 ^ (19 - i) + lo r d (i + 1))
    rw [this]
    unfold un
    rw [Nat.mul_add, Nat.add_mul]
    omega
theorem gOpt (hc : ∀ i, c i ≤ 4) {n s : Nat} (hn : n ≤ 20) : ∀ d j, j + d = n → ∀ r : Nat → Nat, vr c r j d → sfA (fun k => sh k (r k)) d j = gL c sh n s j → sfA r d j = dL c sh d j (gL c sh n s j) → dL c sh d j (gL c sh n s j) < 100000 → (∀ k, k < n → gR c sh n s k ≤ 3) → lo (gR c sh n s) d j ≤ lo r d j := by
  intro d
  induction d with
  | zero => intro j hj r v hs ht hL hg; exact Nat.le_refl _
  | succ d ih =>
    intro j hj r v hs ht hL hg
    have ed : n - j - 1 = d := by omega
    obtain ⟨m1, m2, m3⟩ := dM_spec d j (gL c sh n s j) hL
    have eg : dM c sh d j (gL c sh n s j) = gR c sh n s j := by unfold gR; rw [ed]
    rw [eg] at m1 m2 m3
    have hr := v j (by omega) (by omega)
    have hs' : sh j (r j) + sfA (fun k => sh k (r k)) d (j + 1) = gL c sh n s j := hs
    have ht' : r j + sfA r d (j + 1) = dL c sh (d + 1) j (gL c sh n s j) := ht
    have v' : vr c r (j + 1) d := fun k a b => v k (by omega) (by omega)
    have l2 := dL_2 (sh := sh) hc r d (j + 1) v'
    have eb : dB c sh (dL c sh d) j (gL c sh n s j) (r j) = r j + dL c sh d (j + 1) (sfA (fun k => sh k (r k)) d (j + 1)) := by
      unfold dB
      rw [if_pos ⟨hr, by omega⟩, ← hs', Nat.add_sub_cancel_left]
    have lb := dL_leB (c := c) (sh := sh) d j (gL c sh n s j) (r j) (by have := hc j; omega)
    have e1 : dB c sh (dL c sh d) j (gL c sh n s j) (r j) = dL c sh (d + 1) j (gL c sh n s j) := by omega
    have e2 : sfA r d (j + 1) = dL c sh d (j + 1) (sfA (fun k => sh k (r k)) d (j + 1)) := by omega
    have hle := m3 (r j) (by have := hc j; omega) e1
    have hlt := lo_lt (gR c sh n s) d (j + 1) (by omega) (fun k a b => hg k (by omega))
    rw [show 20 - (j + 1) = 19 - j by omega] at hlt
    show gR c sh n s j * 4 ^ (19 - j) + lo (gR c sh n s) d (j + 1) ≤ r j * 4 ^ (19 - j) + lo r d (j + 1)
    by_cases q : gR c sh n s j = r j
    · have eL : gL c sh n s (j + 1) = sfA (fun k => sh k (r k)) d (j + 1) := by
        show gL c sh n s j - sh j (gR c sh n s j) = _
        rw [q]; omega
      have := ih (j + 1) (by omega) r v' eL.symm (by rw [eL]; exact e2) (by rw [eL, ← e2]; omega) hg
      rw [q]
      omega
    · have h5 : (gR c sh n s j + 1) * 4 ^ (19 - j) ≤ r j * 4 ^ (19 - j) := Nat.mul_le_mul_right _ (by omega)
      rw [Nat.succ_mul] at h5
      omega
theorem sfA_le3 (r : Nat → Nat) : ∀ d i, (∀ j, i ≤ j → j < i + d → r j ≤ 3) → sfA r d i ≤ 3 * d
  | 0, _, _ => Nat.zero_le _
  | d + 1, i, h => by
    have h1 := sfA_le3 r d (i + 1) (fun j a b => h j (by omega) (by omega))
    have h2 := h i (by omega) (by omega)
    show r i + sfA r d (i + 1) ≤ _
    omega
theorem dE_some (hc : ∀ i, c i ≤ 4) {n s : Nat} (hn : n ≤ 20) (h : dL c sh n 0 s < 100000) : dE c sh n s = some (dL c sh n 0 s * 2 ^ 40 + lo (gR c sh n s) n 0) := by
  obtain ⟨e1, e2, e3⟩ := gEnd h
  have hg : ∀ k, k < n → gR c sh n s k ≤ 3 := fun k hk => by
    have := e3 k (by omega) (by omega)
    have := hc k
    omega
  obtain ⟨x, hx, hle⟩ := dE_2 (c := c) (sh := sh) (gR c sh n s) n e3
  rw [e1] at hx
  rw [pc_eq, e2] at hle
  obtain ⟨r, v, hs, hp⟩ := dE_1 n s x hx
  rw [pc_eq] at hp
  have hr : ∀ k, 0 ≤ k → k < 0 + n → r k ≤ 3 := fun k a b => by
    have := v k a b
    have := hc k
    omega
  have l1 := lo_lt (gR c sh n s) n 0 (by omega) (fun j a b => hg j (by omega))
  have l2 := dL_2 (sh := sh) hc r n 0 v
  rw [hs] at l2
  have l3 := lo_lt r n 0 (by omega) hr
  have p40 : (4 : Nat) ^ (20 - 0) = 2 ^ 40 := by decide
  rw [p40] at l1 l3
  rw [hx]
  congr 1
  by_cases q : sfA r n 0 = dL c sh n 0 s
  · have := gOpt (sh := sh) hc (s := s) hn n 0 (by omega) r v hs q h hg
    rw [q] at hp
    omega
  · have : (dL c sh n 0 s + 1) * 2 ^ 40 ≤ sfA r n 0 * 2 ^ 40 := Nat.mul_le_mul_right _ (by omega)
    rw [Nat.succ_mul] at this
    omega
theorem dE_none (hc : ∀ i, c i ≤ 4) {n s : Nat} (hn : n ≤ 20) (h : ¬ dL c sh n 0 s < 100000) : dE c sh n s = none := by
  cases hx : dE c sh n s with
  | none => rfl
  | some x =>
    obtain ⟨r, v, hs, hp⟩ := dE_1 n s x hx
    have l2 := dL_2 (sh := sh) hc r n 0 v
    rw [hs] at l2
    have l3 := sfA_le3 r n 0 (fun k a b => by
      have := v k a b
      have := hc k
      omega)
    omega
theorem lo_div (r : Nat → Nat) : ∀ j, j ≤ 19 → ∃ B, lo r j 0 = 4 * 4 ^ (19 - j) * B
  | 0, _ => ⟨0, rfl⟩
  | j + 1, hj => by
    obtain ⟨B, hB⟩ := lo_div r j (by omega)
    refine ⟨4 * B + r j, ?_⟩
    have : lo r (j + 1) 0 = lo r j 0 + r j * 4 ^ (19 - j) := by
      unfold lo
      rw [sfA_last, Nat.zero_add]
    rw [this, hB, show 19 - j = 19 - (j + 1) + 1 by omega, Nat.pow_succ]
    generalize 4 ^ (19 - (j + 1)) = P
    rw [Nat.mul_add, Nat.mul_assoc 4 P (4 * B), Nat.mul_left_comm P 4 B, Nat.mul_comm P 4, Nat.mul_assoc 4 (4 * P) B, Nat.mul_assoc 4 P B, Nat.mul_comm (r j) (4 * P)]
theorem lo_split (r : Nat → Nat) : ∀ d j, lo r (j + d) 0 = lo r j 0 + lo r d j
  | 0, j => rfl
  | d + 1, j => by
    have := lo_split r d (j + 1)
    have e : lo r (j + 1) 0 = lo r j 0 + r j * 4 ^ (19 - j) := by
      unfold lo
      rw [sfA_last, Nat.zero_add]
    rw [show j + (d + 1) = j + 1 + d by omega, this, e]
    show _ = lo r j 0 + (r j * 4 ^ (19 - j) + lo r d (j + 1))
    omega
theorem dec_T {T : Nat} {r : Nat → Nat} {n : Nat} (hn : n ≤ 20) (hr : ∀ k, k < n → r k ≤ 3) : (T * 2 ^ 40 + lo r n 0) / 2 ^ 40 = T := by
  have l1 := lo_lt r n 0 (by omega) (fun j a b => hr j (by omega))
  have p40 : (4 : Nat) ^ (20 - 0) = 2 ^ 40 := by decide
  rw [p40] at l1
  omega
theorem dec_g {T : Nat} {r : Nat → Nat} {n j : Nat} (hn : n ≤ 20) (hj : j < n) (hr : ∀ k, k < n → r k ≤ 3) : (T * 2 ^ 40 + lo r n 0) / 4 ^ (19 - j) % 4 = r j := by
  have e1 := lo_split r (n - j) j
  rw [show j + (n - j) = n by omega, show n - j = (n - j - 1) + 1 by omega] at e1
  have e2 : lo r (n - j - 1 + 1) j = r j * 4 ^ (19 - j) + lo r (n - j - 1) (j + 1) := rfl
  have l := lo_lt r (n - j - 1) (j + 1) (by omega) (fun k a b => hr k (by omega))
  rw [show 20 - (j + 1) = 19 - j by omega] at l
  obtain ⟨B, hB⟩ := lo_div r j (by omega)
  have p : (2 : Nat) ^ 40 = 4 * 4 ^ (19 - j) * 4 ^ j := by
    rw [show (2 : Nat) ^ 40 = 4 ^ (1 + (19 - j) + j) by rw [show 1 + (19 - j) + j = 20 by omega], Nat.pow_add, Nat.pow_add]
  rw [e1, hB, e2, p]
  have hr3 := hr j hj
  have hP : 0 < 4 ^ (19 - j) := Nat.pow_pos (by decide)
  generalize 4 ^ (19 - j) = P at *
  generalize lo r (n - j - 1) (j + 1) = R at *
  have e3 : T * (4 * P * 4 ^ j) + (4 * P * B + (r j * P + R)) = R + P * (4 * (T * 4 ^ j + B) + r j) := by
    have a1 : T * (4 * P * 4 ^ j) = P * (4 * (T * 4 ^ j)) := by
      rw [Nat.mul_comm T, Nat.mul_comm 4 P, Nat.mul_assoc, Nat.mul_assoc, Nat.mul_comm (4 ^ j) T]
    have a2 : 4 * P * B = P * (4 * B) := by rw [Nat.mul_comm 4 P, Nat.mul_assoc]
    rw [a1, a2, Nat.mul_comm (r j) P, Nat.mul_add P, Nat.mul_add 4, Nat.mul_add P]
    omega
  rw [e3, Nat.add_mul_div_left _ _ hP, Nat.div_eq_of_lt l]
  omega
end DPG
