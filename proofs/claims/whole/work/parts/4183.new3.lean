
/-! ===== constructors: Tape, Sheet, Raises, Pairs, Census ===== -/
def tp_p (a : Nat) (h : ab_H) (M : ab_M) (r : Option Value) (h' : ab_H) (M' : ab_M) : Prop := r = none ∧ h'.1 = a + 2 ∧ h'.2.1 = h.2.1 + 320 ∧ sm a h M h' M' ∧ ab_k h' a = 9 ∧ M'.2.2 a 0 = a + 1 ∧ ab_k h' (a + 1) = 21 ∧ ab_n h' (a + 1) = 320 ∧ M'.1 a = M.1 a
theorem n_tape {a : Nat} (h : ab_H) (M : ab_M) (ha : a ≠ 0) (hk : ab_k h a = 9) (hn : h.1 = a + 1) (hlt : a < 999000) : pr_Z pX8_init [.ref a] h M (tp_p a h M) := by
  obtain ⟨n, sl, kd, ln⟩ := h
  dsimp only at hn
  subst hn
  have hk : kd a = 9 := hk
  have hk2 : va_up kd (a + 1) 21 a = 9 := by rw [va_up_n (by omega)]; exact hk
  have wd : ab_wd [] := by unfold ab_wd; decide
  have n20 : (Int16.ofInt 320).toInt32.toNatClampNeg = 320 := by decide
  refine pr_seqY (pc' := 13) 6 rfl ⟨⟨⟨⟨⟨⟨trivial, ha⟩, ⟨ha, wd⟩⟩, ha⟩, trivial⟩, ⟨by decide, by rw [n20]; decide, by show a + 1 < 1000000; omega⟩⟩, ⟨hk2, Nat.succ_ne_zero a⟩⟩ ?_
  refine pr_vrY rfl rfl ?_
  dsimp only
  rw [n20]
  refine ⟨rfl, rfl, rfl, fun c hc => ?_, hk2, ab_u_at, va_up_at _ _ _, va_up_at _ _ _, va_up_n (by omega)⟩
  have c1 : c ≠ a + 1 := by omega
  exact ⟨va_up_n c1, va_up_n c1, va_up_n c1, (ab_u_ne (by omega)).trans (va_up_n c1)⟩
def st_p (a : Nat) (h : ab_H) (M : ab_M) (r : Option Value) (h' : ab_H) (M' : ab_M) : Prop := r = none ∧ h'.1 = a + 2 ∧ h'.2.1 = h.2.1 + 40 ∧ sm a h M h' M' ∧ pr_Sh h' M'.2.2 a ∧ M'.1 a = M.1 a
theorem n_sheet {a : Nat} (h : ab_H) (M : ab_M) (ha : a ≠ 0) (hk : ab_k h a = 8) (hn : h.1 = a + 1) (hlt : a < 999000) : pr_Z pX7_init [.ref a] h M (st_p a h M) := by
  obtain ⟨n, sl, kd, ln⟩ := h
  dsimp only at hn
  subst hn
  have hk : kd a = 8 := hk
  have hk2 : va_up kd (a + 1) 20 a = 8 := by rw [va_up_n (by omega)]; exact hk
  have wd : ab_wd [] := by unfold ab_wd; decide
  have n20 : (Int8.ofInt 40).toInt32.toNatClampNeg = 40 := by decide
  refine pr_seqY (pc' := 12) 6 rfl ⟨⟨⟨⟨⟨⟨trivial, ha⟩, ⟨ha, wd⟩⟩, ha⟩, trivial⟩, ⟨by decide, by rw [n20]; decide, by show a + 1 < 1000000; omega⟩⟩, ⟨hk2, Nat.succ_ne_zero a⟩⟩ ?_
  refine pr_vrY rfl rfl ?_
  dsimp only
  rw [n20]
  refine ⟨rfl, rfl, rfl, fun c hc => ?_, ⟨ha, hk2, ab_u_at, va_up_at _ _ _, va_up_at _ _ _⟩, va_up_n (by omega)⟩
  have c1 : c ≠ a + 1 := by omega
  exact ⟨va_up_n c1, va_up_n c1, va_up_n c1, (ab_u_ne (by omega)).trans (va_up_n c1)⟩
def ra_p (a : Nat) (h : ab_H) (M : ab_M) (r : Option Value) (h' : ab_H) (M' : ab_M) : Prop := r = none ∧ h'.1 = a + 3 ∧ h'.2.1 = h.2.1 + 8405 ∧ sm a h M h' M' ∧ ab_k h' a = 6 ∧ M'.2.2 a 0 = a + 1 ∧ M'.2.2 a 1 = a + 2 ∧ ab_k h' (a + 1) = 23 ∧ ab_n h' (a + 1) = 8401 ∧ ab_k h' (a + 2) = 20 ∧ ab_n h' (a + 2) = 4
theorem n_raises {a : Nat} (h : ab_H) (M : ab_M) (ha : a ≠ 0) (hk : ab_k h a = 6) (hn : h.1 = a + 1) (hlt : a < 999000) : pr_Z pX5_init [.ref a] h M (ra_p a h M) := by
  obtain ⟨n, sl, kd, ln⟩ := h
  dsimp only at hn
  subst hn
  have hk : kd a = 6 := hk
  have hk2 : va_up kd (a + 1) 23 a = 6 := by rw [va_up_n (by omega)]; exact hk
  have hk3 : va_up (va_up kd (a + 1) 23) (a + 1 + 1) 20 a = 6 := by rw [va_up_n (by omega)]; exact hk2
  have wd : ab_wd [] := by unfold ab_wd; decide
  have n1 : (Int16.ofInt 8401).toInt32.toNatClampNeg = 8401 := by decide
  have n2 : (Int32.ofInt 4).toNatClampNeg = 4 := by decide
  refine pr_seqY (pc' := 20) 10 rfl ⟨⟨⟨⟨⟨⟨⟨⟨⟨⟨trivial, ha⟩, ⟨ha, wd⟩⟩, ha⟩, trivial⟩, ⟨by decide, by rw [n1]; decide, by show a + 1 < 1000000; omega⟩⟩, ⟨hk2, Nat.succ_ne_zero a⟩⟩, ha⟩, trivial⟩, ⟨by decide, by rw [n2]; decide, by show a + 1 + 1 < 1000000; omega⟩⟩, ⟨hk3, Nat.succ_ne_zero _⟩⟩ ?_
  refine pr_vrY rfl rfl ?_
  dsimp only
  rw [n1, n2]
  refine ⟨rfl, rfl, (by show sl + 8401 + 4 = sl + 8405; omega), fun c hc => ?_, hk3, ?_, ab_u_at, ?_, ?_, va_up_at _ _ _, va_up_at _ _ _⟩
  · have c1 : c ≠ a + 1 := by omega
    have c2 : c ≠ a + 1 + 1 := by omega
    exact ⟨(va_up_n c2).trans (va_up_n c1), (va_up_n c2).trans (va_up_n c1), (va_up_n c2).trans (va_up_n c1), (ab_u_ne (by omega)).trans ((va_up_n c2).trans ((ab_u_ne (by omega)).trans (va_up_n c1)))⟩
  · exact (ab_u_j (by decide)).trans ((congrFun (va_up_n (by omega)) _).trans ab_u_at)
  · exact (va_up_n (by omega)).trans (va_up_at _ _ _)
  · exact (va_up_n (by omega)).trans (va_up_at _ _ _)
def pa_p (a : Nat) (h : ab_H) (M : ab_M) (r : Option Value) (h' : ab_H) (M' : ab_M) : Prop := r = none ∧ h'.1 = a + 4 ∧ h'.2.1 = h.2.1 + 18 ∧ sm a h M h' M' ∧ ab_k h' a = 5 ∧ M'.2.2 a 0 = a + 1 ∧ M'.2.2 a 1 = a + 2 ∧ M'.2.2 a 2 = a + 3 ∧ (ab_k h' (a + 1) = 20 ∧ ab_n h' (a + 1) = 6) ∧ (ab_k h' (a + 2) = 20 ∧ ab_n h' (a + 2) = 6) ∧ ab_k h' (a + 3) = 20 ∧ ab_n h' (a + 3) = 6
theorem n_pairs {a : Nat} (h : ab_H) (M : ab_M) (ha : a ≠ 0) (hk : ab_k h a = 5) (hn : h.1 = a + 1) (hlt : a < 999000) : pr_Z pX4_init [.ref a] h M (pa_p a h M) := by
  obtain ⟨n, sl, kd, ln⟩ := h
  dsimp only at hn
  subst hn
  have hk : kd a = 5 := hk
  have hk2 : va_up kd (a + 1) 20 a = 5 := by rw [va_up_n (by omega)]; exact hk
  have hk3 : va_up (va_up kd (a + 1) 20) (a + 1 + 1) 20 a = 5 := by rw [va_up_n (by omega)]; exact hk2
  have hk4 : va_up (va_up (va_up kd (a + 1) 20) (a + 1 + 1) 20) (a + 1 + 1 + 1) 20 a = 5 := by rw [va_up_n (by omega)]; exact hk3
  have wd : ab_wd [] := by unfold ab_wd; decide
  have n6 : (Int8.ofInt 6).toInt32.toNatClampNeg = 6 := by decide
  refine pr_seqY (pc' := 28) 14 rfl ⟨⟨⟨⟨⟨⟨⟨⟨⟨⟨⟨⟨⟨⟨trivial, ha⟩, ⟨ha, wd⟩⟩, ha⟩, trivial⟩, ⟨by decide, by rw [n6]; decide, by show a + 1 < 1000000; omega⟩⟩, ⟨hk2, Nat.succ_ne_zero a⟩⟩, ha⟩, trivial⟩, ⟨by decide, by rw [n6]; decide, by show a + 1 + 1 < 1000000; omega⟩⟩, ⟨hk3, Nat.succ_ne_zero _⟩⟩, ha⟩, trivial⟩, ⟨by decide, by rw [n6]; decide, by show a + 1 + 1 + 1 < 1000000; omega⟩⟩, ⟨hk4, Nat.succ_ne_zero _⟩⟩ ?_
  refine pr_vrY rfl rfl ?_
  dsimp only
  rw [n6]
  refine ⟨rfl, rfl, rfl, fun c hc => ?_, hk4, ?_, ?_, ab_u_at, ⟨?_, ?_⟩, ⟨?_, ?_⟩, va_up_at _ _ _, va_up_at _ _ _⟩
  · have c1 : c ≠ a + 1 := by omega
    have c2 : c ≠ a + 1 + 1 := by omega
    have c3 : c ≠ a + 1 + 1 + 1 := by omega
    have c0 : c ≠ a := by omega
    exact ⟨(va_up_n c3).trans ((va_up_n c2).trans (va_up_n c1)), (va_up_n c3).trans ((va_up_n c2).trans (va_up_n c1)), (va_up_n c3).trans ((va_up_n c2).trans (va_up_n c1)), (ab_u_ne c0).trans ((va_up_n c3).trans ((ab_u_ne c0).trans ((va_up_n c2).trans ((ab_u_ne c0).trans (va_up_n c1)))))⟩
  · exact (ab_u_j (by decide)).trans ((congrFun (va_up_n (by omega)) _).trans ((ab_u_j (by decide)).trans ((congrFun (va_up_n (by omega)) _).trans ab_u_at)))
  · exact (ab_u_j (by decide)).trans ((congrFun (va_up_n (by omega)) _).trans ab_u_at)
  · exact (va_up_n (by omega)).trans ((va_up_n (by omega)).trans (va_up_at _ _ _))
  · exact (va_up_n (by omega)).trans ((va_up_n (by omega)).trans (va_up_at _ _ _))
  · exact (va_up_n (by omega)).trans (va_up_at _ _ _)
  · exact (va_up_n (by omega)).trans (va_up_at _ _ _)
