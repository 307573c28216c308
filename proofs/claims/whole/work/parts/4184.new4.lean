
/-! ===== constructors: Census, Reader ===== -/
def cs_p (a : Nat) (h : ab_H) (M : ab_M) (r : Option Value) (h' : ab_H) (M' : ab_M) : Prop := r = none ∧ h'.1 = a + 6 ∧ h'.2.1 = h.2.1 + 120 ∧ sm a h M h' M' ∧ pr_Cs h' M'.2.2 a
theorem n_census {a : Nat} (h : ab_H) (M : ab_M) (ha : a ≠ 0) (hk : ab_k h a = 1) (hn : h.1 = a + 1) (hlt : a < 999000) : pr_Z pX0_init [.ref a] h M (cs_p a h M) := by
  obtain ⟨n, sl, kd, ln⟩ := h
  dsimp only at hn
  subst hn
  have hk1 : kd a = 1 := hk
  have hk2 : va_up kd (a + 1) 20 a = 1 := by rw [va_up_n (by omega)]; exact hk1
  have hk3 : va_up (va_up kd (a + 1) 20) (a + 1 + 1) 20 a = 1 := by rw [va_up_n (by omega)]; exact hk2
  have hk4 : va_up (va_up (va_up kd (a + 1) 20) (a + 1 + 1) 20) (a + 1 + 1 + 1) 20 a = 1 := by rw [va_up_n (by omega)]; exact hk3
  have hk5 : va_up (va_up (va_up (va_up kd (a + 1) 20) (a + 1 + 1) 20) (a + 1 + 1 + 1) 20) (a + 1 + 1 + 1 + 1) 20 a = 1 := by rw [va_up_n (by omega)]; exact hk4
  have hk6 : va_up (va_up (va_up (va_up (va_up kd (a + 1) 20) (a + 1 + 1) 20) (a + 1 + 1 + 1) 20) (a + 1 + 1 + 1 + 1) 20) (a + 1 + 1 + 1 + 1 + 1) 20 a = 1 := by rw [va_up_n (by omega)]; exact hk5
  have wd : ab_wd [] := by unfold ab_wd; decide
  have n28 : (Int8.ofInt 28).toInt32.toNatClampNeg = 28 := by decide
  have n8 : (Int8.ofInt 8).toInt32.toNatClampNeg = 8 := by decide
  refine pr_seqY (pc' := 44) 22 rfl ⟨⟨⟨⟨⟨⟨⟨⟨⟨⟨⟨⟨⟨⟨⟨⟨⟨⟨⟨⟨⟨⟨trivial, ha⟩, ⟨ha, wd⟩⟩, ha⟩, trivial⟩, ⟨by decide, by rw [n28]; decide, by show a + 1 < 1000000; omega⟩⟩, ⟨hk2, Nat.succ_ne_zero _⟩⟩, ha⟩, trivial⟩, ⟨by decide, by rw [n28]; decide, by show a + 1 + 1 < 1000000; omega⟩⟩, ⟨hk3, Nat.succ_ne_zero _⟩⟩, ha⟩, trivial⟩, ⟨by decide, by rw [n28]; decide, by show a + 1 + 1 + 1 < 1000000; omega⟩⟩, ⟨hk4, Nat.succ_ne_zero _⟩⟩, ha⟩, trivial⟩, ⟨by decide, by rw [n28]; decide, by show a + 1 + 1 + 1 + 1 < 1000000; omega⟩⟩, ⟨hk5, Nat.succ_ne_zero _⟩⟩, ha⟩, trivial⟩, ⟨by decide, by rw [n8]; decide, by show a + 1 + 1 + 1 + 1 + 1 < 1000000; omega⟩⟩, ⟨hk6, Nat.succ_ne_zero _⟩⟩ ?_
  refine pr_vrY rfl rfl ?_
  dsimp only
  rw [n28, n8]
  refine ⟨rfl, rfl, (by show sl + 28 + 28 + 28 + 28 + 8 = sl + 120; omega), fun c hc => ?_, ⟨ha, hk6, (ab_u_j (by decide)).trans ((congrFun (va_up_n (by omega)) _).trans ((ab_u_j (by decide)).trans ((congrFun (va_up_n (by omega)) _).trans ((ab_u_j (by decide)).trans ((congrFun (va_up_n (by omega)) _).trans ((ab_u_j (by decide)).trans ((congrFun (va_up_n (by omega)) _).trans (ab_u_at)))))))), (ab_u_j (by decide)).trans ((congrFun (va_up_n (by omega)) _).trans ((ab_u_j (by decide)).trans ((congrFun (va_up_n (by omega)) _).trans ((ab_u_j (by decide)).trans ((congrFun (va_up_n (by omega)) _).trans (ab_u_at)))))), (ab_u_j (by decide)).trans ((congrFun (va_up_n (by omega)) _).trans ((ab_u_j (by decide)).trans ((congrFun (va_up_n (by omega)) _).trans (ab_u_at)))), (ab_u_j (by decide)).trans ((congrFun (va_up_n (by omega)) _).trans (ab_u_at)), ab_u_at, ⟨(va_up_n (by omega)).trans ((va_up_n (by omega)).trans ((va_up_n (by omega)).trans ((va_up_n (by omega)).trans (va_up_at _ _ _)))), (va_up_n (by omega)).trans ((va_up_n (by omega)).trans ((va_up_n (by omega)).trans ((va_up_n (by omega)).trans (va_up_at _ _ _))))⟩, ⟨(va_up_n (by omega)).trans ((va_up_n (by omega)).trans ((va_up_n (by omega)).trans (va_up_at _ _ _))), (va_up_n (by omega)).trans ((va_up_n (by omega)).trans ((va_up_n (by omega)).trans (va_up_at _ _ _)))⟩, ⟨(va_up_n (by omega)).trans ((va_up_n (by omega)).trans (va_up_at _ _ _)), (va_up_n (by omega)).trans ((va_up_n (by omega)).trans (va_up_at _ _ _))⟩, ⟨(va_up_n (by omega)).trans (va_up_at _ _ _), (va_up_n (by omega)).trans (va_up_at _ _ _)⟩, ⟨va_up_at _ _ _, va_up_at _ _ _⟩⟩⟩
  have c0 : c ≠ a := by omega
  have c1 : c ≠ a + 1 := by omega
  have c2 : c ≠ a + 1 + 1 := by omega
  have c3 : c ≠ a + 1 + 1 + 1 := by omega
  have c4 : c ≠ a + 1 + 1 + 1 + 1 := by omega
  have c5 : c ≠ a + 1 + 1 + 1 + 1 + 1 := by omega
  exact ⟨(va_up_n c5).trans ((va_up_n c4).trans ((va_up_n c3).trans ((va_up_n c2).trans (va_up_n c1)))), (va_up_n c5).trans ((va_up_n c4).trans ((va_up_n c3).trans ((va_up_n c2).trans (va_up_n c1)))), (va_up_n c5).trans ((va_up_n c4).trans ((va_up_n c3).trans ((va_up_n c2).trans (va_up_n c1)))), (ab_u_ne c0).trans ((va_up_n c5).trans ((ab_u_ne c0).trans ((va_up_n c4).trans ((ab_u_ne c0).trans ((va_up_n c3).trans ((ab_u_ne c0).trans ((va_up_n c2).trans ((ab_u_ne c0).trans (va_up_n c1)))))))))⟩
