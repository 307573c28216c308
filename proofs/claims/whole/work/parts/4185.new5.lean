
/-! ===== constructors: Reader ===== -/
def rd_p (a T : Nat) (h : ab_H) (M : ab_M) (r : Option Value) (h' : ab_H) (M' : ab_M) : Prop := r = none ∧ h'.1 = a + 45 ∧ h'.2.1 = h.2.1 + 429 ∧ sm a h M h' M' ∧ ab_k h' a = 7 ∧ M'.2.2 a 0 = T ∧ M'.2.2 a 1 = a + 1 ∧ M'.2.2 a 2 = a + 2 ∧ (ab_k h' (a + 1) = 22 ∧ ab_n h' (a + 1) = 26) ∧ pr_Tl h' M'.2.2 (a + 2) ∧ tl_v M'.1 (a + 2) P0.1
theorem pr_Tl_R {h : ab_H} {R R' : Nat → Nat → Nat} {t : Nat} (hR : ∀ c, t ≤ c → R' c = R c) (hv : pr_Tl h R t) : pr_Tl h R' t := by
  obtain ⟨v1, v2, v3, v4, v5, v6, v7, v8, v9, v10, v11⟩ := hv
  have e := hR t (by omega)
  refine ⟨v1, v2, by rw [e]; exact v3, by rw [e]; exact v4, by rw [e]; exact v5, by rw [e]; exact v6, pr_Ld_R (fun c a1 _ => hR c (by omega)) v7, v8, v9, v10, fun q hq => ?_⟩
  obtain ⟨x1, x2, x3, x4, x5, x6⟩ := v11 q hq
  exact ⟨by rw [hR (t + 28) (by omega)]; exact x1, x2, x3, by rw [hR (t + 31 + 2 * q) (by omega)]; exact x4, x5, x6⟩
theorem n_reader {a T : Nat} (h : ab_H) (M : ab_M) (ha : a ≠ 0) (hT : T ≠ 0) (hk : ab_k h a = 7) (hn : h.1 = a + 1) (hlt : a < 970000) : pr_Z pX6_init [.ref a, .ref T] h M (rd_p a T h M) := by
  obtain ⟨n, sl, kd, ln⟩ := h
  dsimp only at hn
  subst hn
  have hk : kd a = 7 := hk
  have hk2 : va_up kd (a + 1) 22 a = 7 := by rw [va_up_n (by omega)]; exact hk
  have wd : ab_wd [] := by unfold ab_wd; decide
  have n26 : (Int8.ofInt 26).toInt32.toNatClampNeg = 26 := by decide
  refine pr_seqY (pc' := 17) 9 rfl ⟨⟨⟨⟨⟨⟨⟨⟨⟨trivial, ha⟩, ⟨ha, wd⟩⟩, ha⟩, trivial⟩, ⟨by decide, by rw [n26]; decide, by show a + 1 < 1000000; omega⟩⟩, ⟨hk2, Nat.succ_ne_zero a⟩⟩, ha⟩, ⟨by decide, by show a + 1 + 1 < 1000000; omega⟩⟩, trivial⟩ ?_
  dsimp only
  rw [n26]
  refine pr_ciY [] rfl rfl rfl rfl rfl (Nat.le_of_ble_eq_true rfl) (Nat.succ_ne_zero _) (Nat.le_of_ble_eq_true rfl) (n_told (t := a + 1 + 1) _ _ (Nat.succ_ne_zero _) (va_up_at _ _ _) rfl (by omega) (fun j => congrFun (va_up_at _ _ _) j)) (fun v h2 M2 q => ?_)
  obtain ⟨rfl, q1, q2, q3, q4, q5⟩ := q
  obtain ⟨n2, sl2, kd2, ln2⟩ := h2
  dsimp only at q1 q2
  subst q1
  obtain ⟨y1, y2, y3, y4⟩ := q3 a (by omega)
  obtain ⟨z1, z2, z3, z4⟩ := q3 (a + 1) (by omega)
  have k1 : kd2 a = 7 := y1.trans ((va_up_n (by omega)).trans hk2)
  refine pr_seqY (pc' := 28) 4 rfl ⟨⟨⟨⟨trivial, ⟨k1, Nat.succ_ne_zero _⟩⟩, ha⟩, hT⟩, ⟨k1, hT⟩⟩ ?_
  refine pr_vrY rfl rfl ?_
  refine ⟨rfl, rfl, q2.trans (by show sl + 26 + 6 + 397 = sl + 429; omega), fun c hc => ?_, k1, ab_u_at, ?_, ?_, ⟨?_, ?_⟩, ?_, q5⟩
  · obtain ⟨x1, x2, x3, x4⟩ := q3 c (by omega)
    have c0 : c ≠ a := by omega
    have c1 : c ≠ a + 1 := by omega
    have c2 : c ≠ a + 1 + 1 := by omega
    exact ⟨x1.trans ((va_up_n c2).trans (va_up_n c1)), x2.trans (va_up_n c1), x3.trans ((va_up_n c2).trans (va_up_n c1)), (ab_u_ne c0).trans ((ab_u_ne c0).trans (x4.trans ((va_up_n c2).trans ((ab_u_ne c0).trans (va_up_n c1)))))⟩
  · exact (ab_u_j (by decide)).trans ((ab_u_j (by decide)).trans ((congrFun y4 _).trans ((congrFun (va_up_n (by omega)) _).trans ab_u_at)))
  · exact (ab_u_j (by decide)).trans ab_u_at
  · exact z1.trans ((va_up_n (by omega)).trans (va_up_at _ _ _))
  · exact z2.trans (va_up_at _ _ _)
  · exact pr_Tl_R (fun c hc => (ab_u_ne (by omega)).trans (ab_u_ne (by omega))) q4
