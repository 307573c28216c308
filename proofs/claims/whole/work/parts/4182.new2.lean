
/-! ===== constructors: Told ===== -/
theorem pr_Ld_sm {a g : Nat} {h h' : ab_H} {M M' : ab_M} (hs : sm a h M h' M') (hg : g + 27 ≤ a) (hv : pr_Ld h M.2.2 g) : pr_Ld h' M'.2.2 g := by
  obtain ⟨v1, v2, v3, v4, v5, v6, ⟨v7, v8⟩, v9⟩ := hv
  obtain ⟨x1, x2, x3, x4⟩ := hs g (by omega)
  obtain ⟨y1, y2, y3, y4⟩ := hs (g + 1) (by omega)
  obtain ⟨z1, z2, z3, z4⟩ := hs (g + 2) (by omega)
  exact ⟨v1, by rw [x1]; exact v2, by rw [x4]; exact v3, by rw [x4]; exact v4, by rw [y1]; exact v5, by rw [y2]; exact v6, ⟨by rw [z1]; exact v7, by rw [z2]; exact v8⟩, fun p hp => ⟨by rw [z4]; exact (v9 p hp).1, pr_On_sm hs (by omega) (v9 p hp).2⟩⟩
theorem pr_Ld_u {h : ab_H} {R : Nat → Nat → Nat} {g a k v : Nat} (ha : a < g ∨ g + 27 ≤ a) (hv : pr_Ld h R g) : pr_Ld h (ab_u R a k v) g := by
  obtain ⟨v1, v2, v3, v4, v5, v6, v7, v9⟩ := hv
  exact ⟨v1, v2, by rw [ab_u_ne (by omega)]; exact v3, by rw [ab_u_ne (by omega)]; exact v4, v5, v6, v7, fun p hp => ⟨by rw [ab_u_ne (by omega)]; exact (v9 p hp).1, pr_On_u (by omega) (by omega) (v9 p hp).2⟩⟩
def tl_p (t : Nat) (h : ab_H) (M : ab_M) (r : Option Value) (h' : ab_H) (M' : ab_M) : Prop := r = none ∧ h'.1 = t + 43 ∧ h'.2.1 = h.2.1 + 397 ∧ sm t h M h' M' ∧ pr_Tl h' M'.2.2 t ∧ tl_v M'.1 t P0.1
theorem n_toldL {t : Nat} (h0 : ab_H) (M0 : ab_M) (ht : t ≠ 0) (hlt : t < 980000) (hz : ∀ j, M0.1 t j = 0) : ∀ dd p, p + dd = 6 → ∀ (h : ab_H) (M : ab_M), h.1 = t + 31 + 2 * p → h.2.1 = h0.2.1 + 265 + 22 * p → sm t h0 M0 h M → ab_k h t = 10 → M.2.2 t 0 = t + 1 → M.2.2 t 1 = t + 28 → M.2.2 t 2 = t + 29 → M.2.2 t 3 = t + 30 → pr_Ld h M.2.2 (t + 1) → ld_v M.1 (t + 1) (fun l => l + 1, [], 0, 1) → M.1 t = M0.1 t → (ab_k h (t + 28) = 25 ∧ ab_n h (t + 28) = 6) → (ab_k h (t + 29) = 20 ∧ ab_n h (t + 29) = 6) → (ab_k h (t + 30) = 20 ∧ ab_n h (t + 30) = 6) → (∀ q, q < p → M.2.2 (t + 28) q = t + 31 + 2 * q ∧ pr_Nm h M.2.2 (t + 31 + 2 * q)) → pr_Y pX9_init 42 [some (.ref t), some (.int (nI p))] [] h M (tl_p t h0 M0) := by
  intro dd
  induction dd with
  | zero =>
    intro p hp h M i1 i2 i3 k0 r0 r1 r2 r3 hL hd hm n28 n29 n30 io
    obtain rfl : p = 6 := by omega
    have e1 : nI 6 ≤ nI 6 := nI_le (Nat.le_refl _) (by decide)
    refine pr_seqY (pc' := 45) 2 rfl ⟨⟨trivial, trivial⟩, trivial⟩ ?_
    refine pr_icY rfl (fun _ => ?_) (fun q => absurd (show nI 6 ≤ nI 6 from e1) q)
    refine pr_vrY rfl rfl ⟨rfl, by rw [i1], by rw [i2], i3, ⟨ht, k0, r0, r1, r2, r3, hL, n28, n29, n30, io⟩, hd, by rw [hm, hz]; rfl, Nat.zero_le _, by rw [hm, hz]; rfl, Nat.zero_le _, fun q w hq => ?_, fun i k hk => ?_⟩
    · cases hq
    · cases hk
  | succ dd ih =>
    intro p hp h M i1 i2 i3 k0 r0 r1 r2 r3 hL hd hm n28 n29 n30 io
    have e1 : ¬ nI 6 ≤ nI p := nI_ge (by omega) (by decide)
    obtain ⟨n, sl, kd, ln⟩ := h
    dsimp only at i1 i2
    subst i1
    have k0 : kd t = 10 := k0
    have vin6 : vp_in (nI p) 6 := vp_in_nI (by omega) (by decide)
    refine pr_seqY (pc' := 45) 2 rfl ⟨⟨trivial, trivial⟩, trivial⟩ ?_
    refine pr_icY rfl (fun q => absurd (show nI 6 ≤ nI p from q) e1) (fun _ => ?_)
    refine pr_seqY (pc' := 57) 5 rfl ⟨⟨⟨⟨⟨trivial, ht⟩, k0⟩, trivial⟩, ⟨by decide, by show t + 31 + 2 * p < 1000000; omega⟩⟩, trivial⟩ ?_
    refine pr_ciY [] rfl rfl rfl rfl rfl (Nat.le_of_ble_eq_true rfl) (by omega) (Nat.le_of_ble_eq_true rfl) (n_name (a := t + 31 + 2 * p) _ _ (by omega) (va_up_at _ _ _) rfl (by omega)) (fun v h2 M2 q => ?_)
    obtain ⟨rfl, q1, q2, q3, q4, q5, q6⟩ := q
    have r1' : M.2.2 t (901 % 100) = t + 28 := r1
    rw [r1']
    have low : ∀ c, (c < t + 31 + 2 * p ∨ 1000000 ≤ c) → ab_k h2 c = kd c ∧ ab_n h2 c = ln c ∧ M2.1 c = M.1 c ∧ M2.2.2 c = M.2.2 c := fun c hc => by
      obtain ⟨y1, y2, y3, y4⟩ := q3 c hc
      have c1 : c ≠ t + 31 + 2 * p := by omega
      exact ⟨by rw [y1]; exact va_up_n c1, by rw [y2], by rw [y3]; exact va_up_n c1, by rw [y4]; exact va_up_n c1⟩
    have hsm : sm (t + 31 + 2 * p) (t + 31 + 2 * p, sl, kd, ln) M h2 M2 := fun c hc => low c hc
    have l0 := low t (by omega)
    have l28 := low (t + 28) (by omega)
    have l29 := low (t + 29) (by omega)
    have l30 := low (t + 30) (by omega)
    have kk : ab_k h2 (t + 28) = 25 := by rw [l28.1]; exact n28.1
    have nn : ab_n h2 (t + 28) = 6 := by rw [l28.2.1]; exact n28.2
    refine pr_seqY (pc' := 42) 3 rfl ⟨⟨⟨trivial, ⟨⟨by rw [kk]; decide, by rw [kk]; decide⟩, by rw [kk]; exact q4.2.1, by rw [nn]; exact vin6⟩⟩, trivial⟩, trivial⟩ ?_
    rw [nI_clamp (by omega), show Int32.ofInt 1 = 1 by decide, nI_1]
    have un : ∀ c, c ≠ t + 28 → ab_u M2.2.2 (t + 28) p (t + 31 + 2 * p) c = M2.2.2 c := fun c hc => ab_u_ne hc
    refine ih (p + 1) (by omega) h2 _ (by rw [q1]; omega) (by rw [q2]; show sl + 2 + 20 = _; omega) (fun c hc => ?_) (by rw [l0.1]; exact k0) ?_ ?_ ?_ ?_ ?_ ?_ ?_ ⟨kk, nn⟩ ⟨by rw [l29.1]; exact n29.1, by rw [l29.2.1]; exact n29.2⟩ ⟨by rw [l30.1]; exact n30.1, by rw [l30.2.1]; exact n30.2⟩ (fun q hq => ?_)
    · obtain ⟨x1, x2, x3, x4⟩ := i3 c hc
      obtain ⟨y1, y2, y3, y4⟩ := low c (by omega)
      exact ⟨by rw [y1]; exact x1, by rw [y2]; exact x2, by show M2.1 c = _; rw [y3]; exact x3, by show ab_u M2.2.2 (t + 28) p (t + 31 + 2 * p) c = _; rw [un c (by omega), y4]; exact x4⟩
    · show ab_u M2.2.2 (t + 28) p (t + 31 + 2 * p) t 0 = _
      rw [un t (by omega), l0.2.2.2]; exact r0
    · show ab_u M2.2.2 (t + 28) p (t + 31 + 2 * p) t 1 = _
      rw [un t (by omega), l0.2.2.2]; exact r1
    · show ab_u M2.2.2 (t + 28) p (t + 31 + 2 * p) t 2 = _
      rw [un t (by omega), l0.2.2.2]; exact r2
    · show ab_u M2.2.2 (t + 28) p (t + 31 + 2 * p) t 3 = _
      rw [un t (by omega), l0.2.2.2]; exact r3
    · exact pr_Ld_u (Or.inr (by omega)) (pr_Ld_sm hsm (by omega) hL)
    · exact ld_v_congr (fun a a1 a2 => by show M2.1 a = M.1 a; exact (low a (by omega)).2.2.1) hd
    · show M2.1 t = _
      rw [l0.2.2.1]; exact hm
    · show ab_u M2.2.2 (t + 28) p (t + 31 + 2 * p) (t + 28) q = _ ∧ pr_Nm h2 (ab_u M2.2.2 (t + 28) p (t + 31 + 2 * p)) (t + 31 + 2 * q)
      by_cases e : q = p
      · subst e
        exact ⟨ab_u_at, pr_Nm_u (by omega) q4⟩
      · obtain ⟨z1, z2⟩ := io q (by omega)
        exact ⟨by rw [ab_u_j e, l28.2.2.2]; exact z1, pr_Nm_u (by omega) (pr_Nm_sm hsm (by omega) z2)⟩
theorem pr_Ld_R {h : ab_H} {R R' : Nat → Nat → Nat} {g : Nat} (hR : ∀ c, g ≤ c → c < g + 27 → R' c = R c) (hv : pr_Ld h R g) : pr_Ld h R' g := by
  obtain ⟨v1, v2, v3, v4, v5, v6, v7, v9⟩ := hv
  refine ⟨v1, v2, by rw [hR g (by omega) (by omega)]; exact v3, by rw [hR g (by omega) (by omega)]; exact v4, v5, v6, v7, fun p hp => ?_⟩
  obtain ⟨x1, x2, x3, x4, x5, x6, x7, x8, x9⟩ := v9 p hp
  exact ⟨by rw [hR (g + 2) (by omega) (by omega)]; exact x1, x2, x3, by rw [hR (g + 3 + 3 * p) (by omega) (by omega)]; exact x4, x5, x6, by rw [hR (g + 3 + 3 * p + 1) (by omega) (by omega)]; exact x7, x8, x9⟩
theorem n_told {t : Nat} (h : ab_H) (M : ab_M) (ht : t ≠ 0) (hk : ab_k h t = 10) (hn : h.1 = t + 1) (hlt : t < 980000) (hz : ∀ j, M.1 t j = 0) : pr_Z pX9_init [.ref t] h M (tl_p t h M) := by
  obtain ⟨n, sl, kd, ln⟩ := h
  dsimp only at hn
  subst hn
  have hk : kd t = 10 := hk
  have wd : ab_wd [] := by unfold ab_wd; decide
  have n6 : (Int8.ofInt 6).toInt32.toNatClampNeg = 6 := by decide
  refine pr_seqY (pc' := 9) 5 rfl ⟨⟨⟨⟨⟨trivial, ht⟩, ⟨ht, wd⟩⟩, ht⟩, ⟨by decide, by show t + 1 < 1000000; omega⟩⟩, trivial⟩ ?_
  refine pr_ciY [] rfl rfl rfl rfl rfl (Nat.le_of_ble_eq_true rfl) (Nat.succ_ne_zero t) (Nat.le_of_ble_eq_true rfl) (n_land (g := t + 1) _ _ (Nat.succ_ne_zero t) (va_up_at _ _ _) rfl (by omega)) (fun v h2 M2 q => ?_)
  obtain ⟨rfl, q1, q2, q3, q4, q5⟩ := q
  obtain ⟨n2, sl2, kd2, ln2⟩ := h2
  dsimp only at q1 q2
  subst q1
  have low : ∀ c, (c < t + 1 ∨ 1000000 ≤ c) → kd2 c = kd c ∧ ln2 c = ln c ∧ M2.1 c = M.1 c ∧ M2.2.2 c = M.2.2 c := fun c hc => by
    obtain ⟨y1, y2, y3, y4⟩ := q3 c hc
    have c1 : c ≠ t + 1 := by omega
    exact ⟨y1.trans (va_up_n c1), y2, y3.trans (va_up_n c1), y4.trans (va_up_n c1)⟩
  have l0 := low t (by omega)
  have k1 : kd2 t = 10 := by rw [l0.1]; exact hk
  have k2 : va_up kd2 (t + 28) 25 t = 10 := by rw [va_up_n (by omega)]; exact k1
  have k3 : va_up (va_up kd2 (t + 28) 25) (t + 28 + 1) 20 t = 10 := by rw [va_up_n (by omega)]; exact k2
  have k4 : va_up (va_up (va_up kd2 (t + 28) 25) (t + 28 + 1) 20) (t + 28 + 1 + 1) 20 t = 10 := by rw [va_up_n (by omega)]; exact k3
  refine pr_seqY (pc' := 42) 15 rfl ⟨⟨⟨⟨⟨⟨⟨⟨⟨⟨⟨⟨⟨⟨⟨trivial, ⟨k1, Nat.succ_ne_zero t⟩⟩, ht⟩, trivial⟩, ⟨by decide, by rw [n6]; decide, by show t + 28 < 1000000; omega⟩⟩, ⟨k2, by show t + 28 ≠ 0; omega⟩⟩, ht⟩, trivial⟩, ⟨by decide, by rw [n6]; decide, by show t + 28 + 1 < 1000000; omega⟩⟩, ⟨k3, by show t + 28 + 1 ≠ 0; omega⟩⟩, ht⟩, trivial⟩, ⟨by decide, by rw [n6]; decide, by show t + 28 + 1 + 1 < 1000000; omega⟩⟩, ⟨k4, by show t + 28 + 1 + 1 ≠ 0; omega⟩⟩, trivial⟩, trivial⟩ ?_
  dsimp only
  rw [n6]
  refine n_toldL (t + 1, sl, kd, ln) M ht hlt hz 6 0 (by omega) _ _ rfl (by show sl2 + 6 + 6 + 6 = _; rw [q2]; show sl + 5 + 242 + 6 + 6 + 6 = sl + 265 + 22 * 0; omega) (fun c hc => ?_) k4 ?_ ?_ ?_ ab_u_at ?_ ?_ ?_ ⟨?_, ?_⟩ ⟨?_, ?_⟩ ⟨va_up_at _ _ _, va_up_at _ _ _⟩ (fun q hq => absurd hq (by omega))
  · obtain ⟨y1, y2, y3, y4⟩ := low c (by omega)
    have c1 : c ≠ t + 28 := by omega
    have c2 : c ≠ t + 28 + 1 := by omega
    have c3 : c ≠ t + 28 + 1 + 1 := by omega
    have c0 : c ≠ t := by omega
    exact ⟨(va_up_n c3).trans ((va_up_n c2).trans ((va_up_n c1).trans y1)), (va_up_n c3).trans ((va_up_n c2).trans ((va_up_n c1).trans y2)), (va_up_n c3).trans ((va_up_n c2).trans ((va_up_n c1).trans y3)), (ab_u_ne c0).trans ((va_up_n c3).trans ((ab_u_ne c0).trans ((va_up_n c2).trans ((ab_u_ne c0).trans ((va_up_n c1).trans ((ab_u_ne c0).trans y4))))))⟩
  · refine (ab_u_j (by decide)).trans ((congrFun (va_up_n (by omega)) _).trans ((ab_u_j (by decide)).trans ((congrFun (va_up_n (by omega)) _).trans ((ab_u_j (by decide)).trans ((congrFun (va_up_n (by omega)) _).trans ab_u_at)))))
  · refine (ab_u_j (by decide)).trans ((congrFun (va_up_n (by omega)) _).trans ((ab_u_j (by decide)).trans ((congrFun (va_up_n (by omega)) _).trans ab_u_at)))
  · refine (ab_u_j (by decide)).trans ((congrFun (va_up_n (by omega)) _).trans ab_u_at)
  · have hs : sm (t + 28) (t + 28, sl2, kd2, ln2) M2 (t + 28 + 1 + 1 + 1, sl2 + 6 + 6 + 6, va_up (va_up (va_up kd2 (t + 28) 25) (t + 28 + 1) 20) (t + 28 + 1 + 1) 20, va_up (va_up (va_up ln2 (t + 28) 6) (t + 28 + 1) 6) (t + 28 + 1 + 1) 6) (va_up (va_up (va_up M2.1 (t + 28) fun _ => 0) (t + 28 + 1) fun _ => 0) (t + 28 + 1 + 1) fun _ => 0, M2.2.1, va_up (va_up (va_up M2.2.2 (t + 28) fun _ => 0) (t + 28 + 1) fun _ => 0) (t + 28 + 1 + 1) fun _ => 0) := fun c hc => by
      have c1 : c ≠ t + 28 := by omega
      have c2 : c ≠ t + 28 + 1 := by omega
      have c3 : c ≠ t + 28 + 1 + 1 := by omega
      exact ⟨(va_up_n c3).trans ((va_up_n c2).trans (va_up_n c1)), (va_up_n c3).trans ((va_up_n c2).trans (va_up_n c1)), (va_up_n c3).trans ((va_up_n c2).trans (va_up_n c1)), (va_up_n c3).trans ((va_up_n c2).trans (va_up_n c1))⟩
    have h1 := pr_Ld_sm hs (show t + 1 + 27 ≤ t + 28 by omega) q4
    have same : ∀ c, t + 1 ≤ c → c < t + 28 → ∀ R' : Nat → Nat → Nat, R' = ab_u (va_up (ab_u (va_up (ab_u (va_up (ab_u M2.2.2 t 0 (t + 1)) (t + 28) fun _ => 0) t 1 (t + 28)) (t + 28 + 1) fun _ => 0) t 2 (t + 28 + 1)) (t + 28 + 1 + 1) fun _ => 0) t 3 (t + 28 + 1 + 1) → R' c = va_up (va_up (va_up M2.2.2 (t + 28) fun _ => 0) (t + 28 + 1) (fun _ => 0)) (t + 28 + 1 + 1) (fun _ => 0) c := fun c a1 a2 R' hR => by
      have c0 : c ≠ t := by omega
      have c1 : c ≠ t + 28 := by omega
      have c2 : c ≠ t + 28 + 1 := by omega
      have c3 : c ≠ t + 28 + 1 + 1 := by omega
      rw [hR, ab_u_ne c0, va_up_n c3, ab_u_ne c0, va_up_n c2, ab_u_ne c0, va_up_n c1, ab_u_ne c0, va_up_n c3, va_up_n c2, va_up_n c1]
    exact pr_Ld_R (fun c a1 a2 => same c (by omega) (by omega) _ rfl) h1
  · exact ld_v_congr (fun a a1 a2 => (va_up_n (by omega)).trans ((va_up_n (by omega)).trans (va_up_n (by omega)))) q5
  · exact (va_up_n (by omega)).trans ((va_up_n (by omega)).trans ((va_up_n (by omega)).trans l0.2.2.1))
  · exact (va_up_n (by omega)).trans ((va_up_n (by omega)).trans (va_up_at _ _ _))
  · exact (va_up_n (by omega)).trans ((va_up_n (by omega)).trans (va_up_at _ _ _))
  · exact (va_up_n (by omega)).trans (va_up_at _ _ _)
  · exact (va_up_n (by omega)).trans (va_up_at _ _ _)
