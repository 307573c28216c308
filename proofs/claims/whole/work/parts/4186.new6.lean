
/-! ===== constructors: SameMan's two loops ===== -/
def sk (x a : Nat) (h : ab_H) (M : ab_M) (h' : ab_H) (M' : ab_M) : Prop := ∀ c, (c < a ∨ 1000000 ≤ c) → ab_k h' c = ab_k h c ∧ ab_n h' c = ab_n h c ∧ M'.1 c = M.1 c ∧ (c ≠ x → M'.2.2 c = M.2.2 c)
theorem pr_Sh_sm {a s : Nat} {h h' : ab_H} {M M' : ab_M} (hs : sm a h M h' M') (hn : s + 1 < a) (hv : pr_Sh h M.2.2 s) : pr_Sh h' M'.2.2 s := by
  obtain ⟨v1, v2, v3, v4, v5⟩ := hv
  have x := hs s (by omega)
  have y := hs (s + 1) (by omega)
  exact ⟨v1, by rw [x.1]; exact v2, by rw [x.2.2.2]; exact v3, by rw [y.1]; exact v4, by rw [y.2.1]; exact v5⟩
theorem pr_Sh_u {h : ab_H} {R : Nat → Nat → Nat} {s a k v : Nat} (ha : s ≠ a) (hv : pr_Sh h R s) : pr_Sh h (ab_u R a k v) s := by
  obtain ⟨v1, v2, v3, v4, v5⟩ := hv
  exact ⟨v1, v2, by rw [ab_u_ne ha]; exact v3, v4, v5⟩
def sl_p (h0 : ab_H) (M0 : ab_M) (r : Option Value) (h' : ab_H) (M' : ab_M) : Prop := r = none ∧ h'.1 = 172 ∧ h'.2.1 = h0.2.1 + 176 ∧ sk 66 164 h0 M0 h' M' ∧ ∀ q, q < 4 → M'.2.2 66 q = 164 + 2 * q ∧ pr_Sh h' M'.2.2 (164 + 2 * q) ∧ M'.1 (164 + 2 * q) 1 = 0
theorem n_shL (h0 : ab_H) (M0 : ab_M) (k1 : ab_k h0 1 = 11) (r8 : M0.2.2 1 8 = 66) (k66 : ab_k h0 66 = 27) (n66 : ab_n h0 66 = 4) : ∀ dd p, p + dd = 4 → ∀ (h : ab_H) (M : ab_M), h.1 = 164 + 2 * p → h.2.1 = h0.2.1 + 44 * p → sk 66 164 h0 M0 h M → (∀ q, q < p → M.2.2 66 q = 164 + 2 * q ∧ pr_Sh h M.2.2 (164 + 2 * q) ∧ M.1 (164 + 2 * q) 1 = 0) → pr_Y pX10_init 136 [some (.ref 1), some (.int (nI p))] [] h M (sl_p h0 M0) := by
  intro dd
  induction dd with
  | zero =>
    intro p hp h M i1 i2 i3 io
    obtain rfl : p = 4 := by omega
    have e1 : nI 4 ≤ nI 4 := nI_le (Nat.le_refl _) (by decide)
    refine pr_seqY (pc' := 138) 2 rfl ⟨⟨trivial, trivial⟩, trivial⟩ ?_
    refine pr_icY rfl (fun _ => ?_) (fun q => absurd (show nI 4 ≤ nI 4 from e1) q)
    exact pr_vrY rfl rfl ⟨rfl, i1, i2, i3, io⟩
  | succ dd ih =>
    intro p hp h M i1 i2 i3 io
    have e1 : ¬ nI 4 ≤ nI p := nI_ge (by omega) (by decide)
    obtain ⟨n, sl, kd, ln⟩ := h
    dsimp only at i1 i2
    subst i1
    have j1 := i3 1 (by omega)
    have k0 : kd 1 = 11 := j1.1.trans k1
    have vin : vp_in (nI p) 4 := vp_in_nI (by omega) (by decide)
    refine pr_seqY (pc' := 138) 2 rfl ⟨⟨trivial, trivial⟩, trivial⟩ ?_
    refine pr_icY rfl (fun q => absurd (show nI 4 ≤ nI p from q) e1) (fun _ => ?_)
    refine pr_seqY (pc' := 150) 5 rfl ⟨⟨⟨⟨⟨trivial, by decide⟩, k0⟩, trivial⟩, ⟨by decide, by show 164 + 2 * p < 1000000; omega⟩⟩, trivial⟩ ?_
    refine pr_ciY [] rfl rfl rfl rfl rfl (Nat.le_of_ble_eq_true rfl) (by omega) (Nat.le_of_ble_eq_true rfl) (n_sheet (a := 164 + 2 * p) _ _ (by omega) (va_up_at _ _ _) rfl (by omega)) (fun v h2 M2 q => ?_)
    obtain ⟨rfl, q1, q2, q3, q4, q5⟩ := q
    have r1' : M.2.2 1 (1008 % 100) = 66 := (congrFun (j1.2.2.2 (by decide)) _).trans r8
    rw [r1']
    have low : ∀ c, (c < 164 + 2 * p ∨ 1000000 ≤ c) → ab_k h2 c = kd c ∧ ab_n h2 c = ln c ∧ M2.1 c = M.1 c ∧ M2.2.2 c = M.2.2 c := fun c hc => by
      obtain ⟨y1, y2, y3, y4⟩ := q3 c hc
      have c1 : c ≠ 164 + 2 * p := by omega
      exact ⟨by rw [y1]; exact va_up_n c1, by rw [y2], by rw [y3]; exact va_up_n c1, by rw [y4]; exact va_up_n c1⟩
    have hsm : sm (164 + 2 * p) (164 + 2 * p, sl, kd, ln) M h2 M2 := fun c hc => low c hc
    have l66 := low 66 (by omega)
    have kk : ab_k h2 66 = 27 := by rw [l66.1]; exact (i3 66 (by omega)).1.trans k66
    have nn : ab_n h2 66 = 4 := by rw [l66.2.1]; exact (i3 66 (by omega)).2.1.trans n66
    refine pr_seqY (pc' := 136) 3 rfl ⟨⟨⟨trivial, ⟨⟨by rw [kk]; decide, by rw [kk]; decide⟩, by rw [kk]; exact q4.2.1, by rw [nn]; exact vin⟩⟩, trivial⟩, trivial⟩ ?_
    rw [nI_clamp (by omega), show Int32.ofInt 1 = 1 by decide, nI_1]
    refine ih (p + 1) (by omega) h2 _ (by rw [q1]; omega) (by rw [q2]; show sl + 4 + 40 = _; omega) (fun c hc => ?_) (fun q hq => ?_)
    · obtain ⟨x1, x2, x3, x4⟩ := i3 c hc
      obtain ⟨y1, y2, y3, y4⟩ := low c (by omega)
      exact ⟨y1.trans x1, y2.trans x2, y3.trans x3, fun hx => (ab_u_ne hx).trans (y4.trans (x4 hx))⟩
    · by_cases e : q = p
      · subst e
        exact ⟨ab_u_at, pr_Sh_u (by omega) q4, (congrFun q5 1).trans (congrFun (va_up_at _ _ _) 1)⟩
      · obtain ⟨z1, z2, z3⟩ := io q (by omega)
        exact ⟨(ab_u_j (by omega)).trans ((congrFun l66.2.2.2 q).trans z1), pr_Sh_u (by omega) (pr_Sh_sm hsm (by omega) z2), (congrFun (low (164 + 2 * q) (by omega)).2.2.1 1).trans z3⟩
