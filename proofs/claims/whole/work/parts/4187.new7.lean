
/-! ===== constructors: SameMan's images loop ===== -/
def ag (lo hi : Nat) (h : ab_H) (M : ab_M) (h' : ab_H) (M' : ab_M) : Prop := ∀ c, lo ≤ c → c < hi → ab_k h' c = ab_k h c ∧ ab_n h' c = ab_n h c ∧ M'.1 c = M.1 c ∧ M'.2.2 c = M.2.2 c
theorem ag_sub {lo hi lo' hi' : Nat} {h h' : ab_H} {M M' : ab_M} (ha : ag lo hi h M h' M') (a1 : lo ≤ lo') (a2 : hi' ≤ hi) : ag lo' hi' h M h' M' := fun c x y => ha c (by omega) (by omega)
theorem ag_tr {lo hi : Nat} {h h' h2 : ab_H} {M M' M2 : ab_M} (ha : ag lo hi h M h' M') (hb : ag lo hi h' M' h2 M2) : ag lo hi h M h2 M2 := fun c x y => ⟨(hb c x y).1.trans (ha c x y).1, (hb c x y).2.1.trans (ha c x y).2.1, (hb c x y).2.2.1.trans (ha c x y).2.2.1, (hb c x y).2.2.2.trans (ha c x y).2.2.2⟩
theorem pr_Nm_ag {n : Nat} {h h' : ab_H} {M M' : ab_M} (hs : ag n (n + 2) h M h' M') (hv : pr_Nm h M.2.2 n) : pr_Nm h' M'.2.2 n := by
  obtain ⟨v1, v2, v3, v4, v5⟩ := hv
  have x := hs n (by omega) (by omega)
  have y := hs (n + 1) (by omega) (by omega)
  exact ⟨v1, x.1.trans v2, (congrFun x.2.2.2 0).trans v3, y.1.trans v4, y.2.1.trans v5⟩
theorem pr_Sh_ag {n : Nat} {h h' : ab_H} {M M' : ab_M} (hs : ag n (n + 2) h M h' M') (hv : pr_Sh h M.2.2 n) : pr_Sh h' M'.2.2 n := by
  obtain ⟨v1, v2, v3, v4, v5⟩ := hv
  have x := hs n (by omega) (by omega)
  have y := hs (n + 1) (by omega) (by omega)
  exact ⟨v1, x.1.trans v2, (congrFun x.2.2.2 0).trans v3, y.1.trans v4, y.2.1.trans v5⟩
theorem pr_Ld_ag {g : Nat} {h h' : ab_H} {M M' : ab_M} (hs : ag g (g + 27) h M h' M') (hv : pr_Ld h M.2.2 g) : pr_Ld h' M'.2.2 g := by
  obtain ⟨v1, v2, v3, v4, v5, v6, v7, v9⟩ := hv
  have x := hs g (by omega) (by omega)
  have y := hs (g + 1) (by omega) (by omega)
  have z := hs (g + 2) (by omega) (by omega)
  refine ⟨v1, x.1.trans v2, (congrFun x.2.2.2 0).trans v3, (congrFun x.2.2.2 1).trans v4, y.1.trans v5, y.2.1.trans v6, ⟨z.1.trans v7.1, z.2.1.trans v7.2⟩, fun p hp => ?_⟩
  obtain ⟨x1, x2, x3, x4, x5⟩ := v9 p hp
  have w := hs (g + 3 + 3 * p) (by omega) (by omega)
  exact ⟨(congrFun z.2.2.2 p).trans x1, x2, w.1.trans x3, (congrFun w.2.2.2 0).trans x4, pr_Nm_ag (ag_sub hs (by omega) (by omega)) x5⟩
theorem pr_Tl_ag {t : Nat} {h h' : ab_H} {M M' : ab_M} (hs : ag t (t + 43) h M h' M') (hv : pr_Tl h M.2.2 t) : pr_Tl h' M'.2.2 t := by
  obtain ⟨v1, v2, v3, v4, v5, v6, v7, v8, v9, v10, v11⟩ := hv
  have x := hs t (by omega) (by omega)
  have y := hs (t + 28) (by omega) (by omega)
  have z := hs (t + 29) (by omega) (by omega)
  have w := hs (t + 30) (by omega) (by omega)
  refine ⟨v1, x.1.trans v2, (congrFun x.2.2.2 0).trans v3, (congrFun x.2.2.2 1).trans v4, (congrFun x.2.2.2 2).trans v5, (congrFun x.2.2.2 3).trans v6, pr_Ld_ag (ag_sub hs (by omega) (by omega)) v7, ⟨y.1.trans v8.1, y.2.1.trans v8.2⟩, ⟨z.1.trans v9.1, z.2.1.trans v9.2⟩, ⟨w.1.trans v10.1, w.2.1.trans v10.2⟩, fun q hq => ?_⟩
  obtain ⟨x1, x2⟩ := v11 q hq
  exact ⟨(congrFun y.2.2.2 q).trans x1, pr_Nm_ag (ag_sub hs (by omega) (by omega)) x2⟩
theorem pr_Cs_ag {c : Nat} {h h' : ab_H} {M M' : ab_M} (hs : ag c (c + 6) h M h' M') (hv : pr_Cs h M.2.2 c) : pr_Cs h' M'.2.2 c := by
  obtain ⟨v1, v2, v3, v4, v5, v6, v7, v8, v9, v10, v11, v12⟩ := hv
  have x := hs c (by omega) (by omega)
  have y1 := hs (c + 1) (by omega) (by omega)
  have y2 := hs (c + 2) (by omega) (by omega)
  have y3 := hs (c + 3) (by omega) (by omega)
  have y4 := hs (c + 4) (by omega) (by omega)
  have y5 := hs (c + 5) (by omega) (by omega)
  exact ⟨v1, x.1.trans v2, (congrFun x.2.2.2 0).trans v3, (congrFun x.2.2.2 1).trans v4, (congrFun x.2.2.2 2).trans v5, (congrFun x.2.2.2 3).trans v6, (congrFun x.2.2.2 4).trans v7, ⟨y1.1.trans v8.1, y1.2.1.trans v8.2⟩, ⟨y2.1.trans v9.1, y2.2.1.trans v9.2⟩, ⟨y3.1.trans v10.1, y3.2.1.trans v10.2⟩, ⟨y4.1.trans v11.1, y4.2.1.trans v11.2⟩, y5.1.trans v12.1, y5.2.1.trans v12.2⟩
def il_p (h0 : ab_H) (M0 : ab_M) (r : Option Value) (h' : ab_H) (M' : ab_M) : Prop := r = none ∧ h'.1 = 172 ∧ h'.2.1 = h0.2.1 + 670 ∧ (∀ c, (c < 110 ∨ 1000000 ≤ c) → ab_k h' c = ab_k h0 c ∧ ab_n h' c = ab_n h0 c ∧ M'.1 c = M0.1 c ∧ (c ≠ 64 → c ≠ 66 → M'.2.2 c = M0.2.2 c)) ∧ (∀ q, q < 2 → M'.2.2 64 q = 110 + 27 * q ∧ pr_Ld h' M'.2.2 (110 + 27 * q)) ∧ ∀ q, q < 4 → M'.2.2 66 q = 164 + 2 * q ∧ pr_Sh h' M'.2.2 (164 + 2 * q) ∧ M'.1 (164 + 2 * q) 1 = 0
theorem n_imL (h0 : ab_H) (M0 : ab_M) (k1 : ab_k h0 1 = 11) (r6 : M0.2.2 1 6 = 64) (r8 : M0.2.2 1 8 = 66) (k64 : ab_k h0 64 = 24) (n64 : ab_n h0 64 = 2) (k66 : ab_k h0 66 = 27) (n66 : ab_n h0 66 = 4) : ∀ dd p, p + dd = 2 → ∀ (h : ab_H) (M : ab_M), h.1 = 110 + 27 * p → h.2.1 = h0.2.1 + 247 * p → sk 64 110 h0 M0 h M → (∀ q, q < p → M.2.2 64 q = 110 + 27 * q ∧ pr_Ld h M.2.2 (110 + 27 * q)) → pr_Y pX10_init 110 [some (.ref 1), some (.int (nI p))] [] h M (il_p h0 M0) := by
  intro dd
  induction dd with
  | zero =>
    intro p hp h M i1 i2 i3 io
    obtain rfl : p = 2 := by omega
    have e1 : nI 2 ≤ nI 2 := nI_le (Nat.le_refl _) (by decide)
    refine pr_seqY (pc' := 112) 2 rfl ⟨⟨trivial, trivial⟩, trivial⟩ ?_
    refine pr_icY rfl (fun _ => ?_) (fun q => absurd (show nI 2 ≤ nI 2 from e1) q)
    refine pr_seqY (pc' := 136) 2 rfl ⟨⟨trivial, trivial⟩, trivial⟩ ?_
    obtain ⟨r, h', M', a1, b1, b2, b3, b4, b5⟩ := n_shL h M ((i3 1 (by omega)).1.trans k1) ((congrFun ((i3 1 (by omega)).2.2.2 (by decide)) _).trans r8) ((i3 66 (by omega)).1.trans k66) ((i3 66 (by omega)).2.1.trans n66) 4 0 (by omega) h M i1 (by omega) (fun c _ => ⟨rfl, rfl, rfl, fun _ => rfl⟩) (fun q hq => absurd hq (by omega))
    refine ⟨r, h', M', a1, b1, b2, by rw [b3, i2], fun c hc => ?_, fun q hq => ?_, b5⟩
    · obtain ⟨x1, x2, x3, x4⟩ := i3 c hc
      obtain ⟨y1, y2, y3, y4⟩ := b4 c (by omega)
      exact ⟨y1.trans x1, y2.trans x2, y3.trans x3, fun g1 g2 => (y4 g2).trans (x4 g1)⟩
    · obtain ⟨z1, z2⟩ := io q hq
      refine ⟨(congrFun ((b4 64 (by omega)).2.2.2 (by decide)) q).trans z1, pr_Ld_ag (fun c a1 a2 => ?_) z2⟩
      obtain ⟨y1, y2, y3, y4⟩ := b4 c (by omega)
      exact ⟨y1, y2, y3, y4 (by omega)⟩
  | succ dd ih =>
    intro p hp h M i1 i2 i3 io
    have e1 : ¬ nI 2 ≤ nI p := nI_ge (by omega) (by decide)
    obtain ⟨n, sl, kd, ln⟩ := h
    dsimp only at i1 i2
    subst i1
    have j1 := i3 1 (by omega)
    have k0 : kd 1 = 11 := j1.1.trans k1
    have vin : vp_in (nI p) 2 := vp_in_nI (by omega) (by decide)
    refine pr_seqY (pc' := 112) 2 rfl ⟨⟨trivial, trivial⟩, trivial⟩ ?_
    refine pr_icY rfl (fun q => absurd (show nI 2 ≤ nI p from q) e1) (fun _ => ?_)
    refine pr_seqY (pc' := 124) 5 rfl ⟨⟨⟨⟨⟨trivial, by decide⟩, k0⟩, trivial⟩, ⟨by decide, by show 110 + 27 * p < 1000000; omega⟩⟩, trivial⟩ ?_
    refine pr_ciY [] rfl rfl rfl rfl rfl (Nat.le_of_ble_eq_true rfl) (by omega) (Nat.le_of_ble_eq_true rfl) (n_land (g := 110 + 27 * p) _ _ (by omega) (va_up_at _ _ _) rfl (by omega)) (fun v h2 M2 q => ?_)
    obtain ⟨rfl, q1, q2, q3, q4, q5⟩ := q
    have r1' : M.2.2 1 (1006 % 100) = 64 := (congrFun (j1.2.2.2 (by decide)) _).trans r6
    rw [r1']
    have low : ∀ c, (c < 110 + 27 * p ∨ 1000000 ≤ c) → ab_k h2 c = kd c ∧ ab_n h2 c = ln c ∧ M2.1 c = M.1 c ∧ M2.2.2 c = M.2.2 c := fun c hc => by
      obtain ⟨y1, y2, y3, y4⟩ := q3 c hc
      have c1 : c ≠ 110 + 27 * p := by omega
      exact ⟨by rw [y1]; exact va_up_n c1, by rw [y2], by rw [y3]; exact va_up_n c1, by rw [y4]; exact va_up_n c1⟩
    have l64 := low 64 (by omega)
    have kk : ab_k h2 64 = 24 := by rw [l64.1]; exact (i3 64 (by omega)).1.trans k64
    have nn : ab_n h2 64 = 2 := by rw [l64.2.1]; exact (i3 64 (by omega)).2.1.trans n64
    refine pr_seqY (pc' := 110) 3 rfl ⟨⟨⟨trivial, ⟨⟨by rw [kk]; decide, by rw [kk]; decide⟩, by rw [kk]; exact q4.2.1, by rw [nn]; exact vin⟩⟩, trivial⟩, trivial⟩ ?_
    rw [nI_clamp (by omega), show Int32.ofInt 1 = 1 by decide, nI_1]
    refine ih (p + 1) (by omega) h2 _ (by rw [q1]; omega) (by rw [q2]; show sl + 5 + 242 = _; omega) (fun c hc => ?_) (fun q hq => ?_)
    · obtain ⟨x1, x2, x3, x4⟩ := i3 c hc
      obtain ⟨y1, y2, y3, y4⟩ := low c (by omega)
      exact ⟨y1.trans x1, y2.trans x2, y3.trans x3, fun hx => (ab_u_ne hx).trans (y4.trans (x4 hx))⟩
    · by_cases e : q = p
      · subst e
        exact ⟨ab_u_at, pr_Ld_R (fun c a1 a2 => ab_u_ne (by omega)) q4⟩
      · obtain ⟨z1, z2⟩ := io q (by omega)
        refine ⟨(ab_u_j (by omega)).trans ((congrFun l64.2.2.2 q).trans z1), pr_Ld_R (fun c a1 a2 => ab_u_ne (by omega)) (pr_Ld_ag (fun c a1 a2 => ?_) z2)⟩
        exact low c (by omega)
