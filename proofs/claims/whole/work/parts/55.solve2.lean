
/-! ===== Pairs: weigh, find; solve ===== -/
theorem kn_at {X : St} {t : Nat} (h : t < X.1.2.2.length) : X.1.2.2[t]? = some (kn X t) := by
  unfold kn
  rw [List.getD_eq_getElem?_getD, List.getElem?_eq_getElem h]
  rfl
def pA (X : St) (l t : Nat) : Int32 := nI (a_win X.1.1.2.2.1 0 l (x_ln X (kn X t).1))
def pR (X : St) (a b t : Nat) : Int32 := nI (kn X t).2 - (nI (x_ls X (kn X t).1) - pA X a t * nI (X.1.1.1 a) - pA X b t * nI (X.1.1.1 b))
theorem pa_step {I : Nat → Nat → Int32} {k : Nat} {A B R : Nat → Int32} (h : pa_v I k A B R) : pa_v (ab_u (ab_u (ab_u I 59 k (A k)) 60 k (B k)) 61 k (R k)) (k + 1) A B R := by
  intro t ht
  rw [ab_u_ne (show 59 ≠ 61 by decide), ab_u_ne (show 59 ≠ 60 by decide), ab_u_ne (show 60 ≠ 61 by decide)]
  by_cases e : t = k
  · subst e; rw [ab_u_at, ab_u_at, ab_u_at]; exact ⟨rfl, rfl, rfl⟩
  · rw [ab_u_j e, ab_u_j e, ab_u_ne (show 60 ≠ 59 by decide), ab_u_j e, ab_u_ne (show 61 ≠ 60 by decide), ab_u_ne (show 61 ≠ 59 by decide)]
    exact h t (by omega)
set_option maxHeartbeats 4000000 in
theorem c_pweigh {X : St} {t a b : Nat} (ha : a < 26) (hb : b < 26) (h : ab_H) (M : ab_M) (hp : pr_Pa h M.2.2) (ht : pr_Tl h M.2.2 t) (htt : t + 43 ≤ 58 ∨ 61 < t) (hT : tl_v M.1 t X.1) : pr_X pX4_weigh [.ref 58, .ref t, .int (nI a), .int (nI b)] h M (fun r M' => r = none ∧ M'.2 = M.2 ∧ M'.1 58 3 = nI X.1.2.2.length ∧ pa_v M'.1 X.1.2.2.length (pA X a) (pA X b) (pR X a b) ∧ ∀ c, (c < 58 ∨ 61 < c) → M'.1 c = M.1 c) := by
  obtain ⟨k58, f0, f1, f2, ⟨a1, a2⟩, ⟨b1, b2⟩, c1, c2⟩ := id hp
  obtain ⟨t0, t1, r0, r1, r2, r3, hg, ⟨ka, kb⟩, ⟨kc, kd⟩, ⟨ke, kf⟩, hnm⟩ := id ht
  obtain ⟨g0, g1, s1, s2, m1, m2, -⟩ := id hg
  obtain ⟨hd, v2, v3, v4, v5, v6, v7⟩ := id hT
  have d7 := hd.2.2.2.2.2.2.1
  have n58 : (58 : Nat) ≠ 0 := by decide
  have e5 : (nI a).toNatClampNeg = a := nI_clamp (by omega)
  have e6 : (nI b).toNatClampNeg = b := nI_clamp (by omega)
  have va : vp_in (nI a) (ab_n h (t + 1 + 1)) := by rw [m2]; exact vp_in_nI (by omega) (by decide)
  have vb : vp_in (nI b) (ab_n h (t + 1 + 1)) := by rw [m2]; exact vp_in_nI (by omega) (by decide)
  have loop : ∀ dd k, k + dd = X.1.2.2.length → ∀ (I : Nat → Nat → Int32) (o6 o7 o8 : Option Value), (∀ c, (c < 58 ∨ 61 < c) → I c = M.1 c) → I 58 3 = nI X.1.2.2.length → pa_v I k (pA X a) (pA X b) (pR X a b) → pr_T pX4_weigh 17 [some (.ref 58), some (.ref t), some (.int (nI a)), some (.int (nI b)), some (.ref (t + 1)), some (.int (nI k)), o6, o7, o8] [] h (I, M.2.1, M.2.2) (fun r M' => r = none ∧ M'.2 = M.2 ∧ M'.1 58 3 = nI X.1.2.2.length ∧ pa_v M'.1 X.1.2.2.length (pA X a) (pA X b) (pR X a b) ∧ ∀ c, (c < 58 ∨ 61 < c) → M'.1 c = M.1 c) := by
    intro dd
    induction dd with
    | zero =>
      intro k hk I o6 o7 o8 hf h3 hpa
      obtain rfl : k = X.1.2.2.length := by omega
      have e1 : nI X.1.2.2.length ≤ nI X.1.2.2.length := nI_le (Nat.le_refl _) (by omega)
      refine pr_seqT (pc' := 23) 3 rfl ⟨⟨⟨trivial, trivial⟩, (by first | assumption | (simp only [h3, pr_i_0, pr_i_1]; first | assumption | decide | exact ⟨by assumption, by assumption⟩ | exact ⟨Or.inl (by assumption), by assumption⟩ | omega) | decide | exact ⟨Or.inl (by assumption), by assumption⟩ | exact ⟨by assumption, by assumption⟩ | omega)⟩, (by first | assumption | (simp only [h3, pr_i_0, pr_i_1]; first | assumption | decide | exact ⟨by assumption, by assumption⟩ | exact ⟨Or.inl (by assumption), by assumption⟩ | omega) | decide | exact ⟨Or.inl (by assumption), by assumption⟩ | exact ⟨by assumption, by assumption⟩ | omega)⟩ ?_
      try simp only [h3, pr_i_0, pr_i_1]
      refine pr_icT rfl (fun h23 => ?_) (fun h23 => ?_)
      · simp only [ab_cmp, pr_i_0, pr_i_1] at h23
        first
        | contradiction
        | exact absurd trivial h23
        | exact absurd h23 (by decide)
        | exact absurd (Classical.not_not.mp h23) (by decide)
        | skip
          exact pr_vrT rfl rfl (by exact ⟨rfl, rfl, h3, hpa, hf⟩)
      · simp only [ab_cmp, pr_i_0, pr_i_1] at h23
        first
        | contradiction
        | exact absurd trivial h23
        | exact absurd h23 (by decide)
        | exact absurd (Classical.not_not.mp h23) (by decide)
        | skip
          fail
    | succ dd ih =>
      intro k hk I o6 o7 o8 hf h3 hpa
      have e1 : ¬ nI X.1.2.2.length ≤ nI k := nI_ge (by omega) (by omega)
      have e3 : (nI k).toNatClampNeg = k := nI_clamp (by omega)
      obtain ⟨x1, x2, x3⟩ := v7 k _ (kn_at (by omega))
      have x3' : (kn X k).1 < X.1.2.1.length := x3.1
      have e4 : (nI (kn X k).1).toNatClampNeg = (kn X k).1 := nI_clamp (by omega)
      obtain ⟨y1, y2⟩ := hnm (kn X k).1 (by omega)
      have hw := (v6 (kn X k).1 _ (x_ls_at x3')).1
      have z1 : I (t + 29) k = nI (kn X k).1 := by rw [hf _ (by omega)]; exact x1
      have w1 : vp_in (nI k) (ab_n h 59) := by rw [a2]; exact vp_in_nI (by omega) (by decide)
      have w2 : vp_in (nI k) (ab_n h 60) := by rw [b2]; exact vp_in_nI (by omega) (by decide)
      have w3 : vp_in (nI k) (ab_n h 61) := by rw [c2]; exact vp_in_nI (by omega) (by decide)
      have w4 : vp_in (nI k) (ab_n h (t + 29)) := by rw [kd]; exact vp_in_nI (by omega) (by decide)
      have w5 : vp_in (nI k) (ab_n h (t + 30)) := by rw [kf]; exact vp_in_nI (by omega) (by decide)
      have w6 : (24 ≤ ab_k h (t + 28) ∧ ab_k h (t + 28) ≤ 27) ∧ vp_in (nI (kn X k).1) (ab_n h (t + 28)) := ⟨by rw [ka]; decide, by rw [kb]; exact vp_in_nI (by omega) (by decide)⟩
      have n1 := y2.2.1
      have n0 := y2.1
      have hli := c_lists (m := X.1.2.1.length) (nI (kn X k).1) h (I, M.2.1, M.2.2) t0 t1 (by show I t 4 = _; rw [hf _ (by omega)]; exact v2)
      rw [decide_eq_false (nI_pos (show (kn X k).1 < 2 ^ 31 by omega)), decide_eq_false (nI_ge x3' (by omega))] at hli
      have hliT : (!false && !false) = true := rfl
      rw [hliT] at hli
      have fr : ∀ I' : Nat → Nat → Int32, (∀ c, (c < 58 ∨ 61 < c) → I' c = M.1 c) → ld_v I' (t + 1) X.1.1 ∧ nm_v I' (t + 31 + 2 * (kn X k).1) (x_ln X (kn X k).1) := fun I' hI' => ⟨ld_v_congr (fun c _ _ => hI' c (by omega)) hd, nm_v_congr (hI' _ (by omega)) (hI' _ (by omega)) hw⟩
      have far1 : ∀ c, (c < 58 ∨ 61 < c) → ab_u I 59 k (pA X a k) c = M.1 c := fun c hc => by rw [ab_u_ne (by omega)]; exact hf c hc
      have far2 : ∀ c, (c < 58 ∨ 61 < c) → ab_u (ab_u I 59 k (pA X a k)) 60 k (pA X b k) c = M.1 c := fun c hc => by rw [ab_u_ne (by omega)]; exact far1 c hc
      have far3 : ∀ c, (c < 58 ∨ 61 < c) → ab_u (ab_u (ab_u I 59 k (pA X a k)) 60 k (pA X b k)) 61 k (pR X a b k) c = M.1 c := fun c hc => by rw [ab_u_ne (by omega)]; exact far2 c hc
      have hwa : pr_C pX1_weightIn [.ref (t + 1), .ref (t + 31 + 2 * (kn X k).1), .int 0, .int (nI a)] h (I, M.2.1, M.2.2) (some (.int (pA X a k))) h (I, M.2.1, M.2.2) := c_weightIn (kind := 0) (l := a) h (I, M.2.1, M.2.2) hg (fr _ hf).1 y2 (fr _ hf).2 (by decide) ha
      have hwb : pr_C pX1_weightIn [.ref (t + 1), .ref (t + 31 + 2 * (kn X k).1), .int 0, .int (nI b)] h (ab_u I 59 k (pA X a k), M.2.1, M.2.2) (some (.int (pA X b k))) h (ab_u I 59 k (pA X a k), M.2.1, M.2.2) := c_weightIn (kind := 0) (l := b) h (ab_u I 59 k (pA X a k), M.2.1, M.2.2) hg (fr _ far1).1 y2 (fr _ far1).2 (by decide) hb
      have hsu : pr_C pX1_sumOf [.ref (t + 1), .ref (t + 31 + 2 * (kn X k).1), .int 0] h (ab_u (ab_u I 59 k (pA X a k)) 60 k (pA X b k), M.2.1, M.2.2) (some (.int (nI (x_ls X (kn X k).1)))) h (ab_u (ab_u I 59 k (pA X a k)) 60 k (pA X b k), M.2.1, M.2.2) := c_sumOf (kind := 0) h (ab_u (ab_u I 59 k (pA X a k)) 60 k (pA X b k), M.2.1, M.2.2) hg (fr _ far2).1 y2 (fr _ far2).2 (by decide)
      have u1 : ab_u (ab_u I 59 k (pA X a k)) 60 k (pA X b k) 59 k = pA X a k := by rw [ab_u_ne (by decide), ab_u_at]
      have u2 : ab_u (ab_u I 59 k (pA X a k)) 60 k (pA X b k) 60 k = pA X b k := ab_u_at
      have u3 : ab_u (ab_u I 59 k (pA X a k)) 60 k (pA X b k) (t + 1 + 1) a = nI (X.1.1.1 a) := by rw [far2 _ (by omega)]; exact (d7 a ha).1
      have u4 : ab_u (ab_u I 59 k (pA X a k)) 60 k (pA X b k) (t + 1 + 1) b = nI (X.1.1.1 b) := by rw [far2 _ (by omega)]; exact (d7 b hb).1
      have u5 : ab_u (ab_u I 59 k (pA X a k)) 60 k (pA X b k) (t + 30) k = nI (kn X k).2 := by rw [far2 _ (by omega)]; exact x2
      have h3' : ab_u (ab_u (ab_u I 59 k (pA X a k)) 60 k (pA X b k)) 61 k (pR X a b k) 58 3 = nI X.1.2.2.length := by rw [ab_u_ne (by decide), ab_u_ne (by decide), ab_u_ne (by decide)]; exact h3
      have hh := fun o6 o7 o8 => ih (k + 1) (by omega) _ o6 o7 o8 far3 h3' (pa_step hpa)
      rw [← nI_1] at hh
      refine pr_seqT (pc' := 23) 3 rfl ⟨⟨⟨trivial, trivial⟩, (by first | assumption | (simp only [h3, r0, r1, r2, r3, s1, f0, f1, f2, e3, e4, e5, e6, z1, y1, u1, u2, u3, u4, u5, pr_i_0, pr_i_1]; first | assumption | decide | exact ⟨by assumption, by assumption⟩ | exact ⟨Or.inl (by assumption), by assumption⟩ | omega) | decide | exact ⟨Or.inl (by assumption), by assumption⟩ | exact ⟨by assumption, by assumption⟩ | omega)⟩, (by first | assumption | (simp only [h3, r0, r1, r2, r3, s1, f0, f1, f2, e3, e4, e5, e6, z1, y1, u1, u2, u3, u4, u5, pr_i_0, pr_i_1]; first | assumption | decide | exact ⟨by assumption, by assumption⟩ | exact ⟨Or.inl (by assumption), by assumption⟩ | omega) | decide | exact ⟨Or.inl (by assumption), by assumption⟩ | exact ⟨by assumption, by assumption⟩ | omega)⟩ ?_
      try simp only [h3, r0, r1, r2, r3, s1, f0, f1, f2, e3, e4, e5, e6, z1, y1, u1, u2, u3, u4, u5, pr_i_0, pr_i_1]
      refine pr_icT rfl (fun h23 => ?_) (fun h23 => ?_)
      · simp only [ab_cmp, pr_i_0, pr_i_1] at h23
        first
        | contradiction
        | exact absurd trivial h23
        | exact absurd h23 (by decide)
        | exact absurd (Classical.not_not.mp h23) (by decide)
        | skip
          fail
      · simp only [ab_cmp, pr_i_0, pr_i_1] at h23
        first
        | contradiction
        | exact absurd trivial h23
        | exact absurd h23 (by decide)
        | exact absurd (Classical.not_not.mp h23) (by decide)
        | skip
          refine pr_seqT (pc' := 38) 7 rfl ⟨⟨⟨⟨⟨⟨⟨trivial, (by first | assumption | (simp only [h3, r0, r1, r2, r3, s1, f0, f1, f2, e3, e4, e5, e6, z1, y1, u1, u2, u3, u4, u5, pr_i_0, pr_i_1]; first | assumption | decide | exact ⟨by assumption, by assumption⟩ | exact ⟨Or.inl (by assumption), by assumption⟩ | omega) | decide | exact ⟨Or.inl (by assumption), by assumption⟩ | exact ⟨by assumption, by assumption⟩ | omega)⟩, (by first | assumption | (simp only [h3, r0, r1, r2, r3, s1, f0, f1, f2, e3, e4, e5, e6, z1, y1, u1, u2, u3, u4, u5, pr_i_0, pr_i_1]; first | assumption | decide | exact ⟨by assumption, by assumption⟩ | exact ⟨Or.inl (by assumption), by assumption⟩ | omega) | decide | exact ⟨Or.inl (by assumption), by assumption⟩ | exact ⟨by assumption, by assumption⟩ | omega)⟩, trivial⟩, (by first | assumption | (simp only [h3, r0, r1, r2, r3, s1, f0, f1, f2, e3, e4, e5, e6, z1, y1, u1, u2, u3, u4, u5, pr_i_0, pr_i_1]; first | assumption | decide | exact ⟨by assumption, by assumption⟩ | exact ⟨Or.inl (by assumption), by assumption⟩ | omega) | decide | exact ⟨Or.inl (by assumption), by assumption⟩ | exact ⟨by assumption, by assumption⟩ | omega)⟩, trivial⟩, (by first | assumption | (simp only [h3, r0, r1, r2, r3, s1, f0, f1, f2, e3, e4, e5, e6, z1, y1, u1, u2, u3, u4, u5, pr_i_0, pr_i_1]; first | assumption | decide | exact ⟨by assumption, by assumption⟩ | exact ⟨Or.inl (by assumption), by assumption⟩ | omega) | decide | exact ⟨Or.inl (by assumption), by assumption⟩ | exact ⟨by assumption, by assumption⟩ | omega)⟩, trivial⟩ ?_
          try simp only [h3, r0, r1, r2, r3, s1, f0, f1, f2, e3, e4, e5, e6, z1, y1, u1, u2, u3, u4, u5, pr_i_0, pr_i_1]
          refine pr_cvT [_] rfl rfl rfl rfl rfl (Nat.le_of_ble_eq_true rfl) (by first | assumption | (simp only [h3, r0, r1, r2, r3, s1, f0, f1, f2, e3, e4, e5, e6, z1, y1, u1, u2, u3, u4, u5, pr_i_0, pr_i_1]; first | assumption | decide | exact ⟨by assumption, by assumption⟩ | exact ⟨Or.inl (by assumption), by assumption⟩ | omega) | decide | exact ⟨Or.inl (by assumption), by assumption⟩ | exact ⟨by assumption, by assumption⟩ | omega) (Nat.le_of_ble_eq_true rfl) (hli) ?_
          refine pr_ifT rfl (fun h41 => ?_) (fun h41 => ?_)
          · simp only [ab_cmp, pr_i_0, pr_i_1] at h41
            first
            | contradiction
            | exact absurd trivial h41
            | exact absurd h41 (by decide)
            | exact absurd (Classical.not_not.mp h41) (by decide)
            | skip
              refine pr_seqT (pc' := 17) 2 rfl ⟨⟨trivial, trivial⟩, trivial⟩ ?_
              try simp only [h3, r0, r1, r2, r3, s1, f0, f1, f2, e3, e4, e5, e6, z1, y1, u1, u2, u3, u4, u5, pr_i_0, pr_i_1]
              exact hh _ _ _
          · simp only [ab_cmp, pr_i_0, pr_i_1] at h41
            first
            | contradiction
            | exact absurd trivial h41
            | exact absurd h41 (by decide)
            | exact absurd (Classical.not_not.mp h41) (by decide)
            | skip
              refine pr_seqT (pc' := 65) 12 rfl ⟨⟨⟨⟨⟨⟨⟨⟨⟨⟨⟨⟨trivial, (by first | assumption | (simp only [h3, r0, r1, r2, r3, s1, f0, f1, f2, e3, e4, e5, e6, z1, y1, u1, u2, u3, u4, u5, pr_i_0, pr_i_1]; first | assumption | decide | exact ⟨by assumption, by assumption⟩ | exact ⟨Or.inl (by assumption), by assumption⟩ | omega) | decide | exact ⟨Or.inl (by assumption), by assumption⟩ | exact ⟨by assumption, by assumption⟩ | omega)⟩, (by first | assumption | (simp only [h3, r0, r1, r2, r3, s1, f0, f1, f2, e3, e4, e5, e6, z1, y1, u1, u2, u3, u4, u5, pr_i_0, pr_i_1]; first | assumption | decide | exact ⟨by assumption, by assumption⟩ | exact ⟨Or.inl (by assumption), by assumption⟩ | omega) | decide | exact ⟨Or.inl (by assumption), by assumption⟩ | exact ⟨by assumption, by assumption⟩ | omega)⟩, trivial⟩, (by first | assumption | (simp only [h3, r0, r1, r2, r3, s1, f0, f1, f2, e3, e4, e5, e6, z1, y1, u1, u2, u3, u4, u5, pr_i_0, pr_i_1]; first | assumption | decide | exact ⟨by assumption, by assumption⟩ | exact ⟨Or.inl (by assumption), by assumption⟩ | omega) | decide | exact ⟨Or.inl (by assumption), by assumption⟩ | exact ⟨by assumption, by assumption⟩ | omega)⟩, (by first | assumption | (simp only [h3, r0, r1, r2, r3, s1, f0, f1, f2, e3, e4, e5, e6, z1, y1, u1, u2, u3, u4, u5, pr_i_0, pr_i_1]; first | assumption | decide | exact ⟨by assumption, by assumption⟩ | exact ⟨Or.inl (by assumption), by assumption⟩ | omega) | decide | exact ⟨Or.inl (by assumption), by assumption⟩ | exact ⟨by assumption, by assumption⟩ | omega)⟩, (by first | assumption | (simp only [h3, r0, r1, r2, r3, s1, f0, f1, f2, e3, e4, e5, e6, z1, y1, u1, u2, u3, u4, u5, pr_i_0, pr_i_1]; first | assumption | decide | exact ⟨by assumption, by assumption⟩ | exact ⟨Or.inl (by assumption), by assumption⟩ | omega) | decide | exact ⟨Or.inl (by assumption), by assumption⟩ | exact ⟨by assumption, by assumption⟩ | omega)⟩, (by first | assumption | (simp only [h3, r0, r1, r2, r3, s1, f0, f1, f2, e3, e4, e5, e6, z1, y1, u1, u2, u3, u4, u5, pr_i_0, pr_i_1]; first | assumption | decide | exact ⟨by assumption, by assumption⟩ | exact ⟨Or.inl (by assumption), by assumption⟩ | omega) | decide | exact ⟨Or.inl (by assumption), by assumption⟩ | exact ⟨by assumption, by assumption⟩ | omega)⟩, trivial⟩, (by first | assumption | (simp only [h3, r0, r1, r2, r3, s1, f0, f1, f2, e3, e4, e5, e6, z1, y1, u1, u2, u3, u4, u5, pr_i_0, pr_i_1]; first | assumption | decide | exact ⟨by assumption, by assumption⟩ | exact ⟨Or.inl (by assumption), by assumption⟩ | omega) | decide | exact ⟨Or.inl (by assumption), by assumption⟩ | exact ⟨by assumption, by assumption⟩ | omega)⟩, (by first | assumption | (simp only [h3, r0, r1, r2, r3, s1, f0, f1, f2, e3, e4, e5, e6, z1, y1, u1, u2, u3, u4, u5, pr_i_0, pr_i_1]; first | assumption | decide | exact ⟨by assumption, by assumption⟩ | exact ⟨Or.inl (by assumption), by assumption⟩ | omega) | decide | exact ⟨Or.inl (by assumption), by assumption⟩ | exact ⟨by assumption, by assumption⟩ | omega)⟩, trivial⟩, trivial⟩ ?_
              try simp only [h3, r0, r1, r2, r3, s1, f0, f1, f2, e3, e4, e5, e6, z1, y1, u1, u2, u3, u4, u5, pr_i_0, pr_i_1]
              refine pr_cvT [_, _, _] rfl rfl rfl rfl rfl (Nat.le_of_ble_eq_true rfl) (by first | assumption | (simp only [h3, r0, r1, r2, r3, s1, f0, f1, f2, e3, e4, e5, e6, z1, y1, u1, u2, u3, u4, u5, pr_i_0, pr_i_1]; first | assumption | decide | exact ⟨by assumption, by assumption⟩ | exact ⟨Or.inl (by assumption), by assumption⟩ | omega) | decide | exact ⟨Or.inl (by assumption), by assumption⟩ | exact ⟨by assumption, by assumption⟩ | omega) (Nat.le_of_ble_eq_true rfl) (hwa) ?_
              refine pr_seqT (pc' := 81) 8 rfl ⟨⟨⟨⟨⟨⟨⟨⟨trivial, (by first | assumption | (simp only [h3, r0, r1, r2, r3, s1, f0, f1, f2, e3, e4, e5, e6, z1, y1, u1, u2, u3, u4, u5, pr_i_0, pr_i_1]; first | assumption | decide | exact ⟨by assumption, by assumption⟩ | exact ⟨Or.inl (by assumption), by assumption⟩ | omega) | decide | exact ⟨Or.inl (by assumption), by assumption⟩ | exact ⟨by assumption, by assumption⟩ | omega)⟩, (by first | assumption | (simp only [h3, r0, r1, r2, r3, s1, f0, f1, f2, e3, e4, e5, e6, z1, y1, u1, u2, u3, u4, u5, pr_i_0, pr_i_1]; first | assumption | decide | exact ⟨by assumption, by assumption⟩ | exact ⟨Or.inl (by assumption), by assumption⟩ | omega) | decide | exact ⟨Or.inl (by assumption), by assumption⟩ | exact ⟨by assumption, by assumption⟩ | omega)⟩, (by first | assumption | (simp only [h3, r0, r1, r2, r3, s1, f0, f1, f2, e3, e4, e5, e6, z1, y1, u1, u2, u3, u4, u5, pr_i_0, pr_i_1]; first | assumption | decide | exact ⟨by assumption, by assumption⟩ | exact ⟨Or.inl (by assumption), by assumption⟩ | omega) | decide | exact ⟨Or.inl (by assumption), by assumption⟩ | exact ⟨by assumption, by assumption⟩ | omega)⟩, trivial⟩, (by first | assumption | (simp only [h3, r0, r1, r2, r3, s1, f0, f1, f2, e3, e4, e5, e6, z1, y1, u1, u2, u3, u4, u5, pr_i_0, pr_i_1]; first | assumption | decide | exact ⟨by assumption, by assumption⟩ | exact ⟨Or.inl (by assumption), by assumption⟩ | omega) | decide | exact ⟨Or.inl (by assumption), by assumption⟩ | exact ⟨by assumption, by assumption⟩ | omega)⟩, (by first | assumption | (simp only [h3, r0, r1, r2, r3, s1, f0, f1, f2, e3, e4, e5, e6, z1, y1, u1, u2, u3, u4, u5, pr_i_0, pr_i_1]; first | assumption | decide | exact ⟨by assumption, by assumption⟩ | exact ⟨Or.inl (by assumption), by assumption⟩ | omega) | decide | exact ⟨Or.inl (by assumption), by assumption⟩ | exact ⟨by assumption, by assumption⟩ | omega)⟩, trivial⟩, trivial⟩ ?_
              try simp only [h3, r0, r1, r2, r3, s1, f0, f1, f2, e3, e4, e5, e6, z1, y1, u1, u2, u3, u4, u5, pr_i_0, pr_i_1]
              refine pr_cvT [_, _, _] rfl rfl rfl rfl rfl (Nat.le_of_ble_eq_true rfl) (by first | assumption | (simp only [h3, r0, r1, r2, r3, s1, f0, f1, f2, e3, e4, e5, e6, z1, y1, u1, u2, u3, u4, u5, pr_i_0, pr_i_1]; first | assumption | decide | exact ⟨by assumption, by assumption⟩ | exact ⟨Or.inl (by assumption), by assumption⟩ | omega) | decide | exact ⟨Or.inl (by assumption), by assumption⟩ | exact ⟨by assumption, by assumption⟩ | omega) (Nat.le_of_ble_eq_true rfl) (hwb) ?_
              refine pr_seqT (pc' := 90) 4 rfl ⟨⟨⟨⟨trivial, (by first | assumption | (simp only [h3, r0, r1, r2, r3, s1, f0, f1, f2, e3, e4, e5, e6, z1, y1, u1, u2, u3, u4, u5, pr_i_0, pr_i_1]; first | assumption | decide | exact ⟨by assumption, by assumption⟩ | exact ⟨Or.inl (by assumption), by assumption⟩ | omega) | decide | exact ⟨Or.inl (by assumption), by assumption⟩ | exact ⟨by assumption, by assumption⟩ | omega)⟩, (by first | assumption | (simp only [h3, r0, r1, r2, r3, s1, f0, f1, f2, e3, e4, e5, e6, z1, y1, u1, u2, u3, u4, u5, pr_i_0, pr_i_1]; first | assumption | decide | exact ⟨by assumption, by assumption⟩ | exact ⟨Or.inl (by assumption), by assumption⟩ | omega) | decide | exact ⟨Or.inl (by assumption), by assumption⟩ | exact ⟨by assumption, by assumption⟩ | omega)⟩, (by first | assumption | (simp only [h3, r0, r1, r2, r3, s1, f0, f1, f2, e3, e4, e5, e6, z1, y1, u1, u2, u3, u4, u5, pr_i_0, pr_i_1]; first | assumption | decide | exact ⟨by assumption, by assumption⟩ | exact ⟨Or.inl (by assumption), by assumption⟩ | omega) | decide | exact ⟨Or.inl (by assumption), by assumption⟩ | exact ⟨by assumption, by assumption⟩ | omega)⟩, trivial⟩ ?_
              try simp only [h3, r0, r1, r2, r3, s1, f0, f1, f2, e3, e4, e5, e6, z1, y1, u1, u2, u3, u4, u5, pr_i_0, pr_i_1]
              refine pr_cvT [_, _] rfl rfl rfl rfl rfl (Nat.le_of_ble_eq_true rfl) (by first | assumption | (simp only [h3, r0, r1, r2, r3, s1, f0, f1, f2, e3, e4, e5, e6, z1, y1, u1, u2, u3, u4, u5, pr_i_0, pr_i_1]; first | assumption | decide | exact ⟨by assumption, by assumption⟩ | exact ⟨Or.inl (by assumption), by assumption⟩ | omega) | decide | exact ⟨Or.inl (by assumption), by assumption⟩ | exact ⟨by assumption, by assumption⟩ | omega) (Nat.le_of_ble_eq_true rfl) (hsu) ?_
              refine pr_seqT (pc' := 17) 33 rfl ⟨⟨⟨⟨⟨⟨⟨⟨⟨⟨⟨⟨⟨⟨⟨⟨⟨⟨⟨⟨⟨⟨⟨⟨⟨⟨⟨⟨⟨⟨⟨⟨⟨trivial, (by first | assumption | (simp only [h3, r0, r1, r2, r3, s1, f0, f1, f2, e3, e4, e5, e6, z1, y1, u1, u2, u3, u4, u5, pr_i_0, pr_i_1]; first | assumption | decide | exact ⟨by assumption, by assumption⟩ | exact ⟨Or.inl (by assumption), by assumption⟩ | omega) | decide | exact ⟨Or.inl (by assumption), by assumption⟩ | exact ⟨by assumption, by assumption⟩ | omega)⟩, (by first | assumption | (simp only [h3, r0, r1, r2, r3, s1, f0, f1, f2, e3, e4, e5, e6, z1, y1, u1, u2, u3, u4, u5, pr_i_0, pr_i_1]; first | assumption | decide | exact ⟨by assumption, by assumption⟩ | exact ⟨Or.inl (by assumption), by assumption⟩ | omega) | decide | exact ⟨Or.inl (by assumption), by assumption⟩ | exact ⟨by assumption, by assumption⟩ | omega)⟩, trivial⟩, (by first | assumption | (simp only [h3, r0, r1, r2, r3, s1, f0, f1, f2, e3, e4, e5, e6, z1, y1, u1, u2, u3, u4, u5, pr_i_0, pr_i_1]; first | assumption | decide | exact ⟨by assumption, by assumption⟩ | exact ⟨Or.inl (by assumption), by assumption⟩ | omega) | decide | exact ⟨Or.inl (by assumption), by assumption⟩ | exact ⟨by assumption, by assumption⟩ | omega)⟩, (by first | assumption | (simp only [h3, r0, r1, r2, r3, s1, f0, f1, f2, e3, e4, e5, e6, z1, y1, u1, u2, u3, u4, u5, pr_i_0, pr_i_1]; first | assumption | decide | exact ⟨by assumption, by assumption⟩ | exact ⟨Or.inl (by assumption), by assumption⟩ | omega) | decide | exact ⟨Or.inl (by assumption), by assumption⟩ | exact ⟨by assumption, by assumption⟩ | omega)⟩, (by first | assumption | (simp only [h3, r0, r1, r2, r3, s1, f0, f1, f2, e3, e4, e5, e6, z1, y1, u1, u2, u3, u4, u5, pr_i_0, pr_i_1]; first | assumption | decide | exact ⟨by assumption, by assumption⟩ | exact ⟨Or.inl (by assumption), by assumption⟩ | omega) | decide | exact ⟨Or.inl (by assumption), by assumption⟩ | exact ⟨by assumption, by assumption⟩ | omega)⟩, trivial⟩, (by first | assumption | (simp only [h3, r0, r1, r2, r3, s1, f0, f1, f2, e3, e4, e5, e6, z1, y1, u1, u2, u3, u4, u5, pr_i_0, pr_i_1]; first | assumption | decide | exact ⟨by assumption, by assumption⟩ | exact ⟨Or.inl (by assumption), by assumption⟩ | omega) | decide | exact ⟨Or.inl (by assumption), by assumption⟩ | exact ⟨by assumption, by assumption⟩ | omega)⟩, trivial⟩, trivial⟩, (by first | assumption | (simp only [h3, r0, r1, r2, r3, s1, f0, f1, f2, e3, e4, e5, e6, z1, y1, u1, u2, u3, u4, u5, pr_i_0, pr_i_1]; first | assumption | decide | exact ⟨by assumption, by assumption⟩ | exact ⟨Or.inl (by assumption), by assumption⟩ | omega) | decide | exact ⟨Or.inl (by assumption), by assumption⟩ | exact ⟨by assumption, by assumption⟩ | omega)⟩, (by first | assumption | (simp only [h3, r0, r1, r2, r3, s1, f0, f1, f2, e3, e4, e5, e6, z1, y1, u1, u2, u3, u4, u5, pr_i_0, pr_i_1]; first | assumption | decide | exact ⟨by assumption, by assumption⟩ | exact ⟨Or.inl (by assumption), by assumption⟩ | omega) | decide | exact ⟨Or.inl (by assumption), by assumption⟩ | exact ⟨by assumption, by assumption⟩ | omega)⟩, trivial⟩, (by first | assumption | (simp only [h3, r0, r1, r2, r3, s1, f0, f1, f2, e3, e4, e5, e6, z1, y1, u1, u2, u3, u4, u5, pr_i_0, pr_i_1]; first | assumption | decide | exact ⟨by assumption, by assumption⟩ | exact ⟨Or.inl (by assumption), by assumption⟩ | omega) | decide | exact ⟨Or.inl (by assumption), by assumption⟩ | exact ⟨by assumption, by assumption⟩ | omega)⟩, (by first | assumption | (simp only [h3, r0, r1, r2, r3, s1, f0, f1, f2, e3, e4, e5, e6, z1, y1, u1, u2, u3, u4, u5, pr_i_0, pr_i_1]; first | assumption | decide | exact ⟨by assumption, by assumption⟩ | exact ⟨Or.inl (by assumption), by assumption⟩ | omega) | decide | exact ⟨Or.inl (by assumption), by assumption⟩ | exact ⟨by assumption, by assumption⟩ | omega)⟩, (by first | assumption | (simp only [h3, r0, r1, r2, r3, s1, f0, f1, f2, e3, e4, e5, e6, z1, y1, u1, u2, u3, u4, u5, pr_i_0, pr_i_1]; first | assumption | decide | exact ⟨by assumption, by assumption⟩ | exact ⟨Or.inl (by assumption), by assumption⟩ | omega) | decide | exact ⟨Or.inl (by assumption), by assumption⟩ | exact ⟨by assumption, by assumption⟩ | omega)⟩, trivial⟩, (by first | assumption | (simp only [h3, r0, r1, r2, r3, s1, f0, f1, f2, e3, e4, e5, e6, z1, y1, u1, u2, u3, u4, u5, pr_i_0, pr_i_1]; first | assumption | decide | exact ⟨by assumption, by assumption⟩ | exact ⟨Or.inl (by assumption), by assumption⟩ | omega) | decide | exact ⟨Or.inl (by assumption), by assumption⟩ | exact ⟨by assumption, by assumption⟩ | omega)⟩, trivial⟩, trivial⟩, trivial⟩, (by first | assumption | (simp only [h3, r0, r1, r2, r3, s1, f0, f1, f2, e3, e4, e5, e6, z1, y1, u1, u2, u3, u4, u5, pr_i_0, pr_i_1]; first | assumption | decide | exact ⟨by assumption, by assumption⟩ | exact ⟨Or.inl (by assumption), by assumption⟩ | omega) | decide | exact ⟨Or.inl (by assumption), by assumption⟩ | exact ⟨by assumption, by assumption⟩ | omega)⟩, (by first | assumption | (simp only [h3, r0, r1, r2, r3, s1, f0, f1, f2, e3, e4, e5, e6, z1, y1, u1, u2, u3, u4, u5, pr_i_0, pr_i_1]; first | assumption | decide | exact ⟨by assumption, by assumption⟩ | exact ⟨Or.inl (by assumption), by assumption⟩ | omega) | decide | exact ⟨Or.inl (by assumption), by assumption⟩ | exact ⟨by assumption, by assumption⟩ | omega)⟩, trivial⟩, (by first | assumption | (simp only [h3, r0, r1, r2, r3, s1, f0, f1, f2, e3, e4, e5, e6, z1, y1, u1, u2, u3, u4, u5, pr_i_0, pr_i_1]; first | assumption | decide | exact ⟨by assumption, by assumption⟩ | exact ⟨Or.inl (by assumption), by assumption⟩ | omega) | decide | exact ⟨Or.inl (by assumption), by assumption⟩ | exact ⟨by assumption, by assumption⟩ | omega)⟩, (by first | assumption | (simp only [h3, r0, r1, r2, r3, s1, f0, f1, f2, e3, e4, e5, e6, z1, y1, u1, u2, u3, u4, u5, pr_i_0, pr_i_1]; first | assumption | decide | exact ⟨by assumption, by assumption⟩ | exact ⟨Or.inl (by assumption), by assumption⟩ | omega) | decide | exact ⟨Or.inl (by assumption), by assumption⟩ | exact ⟨by assumption, by assumption⟩ | omega)⟩, trivial⟩, (by first | assumption | (simp only [h3, r0, r1, r2, r3, s1, f0, f1, f2, e3, e4, e5, e6, z1, y1, u1, u2, u3, u4, u5, pr_i_0, pr_i_1]; first | assumption | decide | exact ⟨by assumption, by assumption⟩ | exact ⟨Or.inl (by assumption), by assumption⟩ | omega) | decide | exact ⟨Or.inl (by assumption), by assumption⟩ | exact ⟨by assumption, by assumption⟩ | omega)⟩, trivial⟩, trivial⟩, (by first | assumption | (simp only [h3, r0, r1, r2, r3, s1, f0, f1, f2, e3, e4, e5, e6, z1, y1, u1, u2, u3, u4, u5, pr_i_0, pr_i_1]; first | assumption | decide | exact ⟨by assumption, by assumption⟩ | exact ⟨Or.inl (by assumption), by assumption⟩ | omega) | decide | exact ⟨Or.inl (by assumption), by assumption⟩ | exact ⟨by assumption, by assumption⟩ | omega)⟩, trivial⟩, trivial⟩ ?_
              try simp only [h3, r0, r1, r2, r3, s1, f0, f1, f2, e3, e4, e5, e6, z1, y1, u1, u2, u3, u4, u5, pr_i_0, pr_i_1]
              exact hh _ _ _
  have h0 := loop X.1.2.2.length 0 (by omega) (ab_u M.1 58 3 (nI X.1.2.2.length)) none none none (fun c hc => ab_u_ne (by omega)) ab_u_at (fun t ht => absurd ht (by omega))
  refine pr_seqT (pc' := 17) 9 rfl ⟨⟨⟨⟨⟨⟨⟨⟨⟨trivial, (by first | assumption | (simp only [r0, v4, pr_i_0, pr_i_1]; first | assumption | decide | exact ⟨by assumption, by assumption⟩ | exact ⟨Or.inl (by assumption), by assumption⟩ | omega) | decide | exact ⟨Or.inl (by assumption), by assumption⟩ | exact ⟨by assumption, by assumption⟩ | omega)⟩, (by first | assumption | (simp only [r0, v4, pr_i_0, pr_i_1]; first | assumption | decide | exact ⟨by assumption, by assumption⟩ | exact ⟨Or.inl (by assumption), by assumption⟩ | omega) | decide | exact ⟨Or.inl (by assumption), by assumption⟩ | exact ⟨by assumption, by assumption⟩ | omega)⟩, (by first | assumption | (simp only [r0, v4, pr_i_0, pr_i_1]; first | assumption | decide | exact ⟨by assumption, by assumption⟩ | exact ⟨Or.inl (by assumption), by assumption⟩ | omega) | decide | exact ⟨Or.inl (by assumption), by assumption⟩ | exact ⟨by assumption, by assumption⟩ | omega)⟩, (by first | assumption | (simp only [r0, v4, pr_i_0, pr_i_1]; first | assumption | decide | exact ⟨by assumption, by assumption⟩ | exact ⟨Or.inl (by assumption), by assumption⟩ | omega) | decide | exact ⟨Or.inl (by assumption), by assumption⟩ | exact ⟨by assumption, by assumption⟩ | omega)⟩, (by first | assumption | (simp only [r0, v4, pr_i_0, pr_i_1]; first | assumption | decide | exact ⟨by assumption, by assumption⟩ | exact ⟨Or.inl (by assumption), by assumption⟩ | omega) | decide | exact ⟨Or.inl (by assumption), by assumption⟩ | exact ⟨by assumption, by assumption⟩ | omega)⟩, (by first | assumption | (simp only [r0, v4, pr_i_0, pr_i_1]; first | assumption | decide | exact ⟨by assumption, by assumption⟩ | exact ⟨Or.inl (by assumption), by assumption⟩ | omega) | decide | exact ⟨Or.inl (by assumption), by assumption⟩ | exact ⟨by assumption, by assumption⟩ | omega)⟩, (by first | assumption | (simp only [r0, v4, pr_i_0, pr_i_1]; first | assumption | decide | exact ⟨by assumption, by assumption⟩ | exact ⟨Or.inl (by assumption), by assumption⟩ | omega) | decide | exact ⟨Or.inl (by assumption), by assumption⟩ | exact ⟨by assumption, by assumption⟩ | omega)⟩, trivial⟩, trivial⟩ ?_
  try simp only [r0, v4, pr_i_0, pr_i_1]
  exact h0
theorem i32_sv {A B x y S sx sxy wa wb ks : Int32} (h1 : sx + A * wa = S + A * x) (h2 : sxy + B * wb = sx + B * y) : A * x + B * y = ks - (S - A * wa - B * wb) ↔ sxy = ks := by
  constructor
  · intro e; grind
  · intro e; grind
theorem sv_fits {X : St} {a b x y : Nat} (hab : a ≠ b) : nb (fun t => decide (¬ pA X a t * nI x + pA X b t * nI y = pR X a b t)) X.1.2.2.length = svF X a b x y := by
  unfold svF
  have : (fun t => decide (¬ pA X a t * nI x + pA X b t * nI y = pR X a b t)) = fun t => !svO X a b x y t := by
    funext t
    unfold svO pR
    have h1 := sum_lin X.1.1.1 X.1.1.2.2.1 0 a x (x_ln X (kn X t).1)
    have h2 := sum_lin (va_up X.1.1.1 a x) X.1.1.2.2.1 0 b y (x_ln X (kn X t).1)
    rw [va_up_n (Ne.symm hab)] at h2
    have h1 := congrArg nI h1
    have h2 := congrArg nI h2
    rw [← nI_add, ← nI_add, ← nI_mul, ← nI_mul] at h1 h2
    have := i32_sv (ks := nI (kn X t).2) h1 h2
    rw [← decide_not]
    exact decide_eq_decide.mpr (not_congr this)
  rw [this]
theorem svc_b (X : St) (a b : Nat) : ∀ k, k ≤ 1681 → (svc X a b k).1 ≤ k ∧ (svc X a b k).2.1 ≤ 40 ∧ (svc X a b k).2.2.1 ≤ 40
  | 0, _ => ⟨Nat.le_refl _, by show 0 ≤ 40; decide, by show 0 ≤ 40; decide⟩
  | k + 1, hk => by
    obtain ⟨h1, h2, h3⟩ := svc_b X a b k (by omega)
    unfold svc
    split
    · unfold svt
      split
      · dsimp only; omega
      · dsimp only; omega
    · omega
theorem pv_congr {I I' : Nat → Nat → Int32} {s : Sv} (h : I' 58 = I 58) (hv : pv_v I s) : pv_v I' s := by
  unfold pv_v
  rw [h]
  exact hv
set_option maxHeartbeats 4000000 in
theorem c_pfind {X : St} {t a b : Nat} (ha : a < 26) (hb : b < 26) (hab : a ≠ b) (h : ab_H) (M : ab_M) (hp : pr_Pa h M.2.2) (ht : pr_Tl h M.2.2 t) (htt : t + 43 ≤ 58 ∨ 61 < t) (hT : tl_v M.1 t X.1) : pr_X pX4_find [.ref 58, .ref t, .int (nI a), .int (nI b)] h M (fun r M' => r = none ∧ M'.2 = M.2 ∧ pv_v M'.1 (svc X a b 1681) ∧ ∀ c, (c < 58 ∨ 61 < c) → M'.1 c = M.1 c) := by
  have k58 := hp.1
  have t0 := ht.1
  have n58 : (58 : Nat) ≠ 0 := by decide
  have v5 := hT.2.2.2.2.1
  have out : ∀ dp x, x + dp = 41 → ∀ (I : Nat → Nat → Int32) (o5 : Option Value), (∀ c, (c < 58 ∨ 61 < c) → I c = M.1 c) → I 58 3 = nI X.1.2.2.length → pa_v I X.1.2.2.length (pA X a) (pA X b) (pR X a b) → pv_v I (svc X a b (41 * x)) → pr_T pX4_find 25 [some (.ref 58), some (.ref t), some (.int (nI a)), some (.int (nI b)), some (.int (nI x)), o5] [] h (I, M.2.1, M.2.2) (fun r M' => r = none ∧ M'.2 = M.2 ∧ pv_v M'.1 (svc X a b 1681) ∧ ∀ c, (c < 58 ∨ 61 < c) → M'.1 c = M.1 c) := by
    intro dp
    induction dp with
    | zero =>
      intro x hx I o5 hf h3 hpa hpv
      obtain rfl : x = 41 := by omega
      have e1 : (40 : Int32) < nI 41 := by decide
      refine pr_seqT (pc' := 29) 2 rfl ⟨⟨trivial, trivial⟩, trivial⟩ ?_
      refine pr_icT rfl (fun h29 => ?_) (fun h29 => ?_)
      · simp only [ab_cmp, pr_8_40, pr_i_0, pr_i_1] at h29
        first
        | contradiction
        | exact absurd trivial h29
        | exact absurd h29 (by decide)
        | exact absurd (Classical.not_not.mp h29) (by decide)
        | skip
          exact pr_vrT rfl rfl (by exact ⟨rfl, rfl, hpv, hf⟩)
      · simp only [ab_cmp, pr_8_40, pr_i_0, pr_i_1] at h29
        first
        | contradiction
        | exact absurd trivial h29
        | exact absurd h29 (by decide)
        | exact absurd (Classical.not_not.mp h29) (by decide)
        | skip
          fail
    | succ dp iho =>
      intro x hx I o5 hf h3 hpa hpv
      have e1 : ¬ (40 : Int32) < nI x := fun q => by
        have := (nI_ltI (a := 40) (b := x) (by omega) (by omega)).mp q
        omega
      have inn : ∀ dq y, y + dq = 41 → ∀ (I : Nat → Nat → Int32), (∀ c, (c < 58 ∨ 61 < c) → I c = M.1 c) → I 58 3 = nI X.1.2.2.length → pa_v I X.1.2.2.length (pA X a) (pA X b) (pR X a b) → pv_v I (svc X a b (41 * x + y)) → pr_T pX4_find 35 [some (.ref 58), some (.ref t), some (.int (nI a)), some (.int (nI b)), some (.int (nI x)), some (.int (nI y))] [] h (I, M.2.1, M.2.2) (fun r M' => r = none ∧ M'.2 = M.2 ∧ pv_v M'.1 (svc X a b 1681) ∧ ∀ c, (c < 58 ∨ 61 < c) → M'.1 c = M.1 c) := by
        intro dq
        induction dq with
        | zero =>
          intro y hy I hf h3 hpa hpv
          obtain rfl : y = 41 := by omega
          have e2 : (40 : Int32) < nI 41 := by decide
          have hh := iho (x + 1) (by omega) I (some (.int (nI 41))) hf h3 hpa (by rw [show 41 * (x + 1) = 41 * x + 41 by omega]; exact hpv)
          rw [← nI_1] at hh
          refine pr_seqT (pc' := 39) 2 rfl ⟨⟨trivial, trivial⟩, trivial⟩ ?_
          refine pr_icT rfl (fun h39 => ?_) (fun h39 => ?_)
          · simp only [ab_cmp, pr_8_40, pr_i_0, pr_i_1] at h39
            first
            | contradiction
            | exact absurd trivial h39
            | exact absurd h39 (by decide)
            | exact absurd (Classical.not_not.mp h39) (by decide)
            | skip
              refine pr_seqT (pc' := 25) 2 rfl ⟨⟨trivial, trivial⟩, trivial⟩ ?_
              exact hh
          · simp only [ab_cmp, pr_8_40, pr_i_0, pr_i_1] at h39
            first
            | contradiction
            | exact absurd trivial h39
            | exact absurd h39 (by decide)
            | exact absurd (Classical.not_not.mp h39) (by decide)
            | skip
              fail
        | succ dq ihi =>
          intro y hy I hf h3 hpa hpv
          have e2 : ¬ (40 : Int32) < nI y := fun q => by
            have := (nI_ltI (a := 40) (b := y) (by omega) (by omega)).mp q
            omega
          have hfi := c_fits (nI x) (nI y) h (I, M.2.1, M.2.2) hp h3 v5 hpa
          rw [sv_fits hab] at hfi
          have e8 : (41 * x + y) / 41 = x ∧ (41 * x + y) % 41 = y := by omega
          have em : svc X a b (41 * x + (y + 1)) = if svF X a b x y then svt (svc X a b (41 * x + y)) x y else svc X a b (41 * x + y) := by
            rw [show 41 * x + (y + 1) = 41 * x + y + 1 by omega, svc, e8.1, e8.2]
          have hh := ihi (y + 1) (by omega)
          rw [← nI_1, em] at hh
          cases hz : svF X a b x y with
          | true =>
            rw [hz] at hfi hh
            have bnd := svc_b X a b (41 * x + y) (by omega)
            have htk := c_ptake (s := svc X a b (41 * x + y)) (x := x) (y := y) (by omega) (by omega) ⟨by omega, bnd.2.1, bnd.2.2⟩ h (I, M.2.1, M.2.2) hp hpv
            refine pr_seqT (pc' := 39) 2 rfl ⟨⟨trivial, trivial⟩, trivial⟩ ?_
            refine pr_icT rfl (fun h39 => ?_) (fun h39 => ?_)
            · simp only [ab_cmp, pr_8_40, pr_i_0, pr_i_1] at h39
              first
              | contradiction
              | exact absurd trivial h39
              | exact absurd h39 (by decide)
              | exact absurd (Classical.not_not.mp h39) (by decide)
              | skip
                fail
            · simp only [ab_cmp, pr_8_40, pr_i_0, pr_i_1] at h39
              first
              | contradiction
              | exact absurd trivial h39
              | exact absurd h39 (by decide)
              | exact absurd (Classical.not_not.mp h39) (by decide)
              | skip
                refine pr_seqT (pc' := 47) 3 rfl ⟨⟨⟨trivial, (by first | assumption | decide | exact ⟨Or.inl (by assumption), by assumption⟩ | exact ⟨by assumption, by assumption⟩ | omega)⟩, trivial⟩, trivial⟩ ?_
                refine pr_cvT [_, _] rfl rfl rfl rfl rfl (Nat.le_of_ble_eq_true rfl) (by first | assumption | decide | exact ⟨Or.inl (by assumption), by assumption⟩ | exact ⟨by assumption, by assumption⟩ | omega) (Nat.le_of_ble_eq_true rfl) (hfi) ?_
                refine pr_ifT rfl (fun h50 => ?_) (fun h50 => ?_)
                · simp only [ab_cmp, pr_8_40, pr_i_0, pr_i_1] at h50
                  first
                  | contradiction
                  | exact absurd trivial h50
                  | exact absurd h50 (by decide)
                  | exact absurd (Classical.not_not.mp h50) (by decide)
                  | skip
                    refine pr_seqT (pc' := 35) 2 rfl ⟨⟨trivial, trivial⟩, trivial⟩ ?_
                    exact hh I1 (fun c hc => by rw [z5 c (by omega)]; exact hf c hc) (by rw [z4]; exact h3) (fun t ht => by rw [z5 59 (by decide), z5 60 (by decide), z5 61 (by decide)]; exact hpa t ht) z3
                · simp only [ab_cmp, pr_8_40, pr_i_0, pr_i_1] at h50
                  first
                  | contradiction
                  | exact absurd trivial h50
                  | exact absurd h50 (by decide)
                  | exact absurd (Classical.not_not.mp h50) (by decide)
                  | skip
                    refine pr_seqT (pc' := 58) 3 rfl ⟨⟨⟨trivial, (by first | assumption | decide | exact ⟨Or.inl (by assumption), by assumption⟩ | exact ⟨by assumption, by assumption⟩ | omega)⟩, trivial⟩, trivial⟩ ?_
                    refine pr_cvX [_, _] rfl rfl rfl rfl rfl (Nat.le_of_ble_eq_true rfl) (by first | assumption | decide | exact ⟨Or.inl (by assumption), by assumption⟩ | exact ⟨by assumption, by assumption⟩ | omega) (Nat.le_of_ble_eq_true rfl) (htk) (fun v58 M58 q58 => ?_)
                    obtain ⟨rfl, z2, z3, z4, z5⟩ := q58
                    obtain ⟨I1, Z1⟩ := M58
                    dsimp only at z2 z3 z4 z5
                    subst z2
                    refine pr_seqT (pc' := 35) 2 rfl ⟨⟨trivial, trivial⟩, trivial⟩ ?_
                    exact hh I1 (fun c hc => by rw [z5 c (by omega)]; exact hf c hc) (by rw [z4]; exact h3) (fun t ht => by rw [z5 59 (by decide), z5 60 (by decide), z5 61 (by decide)]; exact hpa t ht) z3
          | false =>
            rw [hz] at hfi hh
            refine pr_seqT (pc' := 39) 2 rfl ⟨⟨trivial, trivial⟩, trivial⟩ ?_
            refine pr_icT rfl (fun h39 => ?_) (fun h39 => ?_)
            · simp only [ab_cmp, pr_8_40, pr_i_0, pr_i_1] at h39
              first
              | contradiction
              | exact absurd trivial h39
              | exact absurd h39 (by decide)
              | exact absurd (Classical.not_not.mp h39) (by decide)
              | skip
                fail
            · simp only [ab_cmp, pr_8_40, pr_i_0, pr_i_1] at h39
              first
              | contradiction
              | exact absurd trivial h39
              | exact absurd h39 (by decide)
              | exact absurd (Classical.not_not.mp h39) (by decide)
              | skip
                refine pr_seqT (pc' := 47) 3 rfl ⟨⟨⟨trivial, (by first | assumption | decide | exact ⟨Or.inl (by assumption), by assumption⟩ | exact ⟨by assumption, by assumption⟩ | omega)⟩, trivial⟩, trivial⟩ ?_
                refine pr_cvT [_, _] rfl rfl rfl rfl rfl (Nat.le_of_ble_eq_true rfl) (by first | assumption | decide | exact ⟨Or.inl (by assumption), by assumption⟩ | exact ⟨by assumption, by assumption⟩ | omega) (Nat.le_of_ble_eq_true rfl) (hfi) ?_
                refine pr_ifT rfl (fun h50 => ?_) (fun h50 => ?_)
                · simp only [ab_cmp, pr_8_40, pr_i_0, pr_i_1] at h50
                  first
                  | contradiction
                  | exact absurd trivial h50
                  | exact absurd h50 (by decide)
                  | exact absurd (Classical.not_not.mp h50) (by decide)
                  | skip
                    refine pr_seqT (pc' := 35) 2 rfl ⟨⟨trivial, trivial⟩, trivial⟩ ?_
                    exact hh I hf h3 hpa hpv
                · simp only [ab_cmp, pr_8_40, pr_i_0, pr_i_1] at h50
                  first
                  | contradiction
                  | exact absurd trivial h50
                  | exact absurd h50 (by decide)
                  | exact absurd (Classical.not_not.mp h50) (by decide)
                  | skip
                    fail
      have h0 := inn 41 0 (by omega) I hf h3 hpa hpv
      refine pr_seqT (pc' := 29) 2 rfl ⟨⟨trivial, trivial⟩, trivial⟩ ?_
      refine pr_icT rfl (fun h29 => ?_) (fun h29 => ?_)
      · simp only [ab_cmp, pr_8_40, pr_i_0, pr_i_1] at h29
        first
        | contradiction
        | exact absurd trivial h29
        | exact absurd h29 (by decide)
        | exact absurd (Classical.not_not.mp h29) (by decide)
        | skip
          fail
      · simp only [ab_cmp, pr_8_40, pr_i_0, pr_i_1] at h29
        first
        | contradiction
        | exact absurd trivial h29
        | exact absurd h29 (by decide)
        | exact absurd (Classical.not_not.mp h29) (by decide)
        | skip
          refine pr_seqT (pc' := 35) 2 rfl ⟨⟨trivial, trivial⟩, trivial⟩ ?_
          exact h0
  refine pr_seqT (pc' := 4) 4 rfl ⟨⟨⟨⟨trivial, (by first | assumption | decide | exact ⟨Or.inl (by assumption), by assumption⟩ | exact ⟨by assumption, by assumption⟩ | omega)⟩, (by first | assumption | decide | exact ⟨Or.inl (by assumption), by assumption⟩ | exact ⟨by assumption, by assumption⟩ | omega)⟩, trivial⟩, trivial⟩ ?_
  refine pr_cvX [_, _, _] rfl rfl rfl rfl rfl (Nat.le_of_ble_eq_true rfl) (by first | assumption | decide | exact ⟨Or.inl (by assumption), by assumption⟩ | exact ⟨by assumption, by assumption⟩ | omega) (Nat.le_of_ble_eq_true rfl) (c_pweigh ha hb h M hp ht htt hT) (fun v4 M4 q4 => ?_)
  obtain ⟨rfl, z2, z3, z4, z5⟩ := q4
  obtain ⟨I1, Z1⟩ := M4
  dsimp only at z2 z3 z4 z5
  subst z2
  refine pr_seqT (pc' := 25) 11 rfl ⟨⟨⟨⟨⟨⟨⟨⟨⟨⟨⟨trivial, (by first | assumption | decide | exact ⟨Or.inl (by assumption), by assumption⟩ | exact ⟨by assumption, by assumption⟩ | omega)⟩, trivial⟩, (by first | assumption | decide | exact ⟨Or.inl (by assumption), by assumption⟩ | exact ⟨by assumption, by assumption⟩ | omega)⟩, (by first | assumption | decide | exact ⟨Or.inl (by assumption), by assumption⟩ | exact ⟨by assumption, by assumption⟩ | omega)⟩, trivial⟩, (by exact ⟨k58, Or.inr rfl⟩)⟩, (by first | assumption | decide | exact ⟨Or.inl (by assumption), by assumption⟩ | exact ⟨by assumption, by assumption⟩ | omega)⟩, trivial⟩, (by exact ⟨k58, Or.inr rfl⟩)⟩, trivial⟩, trivial⟩ ?_
  refine out 41 0 (by omega) _ none (fun c hc => ?_) ?_ (fun t ht => ?_) ⟨?_, fun q => absurd rfl q, ?_, ?_⟩
  · show ab_u (ab_u (ab_u I1 58 4 0) 58 7 1) 58 8 1 c = M.1 c; rw [ab_u_ne (by omega), ab_u_ne (by omega), ab_u_ne (by omega)]; exact z5 c hc
  · show ab_u (ab_u (ab_u I1 58 4 0) 58 7 1) 58 8 1 58 3 = _; rw [ab_u_j (by decide), ab_u_j (by decide), ab_u_j (by decide)]; exact z3
  · show ab_u (ab_u (ab_u I1 58 4 0) 58 7 1) 58 8 1 59 t = _ ∧ ab_u (ab_u (ab_u I1 58 4 0) 58 7 1) 58 8 1 60 t = _ ∧ ab_u (ab_u (ab_u I1 58 4 0) 58 7 1) 58 8 1 61 t = _; rw [ab_u_ne (by decide), ab_u_ne (by decide), ab_u_ne (by decide), ab_u_ne (by decide), ab_u_ne (by decide), ab_u_ne (by decide), ab_u_ne (by decide), ab_u_ne (by decide), ab_u_ne (by decide)]; exact z4 t ht
  · show ab_u (ab_u (ab_u I1 58 4 0) 58 7 1) 58 8 1 58 4 = 0; rw [ab_u_j (by decide), ab_u_j (by decide), ab_u_at]
  · show ab_u (ab_u (ab_u I1 58 4 0) 58 7 1) 58 8 1 58 7 = 1; rw [ab_u_j (by decide), ab_u_at]
  · show ab_u (ab_u (ab_u I1 58 4 0) 58 7 1) 58 8 1 58 8 = 1; rw [ab_u_at]
set_option maxHeartbeats 4000000 in
theorem p_solve {b : Bool} {X : St} (x y w : Int32) (h : ab_H) (M : ab_M) (hl : Lay h M.2.2 b) (hv : cl_v M.1 b X) : pr_X pX10_solve [.ref 1, .int x, .int y, .int w] h M (cp h M (f_solve X x y w, X)) := by
  obtain ⟨k1, q0, q1, rc, q3, q4, q5, q6, q7, q8, r9⟩ := id hl.1
  have ht := ly_told hl
  obtain ⟨t0, t1, r0, r1, r2, r3, hg, ⟨ka, kb⟩, ⟨kc, kd⟩, ⟨ke, kf⟩, hnm⟩ := id ht
  obtain ⟨g0, g1, s1, s2, m1, m2, ⟨m3, m4⟩, hon⟩ := id hg
  obtain ⟨hT, hIm, hSh, hTp, hFa, hTo⟩ := id hv
  obtain ⟨hd, v2, v3, v4, v5, v6, v7⟩ := id hT
  obtain ⟨d1, d2, d3, d4, d5, d6, d7, d8⟩ := id hd
  have b0 := tB_ne b
  have hc := hl.2.2.2.2.2.1
  have hb : 49 + 5 < tB b + 1 ∨ tB b + 1 + 27 ≤ 49 := by cases b <;> decide
  have hb2 : 63 < tB b ∧ tB b + 43 ≤ 110 ∨ 5 < tB b ∧ tB b + 43 ≤ 49 := by cases b <;> decide
  have c1 := hc.2.1
  unfold f_solve
  have hpa : pr_Pa h M.2.2 := hl.2.2.2.2.2.2.2.1
  have k58 := hpa.1
  have n58 : (58 : Nat) ≠ 0 := by decide
  have hx := c_isLetter x h M
  have hy := c_isLetter y h M
  have hw := c_within w 0 3 h M
  rcases pr_rg x 25 25 rfl (by decide) with qx | ⟨i, hi, rfl, qx⟩
  · rw [qx] at hx ⊢
    refine pr_seqT (pc' := 1) 1 rfl ⟨trivial, trivial⟩ ?_
    try simp only [r9, r0, r1, r2, r3, s1, s2, q0, q1, rc, q3, q4, q5, q6, q7, q8, pr_8_100, pr_8_m4, pr_i_0, pr_i_1, pr_i_2, pr_i_3, pr_i_m1]
    refine pr_csT [_] rfl rfl rfl rfl rfl (Nat.le_of_ble_eq_true rfl) (Nat.le_of_ble_eq_true rfl) (hx) ?_
    refine pr_ifT rfl (fun h4 => ?_) (fun h4 => ?_)
    · simp only [ab_cmp, pr_8_100, pr_8_m4, pr_i_0, pr_i_1, pr_i_2, pr_i_3, pr_i_m1] at h4
      first
      | contradiction
      | exact absurd trivial h4
      | exact absurd h4 (by decide)
      | exact absurd (Classical.not_not.mp h4) (by decide)
      | skip
        refine pr_seqT (pc' := 29) 1 rfl ⟨trivial, trivial⟩ ?_
        try simp only [r9, r0, r1, r2, r3, s1, s2, q0, q1, rc, q3, q4, q5, q6, q7, q8, pr_8_100, pr_8_m4, pr_i_0, pr_i_1, pr_i_2, pr_i_3, pr_i_m1]
        exact pr_irT rfl trivial (by exact cp_s hl hv)
    · simp only [ab_cmp, pr_8_100, pr_8_m4, pr_i_0, pr_i_1, pr_i_2, pr_i_3, pr_i_m1] at h4
      first
      | contradiction
      | exact absurd trivial h4
      | exact absurd h4 (by decide)
      | exact absurd (Classical.not_not.mp h4) (by decide)
      | skip
        refine pr_seqT (pc' := 8) 1 rfl ⟨trivial, trivial⟩ ?_
        try simp only [r9, r0, r1, r2, r3, s1, s2, q0, q1, rc, q3, q4, q5, q6, q7, q8, pr_8_100, pr_8_m4, pr_i_0, pr_i_1, pr_i_2, pr_i_3, pr_i_m1]
        fail "no call@8 yX10_isLetter"
  · rcases pr_rg y 25 25 rfl (by decide) with qy | ⟨j, hj, rfl, qy⟩
    · rw [qx] at hx
      rw [qy] at hy
      rw [qx, qy]
      refine pr_seqT (pc' := 1) 1 rfl ⟨trivial, trivial⟩ ?_
      try simp only [r9, r0, r1, r2, r3, s1, s2, q0, q1, rc, q3, q4, q5, q6, q7, q8, pr_8_100, pr_8_m4, pr_i_0, pr_i_1, pr_i_2, pr_i_3, pr_i_m1]
      refine pr_csT [_] rfl rfl rfl rfl rfl (Nat.le_of_ble_eq_true rfl) (Nat.le_of_ble_eq_true rfl) (hx) ?_
      refine pr_ifT rfl (fun h4 => ?_) (fun h4 => ?_)
      · simp only [ab_cmp, pr_8_100, pr_8_m4, pr_i_0, pr_i_1, pr_i_2, pr_i_3, pr_i_m1] at h4
        first
        | contradiction
        | exact absurd trivial h4
        | exact absurd h4 (by decide)
        | exact absurd (Classical.not_not.mp h4) (by decide)
        | skip
          refine pr_seqT (pc' := 29) 1 rfl ⟨trivial, trivial⟩ ?_
          try simp only [r9, r0, r1, r2, r3, s1, s2, q0, q1, rc, q3, q4, q5, q6, q7, q8, pr_8_100, pr_8_m4, pr_i_0, pr_i_1, pr_i_2, pr_i_3, pr_i_m1]
          exact pr_irT rfl trivial (by exact cp_s hl hv)
      · simp only [ab_cmp, pr_8_100, pr_8_m4, pr_i_0, pr_i_1, pr_i_2, pr_i_3, pr_i_m1] at h4
        first
        | contradiction
        | exact absurd trivial h4
        | exact absurd h4 (by decide)
        | exact absurd (Classical.not_not.mp h4) (by decide)
        | skip
          refine pr_seqT (pc' := 8) 1 rfl ⟨trivial, trivial⟩ ?_
          try simp only [r9, r0, r1, r2, r3, s1, s2, q0, q1, rc, q3, q4, q5, q6, q7, q8, pr_8_100, pr_8_m4, pr_i_0, pr_i_1, pr_i_2, pr_i_3, pr_i_m1]
          refine pr_csT [_] rfl rfl rfl rfl rfl (Nat.le_of_ble_eq_true rfl) (Nat.le_of_ble_eq_true rfl) (hy) ?_
          refine pr_ifT rfl (fun h11 => ?_) (fun h11 => ?_)
          · simp only [ab_cmp, pr_8_100, pr_8_m4, pr_i_0, pr_i_1, pr_i_2, pr_i_3, pr_i_m1] at h11
            first
            | contradiction
            | exact absurd trivial h11
            | exact absurd h11 (by decide)
            | exact absurd (Classical.not_not.mp h11) (by decide)
            | skip
              refine pr_seqT (pc' := 29) 1 rfl ⟨trivial, trivial⟩ ?_
              try simp only [r9, r0, r1, r2, r3, s1, s2, q0, q1, rc, q3, q4, q5, q6, q7, q8, pr_8_100, pr_8_m4, pr_i_0, pr_i_1, pr_i_2, pr_i_3, pr_i_m1]
              exact pr_irT rfl trivial (by exact cp_s hl hv)
          · simp only [ab_cmp, pr_8_100, pr_8_m4, pr_i_0, pr_i_1, pr_i_2, pr_i_3, pr_i_m1] at h11
            first
            | contradiction
            | exact absurd trivial h11
            | exact absurd h11 (by decide)
            | exact absurd (Classical.not_not.mp h11) (by decide)
            | skip
              refine pr_seqT (pc' := 16) 2 rfl ⟨⟨trivial, trivial⟩, trivial⟩ ?_
              try simp only [r9, r0, r1, r2, r3, s1, s2, q0, q1, rc, q3, q4, q5, q6, q7, q8, pr_8_100, pr_8_m4, pr_i_0, pr_i_1, pr_i_2, pr_i_3, pr_i_m1]
              refine pr_icT rfl (fun h16 => ?_) (fun h16 => ?_)
              · simp only [ab_cmp, pr_8_100, pr_8_m4, pr_i_0, pr_i_1, pr_i_2, pr_i_3, pr_i_m1] at h16
                first
                | contradiction
                | exact absurd trivial h16
                | exact absurd h16 (by decide)
                | exact absurd (Classical.not_not.mp h16) (by decide)
                | skip
                  refine pr_seqT (pc' := 29) 1 rfl ⟨trivial, trivial⟩ ?_
                  try simp only [r9, r0, r1, r2, r3, s1, s2, q0, q1, rc, q3, q4, q5, q6, q7, q8, pr_8_100, pr_8_m4, pr_i_0, pr_i_1, pr_i_2, pr_i_3, pr_i_m1]
                  exact pr_irT rfl trivial (by exact cp_s hl hv)
              · simp only [ab_cmp, pr_8_100, pr_8_m4, pr_i_0, pr_i_1, pr_i_2, pr_i_3, pr_i_m1] at h16
                first
                | contradiction
                | exact absurd trivial h16
                | exact absurd h16 (by decide)
                | exact absurd (Classical.not_not.mp h16) (by decide)
                | skip
                  refine pr_seqT (pc' := 22) 3 rfl ⟨⟨⟨trivial, trivial⟩, trivial⟩, trivial⟩ ?_
                  try simp only [r9, r0, r1, r2, r3, s1, s2, q0, q1, rc, q3, q4, q5, q6, q7, q8, pr_8_100, pr_8_m4, pr_i_0, pr_i_1, pr_i_2, pr_i_3, pr_i_m1]
                  fail "no call@22 yX10_within"
    · rw [qx] at hx
      rw [qy] at hy
      rw [qx, qy]
      by_cases eij : i = j
      · subst eij
        rw [decide_eq_false (by simp)]
        refine pr_seqT (pc' := 1) 1 rfl ⟨trivial, trivial⟩ ?_
        try simp only [r9, r0, r1, r2, r3, s1, s2, q0, q1, rc, q3, q4, q5, q6, q7, q8, pr_8_100, pr_8_m4, pr_i_0, pr_i_1, pr_i_2, pr_i_3, pr_i_m1]
        refine pr_csT [_] rfl rfl rfl rfl rfl (Nat.le_of_ble_eq_true rfl) (Nat.le_of_ble_eq_true rfl) (hx) ?_
        refine pr_ifT rfl (fun h4 => ?_) (fun h4 => ?_)
        · simp only [ab_cmp, pr_8_100, pr_8_m4, pr_i_0, pr_i_1, pr_i_2, pr_i_3, pr_i_m1] at h4
          first
          | contradiction
          | exact absurd trivial h4
          | exact absurd h4 (by decide)
          | exact absurd (Classical.not_not.mp h4) (by decide)
          | exact absurd rfl h4
          | skip
            refine pr_seqT (pc' := 29) 1 rfl ⟨trivial, trivial⟩ ?_
            try simp only [r9, r0, r1, r2, r3, s1, s2, q0, q1, rc, q3, q4, q5, q6, q7, q8, pr_8_100, pr_8_m4, pr_i_0, pr_i_1, pr_i_2, pr_i_3, pr_i_m1]
            exact pr_irT rfl trivial (by exact cp_s hl hv)
        · simp only [ab_cmp, pr_8_100, pr_8_m4, pr_i_0, pr_i_1, pr_i_2, pr_i_3, pr_i_m1] at h4
          first
          | contradiction
          | exact absurd trivial h4
          | exact absurd h4 (by decide)
          | exact absurd (Classical.not_not.mp h4) (by decide)
          | exact absurd rfl h4
          | skip
            refine pr_seqT (pc' := 8) 1 rfl ⟨trivial, trivial⟩ ?_
            try simp only [r9, r0, r1, r2, r3, s1, s2, q0, q1, rc, q3, q4, q5, q6, q7, q8, pr_8_100, pr_8_m4, pr_i_0, pr_i_1, pr_i_2, pr_i_3, pr_i_m1]
            refine pr_csT [_] rfl rfl rfl rfl rfl (Nat.le_of_ble_eq_true rfl) (Nat.le_of_ble_eq_true rfl) (hy) ?_
            refine pr_ifT rfl (fun h11 => ?_) (fun h11 => ?_)
            · simp only [ab_cmp, pr_8_100, pr_8_m4, pr_i_0, pr_i_1, pr_i_2, pr_i_3, pr_i_m1] at h11
              first
              | contradiction
              | exact absurd trivial h11
              | exact absurd h11 (by decide)
              | exact absurd (Classical.not_not.mp h11) (by decide)
              | exact absurd rfl h11
              | skip
                refine pr_seqT (pc' := 29) 1 rfl ⟨trivial, trivial⟩ ?_
                try simp only [r9, r0, r1, r2, r3, s1, s2, q0, q1, rc, q3, q4, q5, q6, q7, q8, pr_8_100, pr_8_m4, pr_i_0, pr_i_1, pr_i_2, pr_i_3, pr_i_m1]
                exact pr_irT rfl trivial (by exact cp_s hl hv)
            · simp only [ab_cmp, pr_8_100, pr_8_m4, pr_i_0, pr_i_1, pr_i_2, pr_i_3, pr_i_m1] at h11
              first
              | contradiction
              | exact absurd trivial h11
              | exact absurd h11 (by decide)
              | exact absurd (Classical.not_not.mp h11) (by decide)
              | exact absurd rfl h11
              | skip
                refine pr_seqT (pc' := 16) 2 rfl ⟨⟨trivial, trivial⟩, trivial⟩ ?_
                try simp only [r9, r0, r1, r2, r3, s1, s2, q0, q1, rc, q3, q4, q5, q6, q7, q8, pr_8_100, pr_8_m4, pr_i_0, pr_i_1, pr_i_2, pr_i_3, pr_i_m1]
                refine pr_icT rfl (fun h16 => ?_) (fun h16 => ?_)
                · simp only [ab_cmp, pr_8_100, pr_8_m4, pr_i_0, pr_i_1, pr_i_2, pr_i_3, pr_i_m1] at h16
                  first
                  | contradiction
                  | exact absurd trivial h16
                  | exact absurd h16 (by decide)
                  | exact absurd (Classical.not_not.mp h16) (by decide)
                  | exact absurd rfl h16
                  | skip
                    refine pr_seqT (pc' := 29) 1 rfl ⟨trivial, trivial⟩ ?_
                    try simp only [r9, r0, r1, r2, r3, s1, s2, q0, q1, rc, q3, q4, q5, q6, q7, q8, pr_8_100, pr_8_m4, pr_i_0, pr_i_1, pr_i_2, pr_i_3, pr_i_m1]
                    exact pr_irT rfl trivial (by exact cp_s hl hv)
                · simp only [ab_cmp, pr_8_100, pr_8_m4, pr_i_0, pr_i_1, pr_i_2, pr_i_3, pr_i_m1] at h16
                  first
                  | contradiction
                  | exact absurd trivial h16
                  | exact absurd h16 (by decide)
                  | exact absurd (Classical.not_not.mp h16) (by decide)
                  | exact absurd rfl h16
                  | skip
                    fail
      · have nij : ¬ nI i = nI j := nI_ne eij (by omega) (by omega)
        rw [decide_eq_true nij]
        rcases pr_rg w 3 3 rfl (by decide) with qw | ⟨k, hk, rfl, qw⟩
        · rw [qw] at hw ⊢
          refine pr_seqT (pc' := 1) 1 rfl ⟨trivial, trivial⟩ ?_
          try simp only [r9, r0, r1, r2, r3, s1, s2, q0, q1, rc, q3, q4, q5, q6, q7, q8, pr_8_100, pr_8_m4, pr_i_0, pr_i_1, pr_i_2, pr_i_3, pr_i_m1]
          refine pr_csT [_] rfl rfl rfl rfl rfl (Nat.le_of_ble_eq_true rfl) (Nat.le_of_ble_eq_true rfl) (hx) ?_
          refine pr_ifT rfl (fun h4 => ?_) (fun h4 => ?_)
          · simp only [ab_cmp, pr_8_100, pr_8_m4, pr_i_0, pr_i_1, pr_i_2, pr_i_3, pr_i_m1] at h4
            first
            | contradiction
            | exact absurd trivial h4
            | exact absurd h4 (by decide)
            | exact absurd (Classical.not_not.mp h4) (by decide)
            | skip
              refine pr_seqT (pc' := 29) 1 rfl ⟨trivial, trivial⟩ ?_
              try simp only [r9, r0, r1, r2, r3, s1, s2, q0, q1, rc, q3, q4, q5, q6, q7, q8, pr_8_100, pr_8_m4, pr_i_0, pr_i_1, pr_i_2, pr_i_3, pr_i_m1]
              exact pr_irT rfl trivial (by exact cp_s hl hv)
          · simp only [ab_cmp, pr_8_100, pr_8_m4, pr_i_0, pr_i_1, pr_i_2, pr_i_3, pr_i_m1] at h4
            first
            | contradiction
            | exact absurd trivial h4
            | exact absurd h4 (by decide)
            | exact absurd (Classical.not_not.mp h4) (by decide)
            | skip
              refine pr_seqT (pc' := 8) 1 rfl ⟨trivial, trivial⟩ ?_
              try simp only [r9, r0, r1, r2, r3, s1, s2, q0, q1, rc, q3, q4, q5, q6, q7, q8, pr_8_100, pr_8_m4, pr_i_0, pr_i_1, pr_i_2, pr_i_3, pr_i_m1]
              refine pr_csT [_] rfl rfl rfl rfl rfl (Nat.le_of_ble_eq_true rfl) (Nat.le_of_ble_eq_true rfl) (hy) ?_
              refine pr_ifT rfl (fun h11 => ?_) (fun h11 => ?_)
              · simp only [ab_cmp, pr_8_100, pr_8_m4, pr_i_0, pr_i_1, pr_i_2, pr_i_3, pr_i_m1] at h11
                first
                | contradiction
                | exact absurd trivial h11
                | exact absurd h11 (by decide)
                | exact absurd (Classical.not_not.mp h11) (by decide)
                | skip
                  refine pr_seqT (pc' := 29) 1 rfl ⟨trivial, trivial⟩ ?_
                  try simp only [r9, r0, r1, r2, r3, s1, s2, q0, q1, rc, q3, q4, q5, q6, q7, q8, pr_8_100, pr_8_m4, pr_i_0, pr_i_1, pr_i_2, pr_i_3, pr_i_m1]
                  exact pr_irT rfl trivial (by exact cp_s hl hv)
              · simp only [ab_cmp, pr_8_100, pr_8_m4, pr_i_0, pr_i_1, pr_i_2, pr_i_3, pr_i_m1] at h11
                first
                | contradiction
                | exact absurd trivial h11
                | exact absurd h11 (by decide)
                | exact absurd (Classical.not_not.mp h11) (by decide)
                | skip
                  refine pr_seqT (pc' := 16) 2 rfl ⟨⟨trivial, trivial⟩, trivial⟩ ?_
                  try simp only [r9, r0, r1, r2, r3, s1, s2, q0, q1, rc, q3, q4, q5, q6, q7, q8, pr_8_100, pr_8_m4, pr_i_0, pr_i_1, pr_i_2, pr_i_3, pr_i_m1]
                  refine pr_icT rfl (fun h16 => ?_) (fun h16 => ?_)
                  · simp only [ab_cmp, pr_8_100, pr_8_m4, pr_i_0, pr_i_1, pr_i_2, pr_i_3, pr_i_m1] at h16
                    first
                    | contradiction
                    | exact absurd trivial h16
                    | exact absurd h16 (by decide)
                    | exact absurd (Classical.not_not.mp h16) (by decide)
                    | skip
                      refine pr_seqT (pc' := 29) 1 rfl ⟨trivial, trivial⟩ ?_
                      try simp only [r9, r0, r1, r2, r3, s1, s2, q0, q1, rc, q3, q4, q5, q6, q7, q8, pr_8_100, pr_8_m4, pr_i_0, pr_i_1, pr_i_2, pr_i_3, pr_i_m1]
                      exact pr_irT rfl trivial (by exact cp_s hl hv)
                  · simp only [ab_cmp, pr_8_100, pr_8_m4, pr_i_0, pr_i_1, pr_i_2, pr_i_3, pr_i_m1] at h16
                    first
                    | contradiction
                    | exact absurd trivial h16
                    | exact absurd h16 (by decide)
                    | exact absurd (Classical.not_not.mp h16) (by decide)
                    | skip
                      refine pr_seqT (pc' := 22) 3 rfl ⟨⟨⟨trivial, trivial⟩, trivial⟩, trivial⟩ ?_
                      try simp only [r9, r0, r1, r2, r3, s1, s2, q0, q1, rc, q3, q4, q5, q6, q7, q8, pr_8_100, pr_8_m4, pr_i_0, pr_i_1, pr_i_2, pr_i_3, pr_i_m1]
                      refine pr_csT [_, _, _] rfl rfl rfl rfl rfl (Nat.le_of_ble_eq_true rfl) (Nat.le_of_ble_eq_true rfl) (hw) ?_
                      refine pr_ifT rfl (fun h25 => ?_) (fun h25 => ?_)
                      · simp only [ab_cmp, pr_8_100, pr_8_m4, pr_i_0, pr_i_1, pr_i_2, pr_i_3, pr_i_m1] at h25
                        first
                        | contradiction
                        | exact absurd trivial h25
                        | exact absurd h25 (by decide)
                        | exact absurd (Classical.not_not.mp h25) (by decide)
                        | skip
                          refine pr_seqT (pc' := 40) 6 rfl ⟨⟨⟨⟨⟨⟨trivial, (by first | assumption | (simp only [r9, r0, r1, r2, r3, s1, s2, q0, q1, rc, q3, q4, q5, q6, q7, q8, pr_8_100, pr_8_m4, pr_i_0, pr_i_1, pr_i_2, pr_i_3, pr_i_m1]; first | assumption | decide | exact ⟨by assumption, by assumption⟩ | exact ⟨Or.inl (by assumption), by assumption⟩ | omega) | decide | exact ⟨Or.inl (by assumption), by assumption⟩ | exact ⟨by assumption, by assumption⟩ | omega)⟩, (by first | assumption | (simp only [r9, r0, r1, r2, r3, s1, s2, q0, q1, rc, q3, q4, q5, q6, q7, q8, pr_8_100, pr_8_m4, pr_i_0, pr_i_1, pr_i_2, pr_i_3, pr_i_m1]; first | assumption | decide | exact ⟨by assumption, by assumption⟩ | exact ⟨Or.inl (by assumption), by assumption⟩ | omega) | decide | exact ⟨Or.inl (by assumption), by assumption⟩ | exact ⟨by assumption, by assumption⟩ | omega)⟩, (by first | assumption | (simp only [r9, r0, r1, r2, r3, s1, s2, q0, q1, rc, q3, q4, q5, q6, q7, q8, pr_8_100, pr_8_m4, pr_i_0, pr_i_1, pr_i_2, pr_i_3, pr_i_m1]; first | assumption | decide | exact ⟨by assumption, by assumption⟩ | exact ⟨Or.inl (by assumption), by assumption⟩ | omega) | decide | exact ⟨Or.inl (by assumption), by assumption⟩ | exact ⟨by assumption, by assumption⟩ | omega)⟩, (by first | assumption | (simp only [r9, r0, r1, r2, r3, s1, s2, q0, q1, rc, q3, q4, q5, q6, q7, q8, pr_8_100, pr_8_m4, pr_i_0, pr_i_1, pr_i_2, pr_i_3, pr_i_m1]; first | assumption | decide | exact ⟨by assumption, by assumption⟩ | exact ⟨Or.inl (by assumption), by assumption⟩ | omega) | decide | exact ⟨Or.inl (by assumption), by assumption⟩ | exact ⟨by assumption, by assumption⟩ | omega)⟩, trivial⟩, trivial⟩ ?_
                          try simp only [r9, r0, r1, r2, r3, s1, s2, q0, q1, rc, q3, q4, q5, q6, q7, q8, pr_8_100, pr_8_m4, pr_i_0, pr_i_1, pr_i_2, pr_i_3, pr_i_m1]
                          fail "no call@40 yX4_find"
                      · simp only [ab_cmp, pr_8_100, pr_8_m4, pr_i_0, pr_i_1, pr_i_2, pr_i_3, pr_i_m1] at h25
                        first
                        | contradiction
                        | exact absurd trivial h25
                        | exact absurd h25 (by decide)
                        | exact absurd (Classical.not_not.mp h25) (by decide)
                        | skip
                          refine pr_seqT (pc' := 29) 1 rfl ⟨trivial, trivial⟩ ?_
                          try simp only [r9, r0, r1, r2, r3, s1, s2, q0, q1, rc, q3, q4, q5, q6, q7, q8, pr_8_100, pr_8_m4, pr_i_0, pr_i_1, pr_i_2, pr_i_3, pr_i_m1]
                          exact pr_irT rfl trivial (by exact cp_s hl hv)
        · rw [qw] at hw ⊢
          rw [if_pos (show (true && true && true && true) = true from rfl), nI_clamp (show i < 2 ^ 31 by omega), nI_clamp (show j < 2 ^ 31 by omega)]
          have hfd := c_pfind (X := X) (t := tB b) (a := i) (b := j) (by omega) (by omega) eij h M hpa ht (by omega) hT
          have bnd := svc_b X i j 1681 (by omega)
          generalize svc X i j 1681 = s at hfd bnd ⊢
          obtain ⟨n, fa, fb, oa, ob⟩ := s
          dsimp only at bnd ⊢
          have key : ∀ I : Nat → Nat → Int32, pv_v I (n, fa, fb, oa, ob) → (∀ c, (c < 58 ∨ 61 < c) → I c = M.1 c) → pr_T pX10_solve 43 [some (.ref 1), some (.int (nI i)), some (.int (nI j)), some (.int (nI k))] [] h (I, M.2) (cp h M (if nI k = 0 then nI n else if n = 0 then -4 else if nI k = 1 then 100 * nI fa + nI fb else if nI k = 2 then (if oa then nI fa else -4) else (if ob then nI fb else -4), X)) := by
            intro I hpv hf
            obtain ⟨u1, u2, u3, u4⟩ := hpv
            dsimp only at u1 u2 u3 u4
            have hs : cl_same M.1 I := fun c hc => hf c (by omega)
            have done : ∀ v : Int32, cp h M (v, X) (some (.int v)) (I, M.2) := fun v => cp_q hl hv rfl hs
            by_cases z : n = 0
            · rw [z] at u1
              have u1 : I 58 4 = 0 := u1
              rcases (show k = 0 ∨ 1 ≤ k by omega) with rfl | hk1
              · rw [if_pos (show nI 0 = 0 from rfl), z]
                refine pr_seqT (pc' := 44) 1 rfl ⟨trivial, trivial⟩ ?_
                try simp only [q4, u1, pr_8_100, pr_8_m4, pr_i_0, pr_i_1, pr_i_2, pr_i_3, pr_i_m1]
                refine pr_ifT rfl (fun h44 => ?_) (fun h44 => ?_)
                · simp only [ab_cmp, pr_8_100, pr_8_m4, pr_i_0, pr_i_1, pr_i_2, pr_i_3, pr_i_m1] at h44
                  first
                  | contradiction
                  | exact absurd trivial h44
                  | exact absurd h44 (by decide)
                  | exact absurd (Classical.not_not.mp h44) (by decide)
                  | skip
                    fail
                · simp only [ab_cmp, pr_8_100, pr_8_m4, pr_i_0, pr_i_1, pr_i_2, pr_i_3, pr_i_m1] at h44
                  first
                  | contradiction
                  | exact absurd trivial h44
                  | exact absurd h44 (by decide)
                  | exact absurd (Classical.not_not.mp h44) (by decide)
                  | skip
                    refine pr_seqT (pc' := 54) 3 rfl ⟨⟨⟨trivial, (by first | assumption | (simp only [q4, u1, pr_8_100, pr_8_m4, pr_i_0, pr_i_1, pr_i_2, pr_i_3, pr_i_m1]; first | assumption | decide | exact ⟨by assumption, by assumption⟩ | exact ⟨Or.inl (by assumption), by assumption⟩ | omega) | decide | exact ⟨Or.inl (by assumption), by assumption⟩ | exact ⟨by assumption, by assumption⟩ | omega)⟩, (by first | assumption | (simp only [q4, u1, pr_8_100, pr_8_m4, pr_i_0, pr_i_1, pr_i_2, pr_i_3, pr_i_m1]; first | assumption | decide | exact ⟨by assumption, by assumption⟩ | exact ⟨Or.inl (by assumption), by assumption⟩ | omega) | decide | exact ⟨Or.inl (by assumption), by assumption⟩ | exact ⟨by assumption, by assumption⟩ | omega)⟩, (by first | assumption | (simp only [q4, u1, pr_8_100, pr_8_m4, pr_i_0, pr_i_1, pr_i_2, pr_i_3, pr_i_m1]; first | assumption | decide | exact ⟨by assumption, by assumption⟩ | exact ⟨Or.inl (by assumption), by assumption⟩ | omega) | decide | exact ⟨Or.inl (by assumption), by assumption⟩ | exact ⟨by assumption, by assumption⟩ | omega)⟩ ?_
                    try simp only [q4, u1, pr_8_100, pr_8_m4, pr_i_0, pr_i_1, pr_i_2, pr_i_3, pr_i_m1]
                    exact pr_irT rfl trivial (by exact done _)
              · have nk : ¬ nI k = 0 := nI_ne (b := 0) (by omega) (by omega) (by decide)
                rw [if_neg nk, if_pos z]
                refine pr_seqT (pc' := 44) 1 rfl ⟨trivial, trivial⟩ ?_
                try simp only [q4, u1, pr_8_100, pr_8_m4, pr_i_0, pr_i_1, pr_i_2, pr_i_3, pr_i_m1]
                refine pr_ifT rfl (fun h44 => ?_) (fun h44 => ?_)
                · simp only [ab_cmp, pr_8_100, pr_8_m4, pr_i_0, pr_i_1, pr_i_2, pr_i_3, pr_i_m1] at h44
                  first
                  | contradiction
                  | exact absurd trivial h44
                  | exact absurd h44 (by decide)
                  | exact absurd (Classical.not_not.mp h44) (by decide)
                  | skip
                    refine pr_seqT (pc' := 62) 3 rfl ⟨⟨⟨trivial, (by first | assumption | (simp only [q4, u1, pr_8_100, pr_8_m4, pr_i_0, pr_i_1, pr_i_2, pr_i_3, pr_i_m1]; first | assumption | decide | exact ⟨by assumption, by assumption⟩ | exact ⟨Or.inl (by assumption), by assumption⟩ | omega) | decide | exact ⟨Or.inl (by assumption), by assumption⟩ | exact ⟨by assumption, by assumption⟩ | omega)⟩, (by first | assumption | (simp only [q4, u1, pr_8_100, pr_8_m4, pr_i_0, pr_i_1, pr_i_2, pr_i_3, pr_i_m1]; first | assumption | decide | exact ⟨by assumption, by assumption⟩ | exact ⟨Or.inl (by assumption), by assumption⟩ | omega) | decide | exact ⟨Or.inl (by assumption), by assumption⟩ | exact ⟨by assumption, by assumption⟩ | omega)⟩, (by first | assumption | (simp only [q4, u1, pr_8_100, pr_8_m4, pr_i_0, pr_i_1, pr_i_2, pr_i_3, pr_i_m1]; first | assumption | decide | exact ⟨by assumption, by assumption⟩ | exact ⟨Or.inl (by assumption), by assumption⟩ | omega) | decide | exact ⟨Or.inl (by assumption), by assumption⟩ | exact ⟨by assumption, by assumption⟩ | omega)⟩ ?_
                    try simp only [q4, u1, pr_8_100, pr_8_m4, pr_i_0, pr_i_1, pr_i_2, pr_i_3, pr_i_m1]
                    refine pr_ifT rfl (fun h62 => ?_) (fun h62 => ?_)
                    · simp only [ab_cmp, pr_8_100, pr_8_m4, pr_i_0, pr_i_1, pr_i_2, pr_i_3, pr_i_m1] at h62
                      first
                      | contradiction
                      | exact absurd trivial h62
                      | exact absurd h62 (by decide)
                      | exact absurd (Classical.not_not.mp h62) (by decide)
                      | skip
                        fail
                    · simp only [ab_cmp, pr_8_100, pr_8_m4, pr_i_0, pr_i_1, pr_i_2, pr_i_3, pr_i_m1] at h62
                      first
                      | contradiction
                      | exact absurd trivial h62
                      | exact absurd h62 (by decide)
                      | exact absurd (Classical.not_not.mp h62) (by decide)
                      | skip
                        refine pr_seqT (pc' := 67) 1 rfl ⟨trivial, trivial⟩ ?_
                        try simp only [q4, u1, pr_8_100, pr_8_m4, pr_i_0, pr_i_1, pr_i_2, pr_i_3, pr_i_m1]
                        exact pr_irT rfl trivial (by exact done _)
                · simp only [ab_cmp, pr_8_100, pr_8_m4, pr_i_0, pr_i_1, pr_i_2, pr_i_3, pr_i_m1] at h44
                  first
                  | contradiction
                  | exact absurd trivial h44
                  | exact absurd h44 (by decide)
                  | exact absurd (Classical.not_not.mp h44) (by decide)
                  | skip
                    fail
            · have z' : ¬ nI n = 0 := nI_ne (b := 0) z (by omega) (by decide)
              obtain ⟨u5, u6⟩ := u2 z
              rcases (show k = 0 ∨ k = 1 ∨ k = 2 ∨ k = 3 by omega) with rfl | rfl | rfl | rfl
              · rw [if_pos (show nI 0 = 0 from rfl)]
                refine pr_seqT (pc' := 44) 1 rfl ⟨trivial, trivial⟩ ?_
                try simp only [q4, u1, pr_8_100, pr_8_m4, pr_i_0, pr_i_1, pr_i_2, pr_i_3, pr_i_m1]
                refine pr_ifT rfl (fun h44 => ?_) (fun h44 => ?_)
                · simp only [ab_cmp, pr_8_100, pr_8_m4, pr_i_0, pr_i_1, pr_i_2, pr_i_3, pr_i_m1] at h44
                  first
                  | contradiction
                  | exact absurd trivial h44
                  | exact absurd h44 (by decide)
                  | exact absurd (Classical.not_not.mp h44) (by decide)
                  | skip
                    fail
                · simp only [ab_cmp, pr_8_100, pr_8_m4, pr_i_0, pr_i_1, pr_i_2, pr_i_3, pr_i_m1] at h44
                  first
                  | contradiction
                  | exact absurd trivial h44
                  | exact absurd h44 (by decide)
                  | exact absurd (Classical.not_not.mp h44) (by decide)
                  | skip
                    refine pr_seqT (pc' := 54) 3 rfl ⟨⟨⟨trivial, (by first | assumption | (simp only [q4, u1, pr_8_100, pr_8_m4, pr_i_0, pr_i_1, pr_i_2, pr_i_3, pr_i_m1]; first | assumption | decide | exact ⟨by assumption, by assumption⟩ | exact ⟨Or.inl (by assumption), by assumption⟩ | omega) | decide | exact ⟨Or.inl (by assumption), by assumption⟩ | exact ⟨by assumption, by assumption⟩ | omega)⟩, (by first | assumption | (simp only [q4, u1, pr_8_100, pr_8_m4, pr_i_0, pr_i_1, pr_i_2, pr_i_3, pr_i_m1]; first | assumption | decide | exact ⟨by assumption, by assumption⟩ | exact ⟨Or.inl (by assumption), by assumption⟩ | omega) | decide | exact ⟨Or.inl (by assumption), by assumption⟩ | exact ⟨by assumption, by assumption⟩ | omega)⟩, (by first | assumption | (simp only [q4, u1, pr_8_100, pr_8_m4, pr_i_0, pr_i_1, pr_i_2, pr_i_3, pr_i_m1]; first | assumption | decide | exact ⟨by assumption, by assumption⟩ | exact ⟨Or.inl (by assumption), by assumption⟩ | omega) | decide | exact ⟨Or.inl (by assumption), by assumption⟩ | exact ⟨by assumption, by assumption⟩ | omega)⟩ ?_
                    try simp only [q4, u1, pr_8_100, pr_8_m4, pr_i_0, pr_i_1, pr_i_2, pr_i_3, pr_i_m1]
                    exact pr_irT rfl trivial (by exact done _)
              · rw [if_neg (show ¬ nI 1 = 0 by decide), if_neg z, if_pos (show nI 1 = 1 from rfl)]
                refine pr_seqT (pc' := 44) 1 rfl ⟨trivial, trivial⟩ ?_
                try simp only [q4, u1, u5, u6, pr_8_100, pr_8_m4, pr_i_0, pr_i_1, pr_i_2, pr_i_3, pr_i_m1]
                refine pr_ifT rfl (fun h44 => ?_) (fun h44 => ?_)
                · simp only [ab_cmp, pr_8_100, pr_8_m4, pr_i_0, pr_i_1, pr_i_2, pr_i_3, pr_i_m1] at h44
                  first
                  | contradiction
                  | exact absurd trivial h44
                  | exact absurd h44 (by decide)
                  | exact absurd (Classical.not_not.mp h44) (by decide)
                  | exact absurd rfl h44
                  | skip
                    refine pr_seqT (pc' := 62) 3 rfl ⟨⟨⟨trivial, (by first | assumption | (simp only [q4, u1, u5, u6, pr_8_100, pr_8_m4, pr_i_0, pr_i_1, pr_i_2, pr_i_3, pr_i_m1]; first | assumption | decide | exact ⟨by assumption, by assumption⟩ | exact ⟨Or.inl (by assumption), by assumption⟩ | omega) | decide | exact ⟨Or.inl (by assumption), by assumption⟩ | exact ⟨by assumption, by assumption⟩ | omega)⟩, (by first | assumption | (simp only [q4, u1, u5, u6, pr_8_100, pr_8_m4, pr_i_0, pr_i_1, pr_i_2, pr_i_3, pr_i_m1]; first | assumption | decide | exact ⟨by assumption, by assumption⟩ | exact ⟨Or.inl (by assumption), by assumption⟩ | omega) | decide | exact ⟨Or.inl (by assumption), by assumption⟩ | exact ⟨by assumption, by assumption⟩ | omega)⟩, (by first | assumption | (simp only [q4, u1, u5, u6, pr_8_100, pr_8_m4, pr_i_0, pr_i_1, pr_i_2, pr_i_3, pr_i_m1]; first | assumption | decide | exact ⟨by assumption, by assumption⟩ | exact ⟨Or.inl (by assumption), by assumption⟩ | omega) | decide | exact ⟨Or.inl (by assumption), by assumption⟩ | exact ⟨by assumption, by assumption⟩ | omega)⟩ ?_
                    try simp only [q4, u1, u5, u6, pr_8_100, pr_8_m4, pr_i_0, pr_i_1, pr_i_2, pr_i_3, pr_i_m1]
                    refine pr_ifT rfl (fun h62 => ?_) (fun h62 => ?_)
                    · simp only [ab_cmp, pr_8_100, pr_8_m4, pr_i_0, pr_i_1, pr_i_2, pr_i_3, pr_i_m1] at h62
                      first
                      | contradiction
                      | exact absurd trivial h62
                      | exact absurd h62 (by decide)
                      | exact absurd (Classical.not_not.mp h62) (by decide)
                      | exact absurd rfl h62
                      | skip
                        refine pr_seqT (pc' := 70) 2 rfl ⟨⟨trivial, trivial⟩, trivial⟩ ?_
                        try simp only [q4, u1, u5, u6, pr_8_100, pr_8_m4, pr_i_0, pr_i_1, pr_i_2, pr_i_3, pr_i_m1]
                        refine pr_icT rfl (fun h70 => ?_) (fun h70 => ?_)
                        · simp only [ab_cmp, pr_8_100, pr_8_m4, pr_i_0, pr_i_1, pr_i_2, pr_i_3, pr_i_m1] at h70
                          first
                          | contradiction
                          | exact absurd trivial h70
                          | exact absurd h70 (by decide)
                          | exact absurd (Classical.not_not.mp h70) (by decide)
                          | exact absurd rfl h70
                          | skip
                            fail
                        · simp only [ab_cmp, pr_8_100, pr_8_m4, pr_i_0, pr_i_1, pr_i_2, pr_i_3, pr_i_m1] at h70
                          first
                          | contradiction
                          | exact absurd trivial h70
                          | exact absurd h70 (by decide)
                          | exact absurd (Classical.not_not.mp h70) (by decide)
                          | exact absurd rfl h70
                          | skip
                            refine pr_seqT (pc' := 91) 9 rfl ⟨⟨⟨⟨⟨⟨⟨⟨⟨trivial, trivial⟩, (by first | assumption | (simp only [q4, u1, u5, u6, pr_8_100, pr_8_m4, pr_i_0, pr_i_1, pr_i_2, pr_i_3, pr_i_m1]; first | assumption | decide | exact ⟨by assumption, by assumption⟩ | exact ⟨Or.inl (by assumption), by assumption⟩ | omega) | decide | exact ⟨Or.inl (by assumption), by assumption⟩ | exact ⟨by assumption, by assumption⟩ | omega)⟩, (by first | assumption | (simp only [q4, u1, u5, u6, pr_8_100, pr_8_m4, pr_i_0, pr_i_1, pr_i_2, pr_i_3, pr_i_m1]; first | assumption | decide | exact ⟨by assumption, by assumption⟩ | exact ⟨Or.inl (by assumption), by assumption⟩ | omega) | decide | exact ⟨Or.inl (by assumption), by assumption⟩ | exact ⟨by assumption, by assumption⟩ | omega)⟩, (by first | assumption | (simp only [q4, u1, u5, u6, pr_8_100, pr_8_m4, pr_i_0, pr_i_1, pr_i_2, pr_i_3, pr_i_m1]; first | assumption | decide | exact ⟨by assumption, by assumption⟩ | exact ⟨Or.inl (by assumption), by assumption⟩ | omega) | decide | exact ⟨Or.inl (by assumption), by assumption⟩ | exact ⟨by assumption, by assumption⟩ | omega)⟩, trivial⟩, (by first | assumption | (simp only [q4, u1, u5, u6, pr_8_100, pr_8_m4, pr_i_0, pr_i_1, pr_i_2, pr_i_3, pr_i_m1]; first | assumption | decide | exact ⟨by assumption, by assumption⟩ | exact ⟨Or.inl (by assumption), by assumption⟩ | omega) | decide | exact ⟨Or.inl (by assumption), by assumption⟩ | exact ⟨by assumption, by assumption⟩ | omega)⟩, (by first | assumption | (simp only [q4, u1, u5, u6, pr_8_100, pr_8_m4, pr_i_0, pr_i_1, pr_i_2, pr_i_3, pr_i_m1]; first | assumption | decide | exact ⟨by assumption, by assumption⟩ | exact ⟨Or.inl (by assumption), by assumption⟩ | omega) | decide | exact ⟨Or.inl (by assumption), by assumption⟩ | exact ⟨by assumption, by assumption⟩ | omega)⟩, (by first | assumption | (simp only [q4, u1, u5, u6, pr_8_100, pr_8_m4, pr_i_0, pr_i_1, pr_i_2, pr_i_3, pr_i_m1]; first | assumption | decide | exact ⟨by assumption, by assumption⟩ | exact ⟨Or.inl (by assumption), by assumption⟩ | omega) | decide | exact ⟨Or.inl (by assumption), by assumption⟩ | exact ⟨by assumption, by assumption⟩ | omega)⟩, trivial⟩ ?_
                            try simp only [q4, u1, u5, u6, pr_8_100, pr_8_m4, pr_i_0, pr_i_1, pr_i_2, pr_i_3, pr_i_m1]
                            exact pr_irT rfl trivial (by exact done _)
                    · simp only [ab_cmp, pr_8_100, pr_8_m4, pr_i_0, pr_i_1, pr_i_2, pr_i_3, pr_i_m1] at h62
                      first
                      | contradiction
                      | exact absurd trivial h62
                      | exact absurd h62 (by decide)
                      | exact absurd (Classical.not_not.mp h62) (by decide)
                      | exact absurd rfl h62
                      | skip
                        refine pr_seqT (pc' := 67) 1 rfl ⟨trivial, trivial⟩ ?_
                        try simp only [q4, u1, u5, u6, pr_8_100, pr_8_m4, pr_i_0, pr_i_1, pr_i_2, pr_i_3, pr_i_m1]
                        exact pr_irT rfl trivial (by first | rfl | (simp only [q4, u1, u5, u6, pr_8_100, pr_8_m4, pr_i_0, pr_i_1, pr_i_2, pr_i_3, pr_i_m1]; done) | (simp [pr_b, pr_8_100, pr_8_m4, pr_i_0, pr_i_1, pr_i_2, pr_i_3, pr_i_m1, *]; done) | (simp_all [pr_b, pr_8_100, pr_8_m4, pr_i_0, pr_i_1, pr_i_2, pr_i_3, pr_i_m1]; done))
                · simp only [ab_cmp, pr_8_100, pr_8_m4, pr_i_0, pr_i_1, pr_i_2, pr_i_3, pr_i_m1] at h44
                  first
                  | contradiction
                  | exact absurd trivial h44
                  | exact absurd h44 (by decide)
                  | exact absurd (Classical.not_not.mp h44) (by decide)
                  | exact absurd rfl h44
                  | skip
                    fail
              · rw [if_neg (show ¬ nI 2 = 0 by decide), if_neg z, if_neg (show ¬ nI 2 = 1 by decide), if_pos (show nI 2 = 2 from rfl)]
                cases oa with
                | true =>
                  rw [if_pos rfl]
                  refine pr_seqT (pc' := 44) 1 rfl ⟨trivial, trivial⟩ ?_
                  try simp only [q4, u1, u3, u5, u6, pr_8_100, pr_8_m4, pr_i_0, pr_i_1, pr_i_2, pr_i_3, pr_i_m1]
                  refine pr_ifT rfl (fun h44 => ?_) (fun h44 => ?_)
                  · simp only [ab_cmp, pr_8_100, pr_8_m4, pr_i_0, pr_i_1, pr_i_2, pr_i_3, pr_i_m1] at h44
                    first
                    | contradiction
                    | exact absurd trivial h44
                    | exact absurd h44 (by decide)
                    | exact absurd (Classical.not_not.mp h44) (by decide)
                    | exact absurd rfl h44
                    | skip
                      refine pr_seqT (pc' := 62) 3 rfl ⟨⟨⟨trivial, (by first | assumption | (simp only [q4, u1, u3, u5, u6, pr_8_100, pr_8_m4, pr_i_0, pr_i_1, pr_i_2, pr_i_3, pr_i_m1]; first | assumption | decide | exact ⟨by assumption, by assumption⟩ | exact ⟨Or.inl (by assumption), by assumption⟩ | omega) | decide | exact ⟨Or.inl (by assumption), by assumption⟩ | exact ⟨by assumption, by assumption⟩ | omega)⟩, (by first | assumption | (simp only [q4, u1, u3, u5, u6, pr_8_100, pr_8_m4, pr_i_0, pr_i_1, pr_i_2, pr_i_3, pr_i_m1]; first | assumption | decide | exact ⟨by assumption, by assumption⟩ | exact ⟨Or.inl (by assumption), by assumption⟩ | omega) | decide | exact ⟨Or.inl (by assumption), by assumption⟩ | exact ⟨by assumption, by assumption⟩ | omega)⟩, (by first | assumption | (simp only [q4, u1, u3, u5, u6, pr_8_100, pr_8_m4, pr_i_0, pr_i_1, pr_i_2, pr_i_3, pr_i_m1]; first | assumption | decide | exact ⟨by assumption, by assumption⟩ | exact ⟨Or.inl (by assumption), by assumption⟩ | omega) | decide | exact ⟨Or.inl (by assumption), by assumption⟩ | exact ⟨by assumption, by assumption⟩ | omega)⟩ ?_
                      try simp only [q4, u1, u3, u5, u6, pr_8_100, pr_8_m4, pr_i_0, pr_i_1, pr_i_2, pr_i_3, pr_i_m1]
                      refine pr_ifT rfl (fun h62 => ?_) (fun h62 => ?_)
                      · simp only [ab_cmp, pr_8_100, pr_8_m4, pr_i_0, pr_i_1, pr_i_2, pr_i_3, pr_i_m1] at h62
                        first
                        | contradiction
                        | exact absurd trivial h62
                        | exact absurd h62 (by decide)
                        | exact absurd (Classical.not_not.mp h62) (by decide)
                        | exact absurd rfl h62
                        | skip
                          refine pr_seqT (pc' := 70) 2 rfl ⟨⟨trivial, trivial⟩, trivial⟩ ?_
                          try simp only [q4, u1, u3, u5, u6, pr_8_100, pr_8_m4, pr_i_0, pr_i_1, pr_i_2, pr_i_3, pr_i_m1]
                          refine pr_icT rfl (fun h70 => ?_) (fun h70 => ?_)
                          · simp only [ab_cmp, pr_8_100, pr_8_m4, pr_i_0, pr_i_1, pr_i_2, pr_i_3, pr_i_m1] at h70
                            first
                            | contradiction
                            | exact absurd trivial h70
                            | exact absurd h70 (by decide)
                            | exact absurd (Classical.not_not.mp h70) (by decide)
                            | exact absurd rfl h70
                            | skip
                              refine pr_seqT (pc' := 94) 2 rfl ⟨⟨trivial, trivial⟩, trivial⟩ ?_
                              try simp only [q4, u1, u3, u5, u6, pr_8_100, pr_8_m4, pr_i_0, pr_i_1, pr_i_2, pr_i_3, pr_i_m1]
                              refine pr_icT rfl (fun h94 => ?_) (fun h94 => ?_)
                              · simp only [ab_cmp, pr_8_100, pr_8_m4, pr_i_0, pr_i_1, pr_i_2, pr_i_3, pr_i_m1] at h94
                                first
                                | contradiction
                                | exact absurd trivial h94
                                | exact absurd h94 (by decide)
                                | exact absurd (Classical.not_not.mp h94) (by decide)
                                | exact absurd rfl h94
                                | skip
                                  fail
                              · simp only [ab_cmp, pr_8_100, pr_8_m4, pr_i_0, pr_i_1, pr_i_2, pr_i_3, pr_i_m1] at h94
                                first
                                | contradiction
                                | exact absurd trivial h94
                                | exact absurd h94 (by decide)
                                | exact absurd (Classical.not_not.mp h94) (by decide)
                                | exact absurd rfl h94
                                | skip
                                  refine pr_seqT (pc' := 104) 3 rfl ⟨⟨⟨trivial, (by first | assumption | (simp only [q4, u1, u3, u5, u6, pr_8_100, pr_8_m4, pr_i_0, pr_i_1, pr_i_2, pr_i_3, pr_i_m1]; first | assumption | decide | exact ⟨by assumption, by assumption⟩ | exact ⟨Or.inl (by assumption), by assumption⟩ | omega) | decide | exact ⟨Or.inl (by assumption), by assumption⟩ | exact ⟨by assumption, by assumption⟩ | omega)⟩, (by first | assumption | (simp only [q4, u1, u3, u5, u6, pr_8_100, pr_8_m4, pr_i_0, pr_i_1, pr_i_2, pr_i_3, pr_i_m1]; first | assumption | decide | exact ⟨by assumption, by assumption⟩ | exact ⟨Or.inl (by assumption), by assumption⟩ | omega) | decide | exact ⟨Or.inl (by assumption), by assumption⟩ | exact ⟨by assumption, by assumption⟩ | omega)⟩, (by first | assumption | (simp only [q4, u1, u3, u5, u6, pr_8_100, pr_8_m4, pr_i_0, pr_i_1, pr_i_2, pr_i_3, pr_i_m1]; first | assumption | decide | exact ⟨by assumption, by assumption⟩ | exact ⟨Or.inl (by assumption), by assumption⟩ | omega) | decide | exact ⟨Or.inl (by assumption), by assumption⟩ | exact ⟨by assumption, by assumption⟩ | omega)⟩ ?_
                                  try simp only [q4, u1, u3, u5, u6, pr_8_100, pr_8_m4, pr_i_0, pr_i_1, pr_i_2, pr_i_3, pr_i_m1]
                                  refine pr_ifT rfl (fun h104 => ?_) (fun h104 => ?_)
                                  · simp only [ab_cmp, pr_8_100, pr_8_m4, pr_i_0, pr_i_1, pr_i_2, pr_i_3, pr_i_m1] at h104
                                    first
                                    | contradiction
                                    | exact absurd trivial h104
                                    | exact absurd h104 (by decide)
                                    | exact absurd (Classical.not_not.mp h104) (by decide)
                                    | exact absurd rfl h104
                                    | skip
                                      refine pr_seqT (pc' := 119) 1 rfl ⟨trivial, trivial⟩ ?_
                                      try simp only [q4, u1, u3, u5, u6, pr_8_100, pr_8_m4, pr_i_0, pr_i_1, pr_i_2, pr_i_3, pr_i_m1]
                                      exact pr_irT rfl trivial (done _)
                                  · simp only [ab_cmp, pr_8_100, pr_8_m4, pr_i_0, pr_i_1, pr_i_2, pr_i_3, pr_i_m1] at h104
                                    first
                                    | contradiction
                                    | exact absurd trivial h104
                                    | exact absurd h104 (by decide)
                                    | exact absurd (Classical.not_not.mp h104) (by decide)
                                    | exact absurd rfl h104
                                    | skip
                                      refine pr_seqT (pc' := 119) 4 rfl ⟨⟨⟨⟨trivial, (by first | assumption | (simp only [q4, u1, u3, u5, u6, pr_8_100, pr_8_m4, pr_i_0, pr_i_1, pr_i_2, pr_i_3, pr_i_m1]; first | assumption | decide | exact ⟨by assumption, by assumption⟩ | exact ⟨Or.inl (by assumption), by assumption⟩ | omega) | decide | exact ⟨Or.inl (by assumption), by assumption⟩ | exact ⟨by assumption, by assumption⟩ | omega)⟩, (by first | assumption | (simp only [q4, u1, u3, u5, u6, pr_8_100, pr_8_m4, pr_i_0, pr_i_1, pr_i_2, pr_i_3, pr_i_m1]; first | assumption | decide | exact ⟨by assumption, by assumption⟩ | exact ⟨Or.inl (by assumption), by assumption⟩ | omega) | decide | exact ⟨Or.inl (by assumption), by assumption⟩ | exact ⟨by assumption, by assumption⟩ | omega)⟩, (by first | assumption | (simp only [q4, u1, u3, u5, u6, pr_8_100, pr_8_m4, pr_i_0, pr_i_1, pr_i_2, pr_i_3, pr_i_m1]; first | assumption | decide | exact ⟨by assumption, by assumption⟩ | exact ⟨Or.inl (by assumption), by assumption⟩ | omega) | decide | exact ⟨Or.inl (by assumption), by assumption⟩ | exact ⟨by assumption, by assumption⟩ | omega)⟩, trivial⟩ ?_
                                      try simp only [q4, u1, u3, u5, u6, pr_8_100, pr_8_m4, pr_i_0, pr_i_1, pr_i_2, pr_i_3, pr_i_m1]
                                      exact pr_irT rfl trivial (done _)
                          · simp only [ab_cmp, pr_8_100, pr_8_m4, pr_i_0, pr_i_1, pr_i_2, pr_i_3, pr_i_m1] at h70
                            first
                            | contradiction
                            | exact absurd trivial h70
                            | exact absurd h70 (by decide)
                            | exact absurd (Classical.not_not.mp h70) (by decide)
                            | exact absurd rfl h70
                            | skip
                              fail
                      · simp only [ab_cmp, pr_8_100, pr_8_m4, pr_i_0, pr_i_1, pr_i_2, pr_i_3, pr_i_m1] at h62
                        first
                        | contradiction
                        | exact absurd trivial h62
                        | exact absurd h62 (by decide)
                        | exact absurd (Classical.not_not.mp h62) (by decide)
                        | exact absurd rfl h62
                        | skip
                          refine pr_seqT (pc' := 67) 1 rfl ⟨trivial, trivial⟩ ?_
                          try simp only [q4, u1, u3, u5, u6, pr_8_100, pr_8_m4, pr_i_0, pr_i_1, pr_i_2, pr_i_3, pr_i_m1]
                          exact pr_irT rfl trivial (by first | rfl | (simp only [q4, u1, u3, u5, u6, pr_8_100, pr_8_m4, pr_i_0, pr_i_1, pr_i_2, pr_i_3, pr_i_m1]; done) | (simp [pr_b, pr_8_100, pr_8_m4, pr_i_0, pr_i_1, pr_i_2, pr_i_3, pr_i_m1, *]; done) | (simp_all [pr_b, pr_8_100, pr_8_m4, pr_i_0, pr_i_1, pr_i_2, pr_i_3, pr_i_m1]; done))
                  · simp only [ab_cmp, pr_8_100, pr_8_m4, pr_i_0, pr_i_1, pr_i_2, pr_i_3, pr_i_m1] at h44
                    first
                    | contradiction
                    | exact absurd trivial h44
                    | exact absurd h44 (by decide)
                    | exact absurd (Classical.not_not.mp h44) (by decide)
                    | exact absurd rfl h44
                    | skip
                      fail
                | false =>
                  rw [if_neg (by decide)]
                  refine pr_seqT (pc' := 44) 1 rfl ⟨trivial, trivial⟩ ?_
                  try simp only [q4, u1, u3, u5, u6, pr_8_100, pr_8_m4, pr_i_0, pr_i_1, pr_i_2, pr_i_3, pr_i_m1]
                  refine pr_ifT rfl (fun h44 => ?_) (fun h44 => ?_)
                  · simp only [ab_cmp, pr_8_100, pr_8_m4, pr_i_0, pr_i_1, pr_i_2, pr_i_3, pr_i_m1] at h44
                    first
                    | contradiction
                    | exact absurd trivial h44
                    | exact absurd h44 (by decide)
                    | exact absurd (Classical.not_not.mp h44) (by decide)
                    | exact absurd rfl h44
                    | skip
                      refine pr_seqT (pc' := 62) 3 rfl ⟨⟨⟨trivial, (by first | assumption | (simp only [q4, u1, u3, u5, u6, pr_8_100, pr_8_m4, pr_i_0, pr_i_1, pr_i_2, pr_i_3, pr_i_m1]; first | assumption | decide | exact ⟨by assumption, by assumption⟩ | exact ⟨Or.inl (by assumption), by assumption⟩ | omega) | decide | exact ⟨Or.inl (by assumption), by assumption⟩ | exact ⟨by assumption, by assumption⟩ | omega)⟩, (by first | assumption | (simp only [q4, u1, u3, u5, u6, pr_8_100, pr_8_m4, pr_i_0, pr_i_1, pr_i_2, pr_i_3, pr_i_m1]; first | assumption | decide | exact ⟨by assumption, by assumption⟩ | exact ⟨Or.inl (by assumption), by assumption⟩ | omega) | decide | exact ⟨Or.inl (by assumption), by assumption⟩ | exact ⟨by assumption, by assumption⟩ | omega)⟩, (by first | assumption | (simp only [q4, u1, u3, u5, u6, pr_8_100, pr_8_m4, pr_i_0, pr_i_1, pr_i_2, pr_i_3, pr_i_m1]; first | assumption | decide | exact ⟨by assumption, by assumption⟩ | exact ⟨Or.inl (by assumption), by assumption⟩ | omega) | decide | exact ⟨Or.inl (by assumption), by assumption⟩ | exact ⟨by assumption, by assumption⟩ | omega)⟩ ?_
                      try simp only [q4, u1, u3, u5, u6, pr_8_100, pr_8_m4, pr_i_0, pr_i_1, pr_i_2, pr_i_3, pr_i_m1]
                      refine pr_ifT rfl (fun h62 => ?_) (fun h62 => ?_)
                      · simp only [ab_cmp, pr_8_100, pr_8_m4, pr_i_0, pr_i_1, pr_i_2, pr_i_3, pr_i_m1] at h62
                        first
                        | contradiction
                        | exact absurd trivial h62
                        | exact absurd h62 (by decide)
                        | exact absurd (Classical.not_not.mp h62) (by decide)
                        | exact absurd rfl h62
                        | skip
                          refine pr_seqT (pc' := 70) 2 rfl ⟨⟨trivial, trivial⟩, trivial⟩ ?_
                          try simp only [q4, u1, u3, u5, u6, pr_8_100, pr_8_m4, pr_i_0, pr_i_1, pr_i_2, pr_i_3, pr_i_m1]
                          refine pr_icT rfl (fun h70 => ?_) (fun h70 => ?_)
                          · simp only [ab_cmp, pr_8_100, pr_8_m4, pr_i_0, pr_i_1, pr_i_2, pr_i_3, pr_i_m1] at h70
                            first
                            | contradiction
                            | exact absurd trivial h70
                            | exact absurd h70 (by decide)
                            | exact absurd (Classical.not_not.mp h70) (by decide)
                            | exact absurd rfl h70
                            | skip
                              refine pr_seqT (pc' := 94) 2 rfl ⟨⟨trivial, trivial⟩, trivial⟩ ?_
                              try simp only [q4, u1, u3, u5, u6, pr_8_100, pr_8_m4, pr_i_0, pr_i_1, pr_i_2, pr_i_3, pr_i_m1]
                              refine pr_icT rfl (fun h94 => ?_) (fun h94 => ?_)
                              · simp only [ab_cmp, pr_8_100, pr_8_m4, pr_i_0, pr_i_1, pr_i_2, pr_i_3, pr_i_m1] at h94
                                first
                                | contradiction
                                | exact absurd trivial h94
                                | exact absurd h94 (by decide)
                                | exact absurd (Classical.not_not.mp h94) (by decide)
                                | exact absurd rfl h94
                                | skip
                                  fail
                              · simp only [ab_cmp, pr_8_100, pr_8_m4, pr_i_0, pr_i_1, pr_i_2, pr_i_3, pr_i_m1] at h94
                                first
                                | contradiction
                                | exact absurd trivial h94
                                | exact absurd h94 (by decide)
                                | exact absurd (Classical.not_not.mp h94) (by decide)
                                | exact absurd rfl h94
                                | skip
                                  refine pr_seqT (pc' := 104) 3 rfl ⟨⟨⟨trivial, (by first | assumption | (simp only [q4, u1, u3, u5, u6, pr_8_100, pr_8_m4, pr_i_0, pr_i_1, pr_i_2, pr_i_3, pr_i_m1]; first | assumption | decide | exact ⟨by assumption, by assumption⟩ | exact ⟨Or.inl (by assumption), by assumption⟩ | omega) | decide | exact ⟨Or.inl (by assumption), by assumption⟩ | exact ⟨by assumption, by assumption⟩ | omega)⟩, (by first | assumption | (simp only [q4, u1, u3, u5, u6, pr_8_100, pr_8_m4, pr_i_0, pr_i_1, pr_i_2, pr_i_3, pr_i_m1]; first | assumption | decide | exact ⟨by assumption, by assumption⟩ | exact ⟨Or.inl (by assumption), by assumption⟩ | omega) | decide | exact ⟨Or.inl (by assumption), by assumption⟩ | exact ⟨by assumption, by assumption⟩ | omega)⟩, (by first | assumption | (simp only [q4, u1, u3, u5, u6, pr_8_100, pr_8_m4, pr_i_0, pr_i_1, pr_i_2, pr_i_3, pr_i_m1]; first | assumption | decide | exact ⟨by assumption, by assumption⟩ | exact ⟨Or.inl (by assumption), by assumption⟩ | omega) | decide | exact ⟨Or.inl (by assumption), by assumption⟩ | exact ⟨by assumption, by assumption⟩ | omega)⟩ ?_
                                  try simp only [q4, u1, u3, u5, u6, pr_8_100, pr_8_m4, pr_i_0, pr_i_1, pr_i_2, pr_i_3, pr_i_m1]
                                  refine pr_ifT rfl (fun h104 => ?_) (fun h104 => ?_)
                                  · simp only [ab_cmp, pr_8_100, pr_8_m4, pr_i_0, pr_i_1, pr_i_2, pr_i_3, pr_i_m1] at h104
                                    first
                                    | contradiction
                                    | exact absurd trivial h104
                                    | exact absurd h104 (by decide)
                                    | exact absurd (Classical.not_not.mp h104) (by decide)
                                    | exact absurd rfl h104
                                    | skip
                                      refine pr_seqT (pc' := 119) 1 rfl ⟨trivial, trivial⟩ ?_
                                      try simp only [q4, u1, u3, u5, u6, pr_8_100, pr_8_m4, pr_i_0, pr_i_1, pr_i_2, pr_i_3, pr_i_m1]
                                      exact pr_irT rfl trivial (done _)
                                  · simp only [ab_cmp, pr_8_100, pr_8_m4, pr_i_0, pr_i_1, pr_i_2, pr_i_3, pr_i_m1] at h104
                                    first
                                    | contradiction
                                    | exact absurd trivial h104
                                    | exact absurd h104 (by decide)
                                    | exact absurd (Classical.not_not.mp h104) (by decide)
                                    | exact absurd rfl h104
                                    | skip
                                      refine pr_seqT (pc' := 119) 4 rfl ⟨⟨⟨⟨trivial, (by first | assumption | (simp only [q4, u1, u3, u5, u6, pr_8_100, pr_8_m4, pr_i_0, pr_i_1, pr_i_2, pr_i_3, pr_i_m1]; first | assumption | decide | exact ⟨by assumption, by assumption⟩ | exact ⟨Or.inl (by assumption), by assumption⟩ | omega) | decide | exact ⟨Or.inl (by assumption), by assumption⟩ | exact ⟨by assumption, by assumption⟩ | omega)⟩, (by first | assumption | (simp only [q4, u1, u3, u5, u6, pr_8_100, pr_8_m4, pr_i_0, pr_i_1, pr_i_2, pr_i_3, pr_i_m1]; first | assumption | decide | exact ⟨by assumption, by assumption⟩ | exact ⟨Or.inl (by assumption), by assumption⟩ | omega) | decide | exact ⟨Or.inl (by assumption), by assumption⟩ | exact ⟨by assumption, by assumption⟩ | omega)⟩, (by first | assumption | (simp only [q4, u1, u3, u5, u6, pr_8_100, pr_8_m4, pr_i_0, pr_i_1, pr_i_2, pr_i_3, pr_i_m1]; first | assumption | decide | exact ⟨by assumption, by assumption⟩ | exact ⟨Or.inl (by assumption), by assumption⟩ | omega) | decide | exact ⟨Or.inl (by assumption), by assumption⟩ | exact ⟨by assumption, by assumption⟩ | omega)⟩, trivial⟩ ?_
                                      try simp only [q4, u1, u3, u5, u6, pr_8_100, pr_8_m4, pr_i_0, pr_i_1, pr_i_2, pr_i_3, pr_i_m1]
                                      exact pr_irT rfl trivial (done _)
                          · simp only [ab_cmp, pr_8_100, pr_8_m4, pr_i_0, pr_i_1, pr_i_2, pr_i_3, pr_i_m1] at h70
                            first
                            | contradiction
                            | exact absurd trivial h70
                            | exact absurd h70 (by decide)
                            | exact absurd (Classical.not_not.mp h70) (by decide)
                            | exact absurd rfl h70
                            | skip
                              fail
                      · simp only [ab_cmp, pr_8_100, pr_8_m4, pr_i_0, pr_i_1, pr_i_2, pr_i_3, pr_i_m1] at h62
                        first
                        | contradiction
                        | exact absurd trivial h62
                        | exact absurd h62 (by decide)
                        | exact absurd (Classical.not_not.mp h62) (by decide)
                        | exact absurd rfl h62
                        | skip
                          refine pr_seqT (pc' := 67) 1 rfl ⟨trivial, trivial⟩ ?_
                          try simp only [q4, u1, u3, u5, u6, pr_8_100, pr_8_m4, pr_i_0, pr_i_1, pr_i_2, pr_i_3, pr_i_m1]
                          exact pr_irT rfl trivial (by first | rfl | (simp only [q4, u1, u3, u5, u6, pr_8_100, pr_8_m4, pr_i_0, pr_i_1, pr_i_2, pr_i_3, pr_i_m1]; done) | (simp [pr_b, pr_8_100, pr_8_m4, pr_i_0, pr_i_1, pr_i_2, pr_i_3, pr_i_m1, *]; done) | (simp_all [pr_b, pr_8_100, pr_8_m4, pr_i_0, pr_i_1, pr_i_2, pr_i_3, pr_i_m1]; done))
                  · simp only [ab_cmp, pr_8_100, pr_8_m4, pr_i_0, pr_i_1, pr_i_2, pr_i_3, pr_i_m1] at h44
                    first
                    | contradiction
                    | exact absurd trivial h44
                    | exact absurd h44 (by decide)
                    | exact absurd (Classical.not_not.mp h44) (by decide)
                    | exact absurd rfl h44
                    | skip
                      fail
              · rw [if_neg (show ¬ nI 3 = 0 by decide), if_neg z, if_neg (show ¬ nI 3 = 1 by decide), if_neg (show ¬ nI 3 = 2 by decide)]
                cases ob with
                | true =>
                  rw [if_pos rfl]
                  refine pr_seqT (pc' := 44) 1 rfl ⟨trivial, trivial⟩ ?_
                  try simp only [q4, u1, u4, u5, u6, pr_8_100, pr_8_m4, pr_i_0, pr_i_1, pr_i_2, pr_i_3, pr_i_m1]
                  refine pr_ifT rfl (fun h44 => ?_) (fun h44 => ?_)
                  · simp only [ab_cmp, pr_8_100, pr_8_m4, pr_i_0, pr_i_1, pr_i_2, pr_i_3, pr_i_m1] at h44
                    first
                    | contradiction
                    | exact absurd trivial h44
                    | exact absurd h44 (by decide)
                    | exact absurd (Classical.not_not.mp h44) (by decide)
                    | skip
                      refine pr_seqT (pc' := 62) 3 rfl ⟨⟨⟨trivial, (by first | assumption | (simp only [q4, u1, u4, u5, u6, pr_8_100, pr_8_m4, pr_i_0, pr_i_1, pr_i_2, pr_i_3, pr_i_m1]; first | assumption | decide | exact ⟨by assumption, by assumption⟩ | exact ⟨Or.inl (by assumption), by assumption⟩ | omega) | decide | exact ⟨Or.inl (by assumption), by assumption⟩ | exact ⟨by assumption, by assumption⟩ | omega)⟩, (by first | assumption | (simp only [q4, u1, u4, u5, u6, pr_8_100, pr_8_m4, pr_i_0, pr_i_1, pr_i_2, pr_i_3, pr_i_m1]; first | assumption | decide | exact ⟨by assumption, by assumption⟩ | exact ⟨Or.inl (by assumption), by assumption⟩ | omega) | decide | exact ⟨Or.inl (by assumption), by assumption⟩ | exact ⟨by assumption, by assumption⟩ | omega)⟩, (by first | assumption | (simp only [q4, u1, u4, u5, u6, pr_8_100, pr_8_m4, pr_i_0, pr_i_1, pr_i_2, pr_i_3, pr_i_m1]; first | assumption | decide | exact ⟨by assumption, by assumption⟩ | exact ⟨Or.inl (by assumption), by assumption⟩ | omega) | decide | exact ⟨Or.inl (by assumption), by assumption⟩ | exact ⟨by assumption, by assumption⟩ | omega)⟩ ?_
                      try simp only [q4, u1, u4, u5, u6, pr_8_100, pr_8_m4, pr_i_0, pr_i_1, pr_i_2, pr_i_3, pr_i_m1]
                      refine pr_ifT rfl (fun h62 => ?_) (fun h62 => ?_)
                      · simp only [ab_cmp, pr_8_100, pr_8_m4, pr_i_0, pr_i_1, pr_i_2, pr_i_3, pr_i_m1] at h62
                        first
                        | contradiction
                        | exact absurd trivial h62
                        | exact absurd h62 (by decide)
                        | exact absurd (Classical.not_not.mp h62) (by decide)
                        | skip
                          refine pr_seqT (pc' := 70) 2 rfl ⟨⟨trivial, trivial⟩, trivial⟩ ?_
                          try simp only [q4, u1, u4, u5, u6, pr_8_100, pr_8_m4, pr_i_0, pr_i_1, pr_i_2, pr_i_3, pr_i_m1]
                          refine pr_icT rfl (fun h70 => ?_) (fun h70 => ?_)
                          · simp only [ab_cmp, pr_8_100, pr_8_m4, pr_i_0, pr_i_1, pr_i_2, pr_i_3, pr_i_m1] at h70
                            first
                            | contradiction
                            | exact absurd trivial h70
                            | exact absurd h70 (by decide)
                            | exact absurd (Classical.not_not.mp h70) (by decide)
                            | skip
                              refine pr_seqT (pc' := 94) 2 rfl ⟨⟨trivial, trivial⟩, trivial⟩ ?_
                              try simp only [q4, u1, u4, u5, u6, pr_8_100, pr_8_m4, pr_i_0, pr_i_1, pr_i_2, pr_i_3, pr_i_m1]
                              refine pr_icT rfl (fun h94 => ?_) (fun h94 => ?_)
                              · simp only [ab_cmp, pr_8_100, pr_8_m4, pr_i_0, pr_i_1, pr_i_2, pr_i_3, pr_i_m1] at h94
                                first
                                | contradiction
                                | exact absurd trivial h94
                                | exact absurd h94 (by decide)
                                | exact absurd (Classical.not_not.mp h94) (by decide)
                                | skip
                                  refine pr_seqT (pc' := 127) 3 rfl ⟨⟨⟨trivial, (by first | assumption | (simp only [q4, u1, u4, u5, u6, pr_8_100, pr_8_m4, pr_i_0, pr_i_1, pr_i_2, pr_i_3, pr_i_m1]; first | assumption | decide | exact ⟨by assumption, by assumption⟩ | exact ⟨Or.inl (by assumption), by assumption⟩ | omega) | decide | exact ⟨Or.inl (by assumption), by assumption⟩ | exact ⟨by assumption, by assumption⟩ | omega)⟩, (by first | assumption | (simp only [q4, u1, u4, u5, u6, pr_8_100, pr_8_m4, pr_i_0, pr_i_1, pr_i_2, pr_i_3, pr_i_m1]; first | assumption | decide | exact ⟨by assumption, by assumption⟩ | exact ⟨Or.inl (by assumption), by assumption⟩ | omega) | decide | exact ⟨Or.inl (by assumption), by assumption⟩ | exact ⟨by assumption, by assumption⟩ | omega)⟩, (by first | assumption | (simp only [q4, u1, u4, u5, u6, pr_8_100, pr_8_m4, pr_i_0, pr_i_1, pr_i_2, pr_i_3, pr_i_m1]; first | assumption | decide | exact ⟨by assumption, by assumption⟩ | exact ⟨Or.inl (by assumption), by assumption⟩ | omega) | decide | exact ⟨Or.inl (by assumption), by assumption⟩ | exact ⟨by assumption, by assumption⟩ | omega)⟩ ?_
                                  try simp only [q4, u1, u4, u5, u6, pr_8_100, pr_8_m4, pr_i_0, pr_i_1, pr_i_2, pr_i_3, pr_i_m1]
                                  refine pr_ifT rfl (fun h127 => ?_) (fun h127 => ?_)
                                  · simp only [ab_cmp, pr_8_100, pr_8_m4, pr_i_0, pr_i_1, pr_i_2, pr_i_3, pr_i_m1] at h127
                                    first
                                    | contradiction
                                    | exact absurd trivial h127
                                    | exact absurd h127 (by decide)
                                    | exact absurd (Classical.not_not.mp h127) (by decide)
                                    | skip
                                      refine pr_seqT (pc' := 142) 1 rfl ⟨trivial, trivial⟩ ?_
                                      try simp only [q4, u1, u4, u5, u6, pr_8_100, pr_8_m4, pr_i_0, pr_i_1, pr_i_2, pr_i_3, pr_i_m1]
                                      exact pr_irT rfl trivial (done _)
                                  · simp only [ab_cmp, pr_8_100, pr_8_m4, pr_i_0, pr_i_1, pr_i_2, pr_i_3, pr_i_m1] at h127
                                    first
                                    | contradiction
                                    | exact absurd trivial h127
                                    | exact absurd h127 (by decide)
                                    | exact absurd (Classical.not_not.mp h127) (by decide)
                                    | skip
                                      refine pr_seqT (pc' := 142) 4 rfl ⟨⟨⟨⟨trivial, (by first | assumption | (simp only [q4, u1, u4, u5, u6, pr_8_100, pr_8_m4, pr_i_0, pr_i_1, pr_i_2, pr_i_3, pr_i_m1]; first | assumption | decide | exact ⟨by assumption, by assumption⟩ | exact ⟨Or.inl (by assumption), by assumption⟩ | omega) | decide | exact ⟨Or.inl (by assumption), by assumption⟩ | exact ⟨by assumption, by assumption⟩ | omega)⟩, (by first | assumption | (simp only [q4, u1, u4, u5, u6, pr_8_100, pr_8_m4, pr_i_0, pr_i_1, pr_i_2, pr_i_3, pr_i_m1]; first | assumption | decide | exact ⟨by assumption, by assumption⟩ | exact ⟨Or.inl (by assumption), by assumption⟩ | omega) | decide | exact ⟨Or.inl (by assumption), by assumption⟩ | exact ⟨by assumption, by assumption⟩ | omega)⟩, (by first | assumption | (simp only [q4, u1, u4, u5, u6, pr_8_100, pr_8_m4, pr_i_0, pr_i_1, pr_i_2, pr_i_3, pr_i_m1]; first | assumption | decide | exact ⟨by assumption, by assumption⟩ | exact ⟨Or.inl (by assumption), by assumption⟩ | omega) | decide | exact ⟨Or.inl (by assumption), by assumption⟩ | exact ⟨by assumption, by assumption⟩ | omega)⟩, trivial⟩ ?_
                                      try simp only [q4, u1, u4, u5, u6, pr_8_100, pr_8_m4, pr_i_0, pr_i_1, pr_i_2, pr_i_3, pr_i_m1]
                                      exact pr_irT rfl trivial (done _)
                              · simp only [ab_cmp, pr_8_100, pr_8_m4, pr_i_0, pr_i_1, pr_i_2, pr_i_3, pr_i_m1] at h94
                                first
                                | contradiction
                                | exact absurd trivial h94
                                | exact absurd h94 (by decide)
                                | exact absurd (Classical.not_not.mp h94) (by decide)
                                | skip
                                  fail
                          · simp only [ab_cmp, pr_8_100, pr_8_m4, pr_i_0, pr_i_1, pr_i_2, pr_i_3, pr_i_m1] at h70
                            first
                            | contradiction
                            | exact absurd trivial h70
                            | exact absurd h70 (by decide)
                            | exact absurd (Classical.not_not.mp h70) (by decide)
                            | skip
                              fail
                      · simp only [ab_cmp, pr_8_100, pr_8_m4, pr_i_0, pr_i_1, pr_i_2, pr_i_3, pr_i_m1] at h62
                        first
                        | contradiction
                        | exact absurd trivial h62
                        | exact absurd h62 (by decide)
                        | exact absurd (Classical.not_not.mp h62) (by decide)
                        | skip
                          refine pr_seqT (pc' := 67) 1 rfl ⟨trivial, trivial⟩ ?_
                          try simp only [q4, u1, u4, u5, u6, pr_8_100, pr_8_m4, pr_i_0, pr_i_1, pr_i_2, pr_i_3, pr_i_m1]
                          exact pr_irT rfl trivial (by first | rfl | (simp only [q4, u1, u4, u5, u6, pr_8_100, pr_8_m4, pr_i_0, pr_i_1, pr_i_2, pr_i_3, pr_i_m1]; done) | (simp [pr_b, pr_8_100, pr_8_m4, pr_i_0, pr_i_1, pr_i_2, pr_i_3, pr_i_m1, *]; done) | (simp_all [pr_b, pr_8_100, pr_8_m4, pr_i_0, pr_i_1, pr_i_2, pr_i_3, pr_i_m1]; done))
                  · simp only [ab_cmp, pr_8_100, pr_8_m4, pr_i_0, pr_i_1, pr_i_2, pr_i_3, pr_i_m1] at h44
                    first
                    | contradiction
                    | exact absurd trivial h44
                    | exact absurd h44 (by decide)
                    | exact absurd (Classical.not_not.mp h44) (by decide)
                    | skip
                      fail
                | false =>
                  rw [if_neg (by decide)]
                  refine pr_seqT (pc' := 44) 1 rfl ⟨trivial, trivial⟩ ?_
                  try simp only [q4, u1, u4, u5, u6, pr_8_100, pr_8_m4, pr_i_0, pr_i_1, pr_i_2, pr_i_3, pr_i_m1]
                  refine pr_ifT rfl (fun h44 => ?_) (fun h44 => ?_)
                  · simp only [ab_cmp, pr_8_100, pr_8_m4, pr_i_0, pr_i_1, pr_i_2, pr_i_3, pr_i_m1] at h44
                    first
                    | contradiction
                    | exact absurd trivial h44
                    | exact absurd h44 (by decide)
                    | exact absurd (Classical.not_not.mp h44) (by decide)
                    | skip
                      refine pr_seqT (pc' := 62) 3 rfl ⟨⟨⟨trivial, (by first | assumption | (simp only [q4, u1, u4, u5, u6, pr_8_100, pr_8_m4, pr_i_0, pr_i_1, pr_i_2, pr_i_3, pr_i_m1]; first | assumption | decide | exact ⟨by assumption, by assumption⟩ | exact ⟨Or.inl (by assumption), by assumption⟩ | omega) | decide | exact ⟨Or.inl (by assumption), by assumption⟩ | exact ⟨by assumption, by assumption⟩ | omega)⟩, (by first | assumption | (simp only [q4, u1, u4, u5, u6, pr_8_100, pr_8_m4, pr_i_0, pr_i_1, pr_i_2, pr_i_3, pr_i_m1]; first | assumption | decide | exact ⟨by assumption, by assumption⟩ | exact ⟨Or.inl (by assumption), by assumption⟩ | omega) | decide | exact ⟨Or.inl (by assumption), by assumption⟩ | exact ⟨by assumption, by assumption⟩ | omega)⟩, (by first | assumption | (simp only [q4, u1, u4, u5, u6, pr_8_100, pr_8_m4, pr_i_0, pr_i_1, pr_i_2, pr_i_3, pr_i_m1]; first | assumption | decide | exact ⟨by assumption, by assumption⟩ | exact ⟨Or.inl (by assumption), by assumption⟩ | omega) | decide | exact ⟨Or.inl (by assumption), by assumption⟩ | exact ⟨by assumption, by assumption⟩ | omega)⟩ ?_
                      try simp only [q4, u1, u4, u5, u6, pr_8_100, pr_8_m4, pr_i_0, pr_i_1, pr_i_2, pr_i_3, pr_i_m1]
                      refine pr_ifT rfl (fun h62 => ?_) (fun h62 => ?_)
                      · simp only [ab_cmp, pr_8_100, pr_8_m4, pr_i_0, pr_i_1, pr_i_2, pr_i_3, pr_i_m1] at h62
                        first
                        | contradiction
                        | exact absurd trivial h62
                        | exact absurd h62 (by decide)
                        | exact absurd (Classical.not_not.mp h62) (by decide)
                        | skip
                          refine pr_seqT (pc' := 70) 2 rfl ⟨⟨trivial, trivial⟩, trivial⟩ ?_
                          try simp only [q4, u1, u4, u5, u6, pr_8_100, pr_8_m4, pr_i_0, pr_i_1, pr_i_2, pr_i_3, pr_i_m1]
                          refine pr_icT rfl (fun h70 => ?_) (fun h70 => ?_)
                          · simp only [ab_cmp, pr_8_100, pr_8_m4, pr_i_0, pr_i_1, pr_i_2, pr_i_3, pr_i_m1] at h70
                            first
                            | contradiction
                            | exact absurd trivial h70
                            | exact absurd h70 (by decide)
                            | exact absurd (Classical.not_not.mp h70) (by decide)
                            | skip
                              refine pr_seqT (pc' := 94) 2 rfl ⟨⟨trivial, trivial⟩, trivial⟩ ?_
                              try simp only [q4, u1, u4, u5, u6, pr_8_100, pr_8_m4, pr_i_0, pr_i_1, pr_i_2, pr_i_3, pr_i_m1]
                              refine pr_icT rfl (fun h94 => ?_) (fun h94 => ?_)
                              · simp only [ab_cmp, pr_8_100, pr_8_m4, pr_i_0, pr_i_1, pr_i_2, pr_i_3, pr_i_m1] at h94
                                first
                                | contradiction
                                | exact absurd trivial h94
                                | exact absurd h94 (by decide)
                                | exact absurd (Classical.not_not.mp h94) (by decide)
                                | skip
                                  refine pr_seqT (pc' := 127) 3 rfl ⟨⟨⟨trivial, (by first | assumption | (simp only [q4, u1, u4, u5, u6, pr_8_100, pr_8_m4, pr_i_0, pr_i_1, pr_i_2, pr_i_3, pr_i_m1]; first | assumption | decide | exact ⟨by assumption, by assumption⟩ | exact ⟨Or.inl (by assumption), by assumption⟩ | omega) | decide | exact ⟨Or.inl (by assumption), by assumption⟩ | exact ⟨by assumption, by assumption⟩ | omega)⟩, (by first | assumption | (simp only [q4, u1, u4, u5, u6, pr_8_100, pr_8_m4, pr_i_0, pr_i_1, pr_i_2, pr_i_3, pr_i_m1]; first | assumption | decide | exact ⟨by assumption, by assumption⟩ | exact ⟨Or.inl (by assumption), by assumption⟩ | omega) | decide | exact ⟨Or.inl (by assumption), by assumption⟩ | exact ⟨by assumption, by assumption⟩ | omega)⟩, (by first | assumption | (simp only [q4, u1, u4, u5, u6, pr_8_100, pr_8_m4, pr_i_0, pr_i_1, pr_i_2, pr_i_3, pr_i_m1]; first | assumption | decide | exact ⟨by assumption, by assumption⟩ | exact ⟨Or.inl (by assumption), by assumption⟩ | omega) | decide | exact ⟨Or.inl (by assumption), by assumption⟩ | exact ⟨by assumption, by assumption⟩ | omega)⟩ ?_
                                  try simp only [q4, u1, u4, u5, u6, pr_8_100, pr_8_m4, pr_i_0, pr_i_1, pr_i_2, pr_i_3, pr_i_m1]
                                  refine pr_ifT rfl (fun h127 => ?_) (fun h127 => ?_)
                                  · simp only [ab_cmp, pr_8_100, pr_8_m4, pr_i_0, pr_i_1, pr_i_2, pr_i_3, pr_i_m1] at h127
                                    first
                                    | contradiction
                                    | exact absurd trivial h127
                                    | exact absurd h127 (by decide)
                                    | exact absurd (Classical.not_not.mp h127) (by decide)
                                    | skip
                                      refine pr_seqT (pc' := 142) 1 rfl ⟨trivial, trivial⟩ ?_
                                      try simp only [q4, u1, u4, u5, u6, pr_8_100, pr_8_m4, pr_i_0, pr_i_1, pr_i_2, pr_i_3, pr_i_m1]
                                      exact pr_irT rfl trivial (done _)
                                  · simp only [ab_cmp, pr_8_100, pr_8_m4, pr_i_0, pr_i_1, pr_i_2, pr_i_3, pr_i_m1] at h127
                                    first
                                    | contradiction
                                    | exact absurd trivial h127
                                    | exact absurd h127 (by decide)
                                    | exact absurd (Classical.not_not.mp h127) (by decide)
                                    | skip
                                      refine pr_seqT (pc' := 142) 4 rfl ⟨⟨⟨⟨trivial, (by first | assumption | (simp only [q4, u1, u4, u5, u6, pr_8_100, pr_8_m4, pr_i_0, pr_i_1, pr_i_2, pr_i_3, pr_i_m1]; first | assumption | decide | exact ⟨by assumption, by assumption⟩ | exact ⟨Or.inl (by assumption), by assumption⟩ | omega) | decide | exact ⟨Or.inl (by assumption), by assumption⟩ | exact ⟨by assumption, by assumption⟩ | omega)⟩, (by first | assumption | (simp only [q4, u1, u4, u5, u6, pr_8_100, pr_8_m4, pr_i_0, pr_i_1, pr_i_2, pr_i_3, pr_i_m1]; first | assumption | decide | exact ⟨by assumption, by assumption⟩ | exact ⟨Or.inl (by assumption), by assumption⟩ | omega) | decide | exact ⟨Or.inl (by assumption), by assumption⟩ | exact ⟨by assumption, by assumption⟩ | omega)⟩, (by first | assumption | (simp only [q4, u1, u4, u5, u6, pr_8_100, pr_8_m4, pr_i_0, pr_i_1, pr_i_2, pr_i_3, pr_i_m1]; first | assumption | decide | exact ⟨by assumption, by assumption⟩ | exact ⟨Or.inl (by assumption), by assumption⟩ | omega) | decide | exact ⟨Or.inl (by assumption), by assumption⟩ | exact ⟨by assumption, by assumption⟩ | omega)⟩, trivial⟩ ?_
                                      try simp only [q4, u1, u4, u5, u6, pr_8_100, pr_8_m4, pr_i_0, pr_i_1, pr_i_2, pr_i_3, pr_i_m1]
                                      exact pr_irT rfl trivial (done _)
                              · simp only [ab_cmp, pr_8_100, pr_8_m4, pr_i_0, pr_i_1, pr_i_2, pr_i_3, pr_i_m1] at h94
                                first
                                | contradiction
                                | exact absurd trivial h94
                                | exact absurd h94 (by decide)
                                | exact absurd (Classical.not_not.mp h94) (by decide)
                                | skip
                                  fail
                          · simp only [ab_cmp, pr_8_100, pr_8_m4, pr_i_0, pr_i_1, pr_i_2, pr_i_3, pr_i_m1] at h70
                            first
                            | contradiction
                            | exact absurd trivial h70
                            | exact absurd h70 (by decide)
                            | exact absurd (Classical.not_not.mp h70) (by decide)
                            | skip
                              fail
                      · simp only [ab_cmp, pr_8_100, pr_8_m4, pr_i_0, pr_i_1, pr_i_2, pr_i_3, pr_i_m1] at h62
                        first
                        | contradiction
                        | exact absurd trivial h62
                        | exact absurd h62 (by decide)
                        | exact absurd (Classical.not_not.mp h62) (by decide)
                        | skip
                          refine pr_seqT (pc' := 67) 1 rfl ⟨trivial, trivial⟩ ?_
                          try simp only [q4, u1, u4, u5, u6, pr_8_100, pr_8_m4, pr_i_0, pr_i_1, pr_i_2, pr_i_3, pr_i_m1]
                          exact pr_irT rfl trivial (by first | rfl | (simp only [q4, u1, u4, u5, u6, pr_8_100, pr_8_m4, pr_i_0, pr_i_1, pr_i_2, pr_i_3, pr_i_m1]; done) | (simp [pr_b, pr_8_100, pr_8_m4, pr_i_0, pr_i_1, pr_i_2, pr_i_3, pr_i_m1, *]; done) | (simp_all [pr_b, pr_8_100, pr_8_m4, pr_i_0, pr_i_1, pr_i_2, pr_i_3, pr_i_m1]; done))
                  · simp only [ab_cmp, pr_8_100, pr_8_m4, pr_i_0, pr_i_1, pr_i_2, pr_i_3, pr_i_m1] at h44
                    first
                    | contradiction
                    | exact absurd trivial h44
                    | exact absurd h44 (by decide)
                    | exact absurd (Classical.not_not.mp h44) (by decide)
                    | skip
                      fail
          refine pr_seqT (pc' := 1) 1 rfl ⟨trivial, trivial⟩ ?_
          try simp only [r9, r0, r1, r2, r3, s1, s2, q0, q1, rc, q3, q4, q5, q6, q7, q8, pr_8_100, pr_8_m4, pr_i_0, pr_i_1, pr_i_2, pr_i_3, pr_i_m1]
          refine pr_csT [_] rfl rfl rfl rfl rfl (Nat.le_of_ble_eq_true rfl) (Nat.le_of_ble_eq_true rfl) (hx) ?_
          refine pr_ifT rfl (fun h4 => ?_) (fun h4 => ?_)
          · simp only [ab_cmp, pr_8_100, pr_8_m4, pr_i_0, pr_i_1, pr_i_2, pr_i_3, pr_i_m1] at h4
            first
            | contradiction
            | exact absurd trivial h4
            | exact absurd h4 (by decide)
            | exact absurd (Classical.not_not.mp h4) (by decide)
            | skip
              refine pr_seqT (pc' := 29) 1 rfl ⟨trivial, trivial⟩ ?_
              try simp only [r9, r0, r1, r2, r3, s1, s2, q0, q1, rc, q3, q4, q5, q6, q7, q8, pr_8_100, pr_8_m4, pr_i_0, pr_i_1, pr_i_2, pr_i_3, pr_i_m1]
              exact pr_irT rfl trivial (by first | rfl | (simp only [r9, r0, r1, r2, r3, s1, s2, q0, q1, rc, q3, q4, q5, q6, q7, q8, pr_8_100, pr_8_m4, pr_i_0, pr_i_1, pr_i_2, pr_i_3, pr_i_m1]; done) | (simp [pr_b, pr_8_100, pr_8_m4, pr_i_0, pr_i_1, pr_i_2, pr_i_3, pr_i_m1, *]; done) | (simp_all [pr_b, pr_8_100, pr_8_m4, pr_i_0, pr_i_1, pr_i_2, pr_i_3, pr_i_m1]; done))
          · simp only [ab_cmp, pr_8_100, pr_8_m4, pr_i_0, pr_i_1, pr_i_2, pr_i_3, pr_i_m1] at h4
            first
            | contradiction
            | exact absurd trivial h4
            | exact absurd h4 (by decide)
            | exact absurd (Classical.not_not.mp h4) (by decide)
            | skip
              refine pr_seqT (pc' := 8) 1 rfl ⟨trivial, trivial⟩ ?_
              try simp only [r9, r0, r1, r2, r3, s1, s2, q0, q1, rc, q3, q4, q5, q6, q7, q8, pr_8_100, pr_8_m4, pr_i_0, pr_i_1, pr_i_2, pr_i_3, pr_i_m1]
              refine pr_csT [_] rfl rfl rfl rfl rfl (Nat.le_of_ble_eq_true rfl) (Nat.le_of_ble_eq_true rfl) (hy) ?_
              refine pr_ifT rfl (fun h11 => ?_) (fun h11 => ?_)
              · simp only [ab_cmp, pr_8_100, pr_8_m4, pr_i_0, pr_i_1, pr_i_2, pr_i_3, pr_i_m1] at h11
                first
                | contradiction
                | exact absurd trivial h11
                | exact absurd h11 (by decide)
                | exact absurd (Classical.not_not.mp h11) (by decide)
                | skip
                  refine pr_seqT (pc' := 29) 1 rfl ⟨trivial, trivial⟩ ?_
                  try simp only [r9, r0, r1, r2, r3, s1, s2, q0, q1, rc, q3, q4, q5, q6, q7, q8, pr_8_100, pr_8_m4, pr_i_0, pr_i_1, pr_i_2, pr_i_3, pr_i_m1]
                  exact pr_irT rfl trivial (by first | rfl | (simp only [r9, r0, r1, r2, r3, s1, s2, q0, q1, rc, q3, q4, q5, q6, q7, q8, pr_8_100, pr_8_m4, pr_i_0, pr_i_1, pr_i_2, pr_i_3, pr_i_m1]; done) | (simp [pr_b, pr_8_100, pr_8_m4, pr_i_0, pr_i_1, pr_i_2, pr_i_3, pr_i_m1, *]; done) | (simp_all [pr_b, pr_8_100, pr_8_m4, pr_i_0, pr_i_1, pr_i_2, pr_i_3, pr_i_m1]; done))
              · simp only [ab_cmp, pr_8_100, pr_8_m4, pr_i_0, pr_i_1, pr_i_2, pr_i_3, pr_i_m1] at h11
                first
                | contradiction
                | exact absurd trivial h11
                | exact absurd h11 (by decide)
                | exact absurd (Classical.not_not.mp h11) (by decide)
                | skip
                  refine pr_seqT (pc' := 16) 2 rfl ⟨⟨trivial, trivial⟩, trivial⟩ ?_
                  try simp only [r9, r0, r1, r2, r3, s1, s2, q0, q1, rc, q3, q4, q5, q6, q7, q8, pr_8_100, pr_8_m4, pr_i_0, pr_i_1, pr_i_2, pr_i_3, pr_i_m1]
                  refine pr_icT rfl (fun h16 => ?_) (fun h16 => ?_)
                  · simp only [ab_cmp, pr_8_100, pr_8_m4, pr_i_0, pr_i_1, pr_i_2, pr_i_3, pr_i_m1] at h16
                    first
                    | contradiction
                    | exact absurd trivial h16
                    | exact absurd h16 (by decide)
                    | exact absurd (Classical.not_not.mp h16) (by decide)
                    | skip
                      refine pr_seqT (pc' := 29) 1 rfl ⟨trivial, trivial⟩ ?_
                      try simp only [r9, r0, r1, r2, r3, s1, s2, q0, q1, rc, q3, q4, q5, q6, q7, q8, pr_8_100, pr_8_m4, pr_i_0, pr_i_1, pr_i_2, pr_i_3, pr_i_m1]
                      exact pr_irT rfl trivial (by first | rfl | (simp only [r9, r0, r1, r2, r3, s1, s2, q0, q1, rc, q3, q4, q5, q6, q7, q8, pr_8_100, pr_8_m4, pr_i_0, pr_i_1, pr_i_2, pr_i_3, pr_i_m1]; done) | (simp [pr_b, pr_8_100, pr_8_m4, pr_i_0, pr_i_1, pr_i_2, pr_i_3, pr_i_m1, *]; done) | (simp_all [pr_b, pr_8_100, pr_8_m4, pr_i_0, pr_i_1, pr_i_2, pr_i_3, pr_i_m1]; done))
                  · simp only [ab_cmp, pr_8_100, pr_8_m4, pr_i_0, pr_i_1, pr_i_2, pr_i_3, pr_i_m1] at h16
                    first
                    | contradiction
                    | exact absurd trivial h16
                    | exact absurd h16 (by decide)
                    | exact absurd (Classical.not_not.mp h16) (by decide)
                    | skip
                      refine pr_seqT (pc' := 22) 3 rfl ⟨⟨⟨trivial, trivial⟩, trivial⟩, trivial⟩ ?_
                      try simp only [r9, r0, r1, r2, r3, s1, s2, q0, q1, rc, q3, q4, q5, q6, q7, q8, pr_8_100, pr_8_m4, pr_i_0, pr_i_1, pr_i_2, pr_i_3, pr_i_m1]
                      refine pr_csT [_, _, _] rfl rfl rfl rfl rfl (Nat.le_of_ble_eq_true rfl) (Nat.le_of_ble_eq_true rfl) (hw) ?_
                      refine pr_ifT rfl (fun h25 => ?_) (fun h25 => ?_)
                      · simp only [ab_cmp, pr_8_100, pr_8_m4, pr_i_0, pr_i_1, pr_i_2, pr_i_3, pr_i_m1] at h25
                        first
                        | contradiction
                        | exact absurd trivial h25
                        | exact absurd h25 (by decide)
                        | exact absurd (Classical.not_not.mp h25) (by decide)
                        | skip
                          refine pr_seqT (pc' := 40) 6 rfl ⟨⟨⟨⟨⟨⟨trivial, (by first | assumption | (simp only [r9, r0, r1, r2, r3, s1, s2, q0, q1, rc, q3, q4, q5, q6, q7, q8, pr_8_100, pr_8_m4, pr_i_0, pr_i_1, pr_i_2, pr_i_3, pr_i_m1]; first | assumption | decide | exact ⟨by assumption, by assumption⟩ | exact ⟨Or.inl (by assumption), by assumption⟩ | omega) | decide | exact ⟨Or.inl (by assumption), by assumption⟩ | exact ⟨by assumption, by assumption⟩ | omega)⟩, (by first | assumption | (simp only [r9, r0, r1, r2, r3, s1, s2, q0, q1, rc, q3, q4, q5, q6, q7, q8, pr_8_100, pr_8_m4, pr_i_0, pr_i_1, pr_i_2, pr_i_3, pr_i_m1]; first | assumption | decide | exact ⟨by assumption, by assumption⟩ | exact ⟨Or.inl (by assumption), by assumption⟩ | omega) | decide | exact ⟨Or.inl (by assumption), by assumption⟩ | exact ⟨by assumption, by assumption⟩ | omega)⟩, (by first | assumption | (simp only [r9, r0, r1, r2, r3, s1, s2, q0, q1, rc, q3, q4, q5, q6, q7, q8, pr_8_100, pr_8_m4, pr_i_0, pr_i_1, pr_i_2, pr_i_3, pr_i_m1]; first | assumption | decide | exact ⟨by assumption, by assumption⟩ | exact ⟨Or.inl (by assumption), by assumption⟩ | omega) | decide | exact ⟨Or.inl (by assumption), by assumption⟩ | exact ⟨by assumption, by assumption⟩ | omega)⟩, (by first | assumption | (simp only [r9, r0, r1, r2, r3, s1, s2, q0, q1, rc, q3, q4, q5, q6, q7, q8, pr_8_100, pr_8_m4, pr_i_0, pr_i_1, pr_i_2, pr_i_3, pr_i_m1]; first | assumption | decide | exact ⟨by assumption, by assumption⟩ | exact ⟨Or.inl (by assumption), by assumption⟩ | omega) | decide | exact ⟨Or.inl (by assumption), by assumption⟩ | exact ⟨by assumption, by assumption⟩ | omega)⟩, trivial⟩, trivial⟩ ?_
                          try simp only [r9, r0, r1, r2, r3, s1, s2, q0, q1, rc, q3, q4, q5, q6, q7, q8, pr_8_100, pr_8_m4, pr_i_0, pr_i_1, pr_i_2, pr_i_3, pr_i_m1]
                          refine pr_cvX [_, _, _] rfl rfl rfl rfl rfl (Nat.le_of_ble_eq_true rfl) (by first | assumption | (simp only [r9, r0, r1, r2, r3, s1, s2, q0, q1, rc, q3, q4, q5, q6, q7, q8, pr_8_100, pr_8_m4, pr_i_0, pr_i_1, pr_i_2, pr_i_3, pr_i_m1]; first | assumption | decide | exact ⟨by assumption, by assumption⟩ | exact ⟨Or.inl (by assumption), by assumption⟩ | omega) | decide | exact ⟨Or.inl (by assumption), by assumption⟩ | exact ⟨by assumption, by assumption⟩ | omega) (Nat.le_of_ble_eq_true rfl) (hfd) (fun v40 M40 q40 => ?_)
                          obtain ⟨rfl, z2, z3, z4⟩ := q40
                          obtain ⟨I1, Z1⟩ := M40
                          dsimp only at z2 z3 z4
                          subst z2
                          exact key I1 z3 z4
                      · simp only [ab_cmp, pr_8_100, pr_8_m4, pr_i_0, pr_i_1, pr_i_2, pr_i_3, pr_i_m1] at h25
                        first
                        | contradiction
                        | exact absurd trivial h25
                        | exact absurd h25 (by decide)
                        | exact absurd (Classical.not_not.mp h25) (by decide)
                        | skip
                          refine pr_seqT (pc' := 29) 1 rfl ⟨trivial, trivial⟩ ?_
                          try simp only [r9, r0, r1, r2, r3, s1, s2, q0, q1, rc, q3, q4, q5, q6, q7, q8, pr_8_100, pr_8_m4, pr_i_0, pr_i_1, pr_i_2, pr_i_3, pr_i_m1]
                          exact pr_irT rfl trivial (by first | rfl | (simp only [r9, r0, r1, r2, r3, s1, s2, q0, q1, rc, q3, q4, q5, q6, q7, q8, pr_8_100, pr_8_m4, pr_i_0, pr_i_1, pr_i_2, pr_i_3, pr_i_m1]; done) | (simp [pr_b, pr_8_100, pr_8_m4, pr_i_0, pr_i_1, pr_i_2, pr_i_3, pr_i_m1, *]; done) | (simp_all [pr_b, pr_8_100, pr_8_m4, pr_i_0, pr_i_1, pr_i_2, pr_i_3, pr_i_m1]; done))
