
/-! ===== the lines fee, letter, known ===== -/
theorem c_tellFee {t p s : Nat} {w : List Nat} {P : PS} (h : ab_H) (M : ab_M) (ht5 : 5 < t) (hr : pr_Rd h M.2.2 t) (ht : pr_Tl h M.2.2 t) (hw : tp_v M.1 w) (hps : ps_v M.1 t P) (g5 : M.1 4 5 = nI p) (g7 : M.1 4 7 = nI s) (hp : p ≤ w.length) : pr_X pX6_tellFee [.ref 4] h M (ln_p t M (lnFee w P s p)) := by
  obtain ⟨k4, r0, r1, r2, ⟨k2, s0, k3, l3⟩, k5, l5⟩ := id hr
  obtain ⟨t0, t1, tr0, tr1, tr2, tr3, hg, -⟩ := id ht
  obtain ⟨g0, g1, -⟩ := id hg
  have n4 : (4 : Nat) ≠ 0 := by decide
  obtain ⟨p1, p2, p3, p4⟩ := id hps
  unfold lnFee
  cases hb : P.2.2.1 with
  | true =>
    rw [hb] at p3
    have p3 : M.1 4 4 = 1 := p3
    rw [if_pos rfl]
    refine pr_seqT (pc' := 4) 2 rfl ⟨⟨trivial, (by first | assumption | (simp only [p3, g7, pr_8_9, pr_i_0, pr_i_1, pr_i_4]; first | assumption | decide | exact ⟨by assumption, by assumption⟩ | exact ⟨Or.inl (by assumption), by assumption⟩ | omega) | decide | exact ⟨Or.inl (by assumption), by assumption⟩ | exact ⟨by assumption, by assumption⟩ | omega)⟩, (by first | assumption | (simp only [p3, g7, pr_8_9, pr_i_0, pr_i_1, pr_i_4]; first | assumption | decide | exact ⟨by assumption, by assumption⟩ | exact ⟨Or.inl (by assumption), by assumption⟩ | omega) | decide | exact ⟨Or.inl (by assumption), by assumption⟩ | exact ⟨by assumption, by assumption⟩ | omega)⟩ ?_
    try simp only [p3, g7, pr_8_9, pr_i_0, pr_i_1, pr_i_4]
    refine pr_ifT rfl (fun h4 => ?_) (fun h4 => ?_)
    · simp only [ab_cmp, pr_8_9, pr_i_0, pr_i_1, pr_i_4] at h4
      first
      | contradiction
      | exact absurd trivial h4
      | exact absurd h4 (by decide)
      | exact absurd (Classical.not_not.mp h4) (by decide)
      | skip
        fail
    · simp only [ab_cmp, pr_8_9, pr_i_0, pr_i_1, pr_i_4] at h4
      first
      | contradiction
      | exact absurd trivial h4
      | exact absurd h4 (by decide)
      | exact absurd (Classical.not_not.mp h4) (by decide)
      | skip
        refine pr_seqT (pc' := 13) 4 rfl ⟨⟨⟨⟨trivial, (by first | assumption | (simp only [p3, g7, pr_8_9, pr_i_0, pr_i_1, pr_i_4]; first | assumption | decide | exact ⟨by assumption, by assumption⟩ | exact ⟨Or.inl (by assumption), by assumption⟩ | omega) | decide | exact ⟨Or.inl (by assumption), by assumption⟩ | exact ⟨by assumption, by assumption⟩ | omega)⟩, trivial⟩, (by first | assumption | (simp only [p3, g7, pr_8_9, pr_i_0, pr_i_1, pr_i_4]; first | assumption | decide | exact ⟨by assumption, by assumption⟩ | exact ⟨Or.inl (by assumption), by assumption⟩ | omega) | decide | exact ⟨Or.inl (by assumption), by assumption⟩ | exact ⟨by assumption, by assumption⟩ | omega)⟩, (by first | assumption | (simp only [p3, g7, pr_8_9, pr_i_0, pr_i_1, pr_i_4]; first | assumption | decide | exact ⟨by assumption, by assumption⟩ | exact ⟨Or.inl (by assumption), by assumption⟩ | omega) | decide | exact ⟨Or.inl (by assumption), by assumption⟩ | exact ⟨by assumption, by assumption⟩ | omega)⟩ ?_
        try simp only [p3, g7, pr_8_9, pr_i_0, pr_i_1, pr_i_4]
        refine pr_cvT [_, _] rfl rfl rfl rfl rfl (Nat.le_of_ble_eq_true rfl) (by first | assumption | (simp only [p3, g7, pr_8_9, pr_i_0, pr_i_1, pr_i_4]; first | assumption | decide | exact ⟨by assumption, by assumption⟩ | exact ⟨Or.inl (by assumption), by assumption⟩ | omega) | decide | exact ⟨Or.inl (by assumption), by assumption⟩ | exact ⟨by assumption, by assumption⟩ | omega) (Nat.le_of_ble_eq_true rfl) (c_refuse 4 (nI s) h M k4) ?_
        exact pr_irT rfl (by first | exact Or.inl rfl | exact Or.inr rfl | exact pr_b01 _ | assumption) (by exact ln_ref (c := 4) (fun _ _ _ _ => rfl))
  | false =>
    rw [hb] at p3
    have p3 : M.1 4 4 = 0 := p3
    rw [if_neg (by decide)]
    have hnum : pr_X pX6_takeNumber [.ref 4, .int 1, .int 9] h (ab_u M.1 4 4 1, M.2.1, M.2.2) (tk_p (fun q I => I 4 8 = nI q.1 ∧ I 4 5 = nI q.2) (ab_u M.1 4 4 1, M.2.1, M.2.2) (tNum w 1 9 p)) := c_takeNumber (lo := 1) (hi := 9) h (ab_u M.1 4 4 1, M.2.1, M.2.2) hr (tp_rd4 (fun a ha => ab_u_ne ha) hw) (by show ab_u M.1 4 4 1 4 5 = _; rw [ab_u_j (by decide)]; exact g5) hp (by decide) (by decide)
    have f0 : rd4 M.1 (ab_u M.1 4 4 1) := fun a ha => ab_u_ne ha
    cases he : tNum w 1 9 p with
    | error q =>
      rw [he] at hnum
      refine pr_seqT (pc' := 4) 2 rfl ⟨⟨trivial, (by first | assumption | (simp only [p3, g7, pr_8_9, pr_i_0, pr_i_1, pr_i_4]; first | assumption | decide | exact ⟨by assumption, by assumption⟩ | exact ⟨Or.inl (by assumption), by assumption⟩ | omega) | decide | exact ⟨Or.inl (by assumption), by assumption⟩ | exact ⟨by assumption, by assumption⟩ | omega)⟩, (by first | assumption | (simp only [p3, g7, pr_8_9, pr_i_0, pr_i_1, pr_i_4]; first | assumption | decide | exact ⟨by assumption, by assumption⟩ | exact ⟨Or.inl (by assumption), by assumption⟩ | omega) | decide | exact ⟨Or.inl (by assumption), by assumption⟩ | exact ⟨by assumption, by assumption⟩ | omega)⟩ ?_
      try simp only [p3, g7, pr_8_9, pr_i_0, pr_i_1, pr_i_4]
      refine pr_ifT rfl (fun h4 => ?_) (fun h4 => ?_)
      · simp only [ab_cmp, pr_8_9, pr_i_0, pr_i_1, pr_i_4] at h4
        first
        | contradiction
        | exact absurd trivial h4
        | exact absurd h4 (by decide)
        | exact absurd (Classical.not_not.mp h4) (by decide)
        | skip
          refine pr_seqT (pc' := 26) 6 rfl ⟨⟨⟨⟨⟨⟨trivial, (by first | assumption | (simp only [p3, g7, pr_8_9, pr_i_0, pr_i_1, pr_i_4]; first | assumption | decide | exact ⟨by assumption, by assumption⟩ | exact ⟨Or.inl (by assumption), by assumption⟩ | omega) | decide | exact ⟨Or.inl (by assumption), by assumption⟩ | exact ⟨by assumption, by assumption⟩ | omega)⟩, trivial⟩, (by exact ⟨k4, Or.inr rfl⟩)⟩, (by first | assumption | (simp only [p3, g7, pr_8_9, pr_i_0, pr_i_1, pr_i_4]; first | assumption | decide | exact ⟨by assumption, by assumption⟩ | exact ⟨Or.inl (by assumption), by assumption⟩ | omega) | decide | exact ⟨Or.inl (by assumption), by assumption⟩ | exact ⟨by assumption, by assumption⟩ | omega)⟩, trivial⟩, trivial⟩ ?_
          try simp only [p3, g7, pr_8_9, pr_i_0, pr_i_1, pr_i_4]
          refine pr_cvX [_, _] rfl rfl rfl rfl rfl (Nat.le_of_ble_eq_true rfl) (by first | assumption | (simp only [p3, g7, pr_8_9, pr_i_0, pr_i_1, pr_i_4]; first | assumption | decide | exact ⟨by assumption, by assumption⟩ | exact ⟨Or.inl (by assumption), by assumption⟩ | omega) | decide | exact ⟨Or.inl (by assumption), by assumption⟩ | exact ⟨by assumption, by assumption⟩ | omega) (Nat.le_of_ble_eq_true rfl) (hnum) (fun v26 M26 q26 => ?_)
          obtain ⟨e2, f1, rfl, h9, h10⟩ := q26
          obtain ⟨I1, Z1⟩ := M26
          dsimp only at e2 f1 h9 h10
          subst e2
          refine pr_ifT rfl (fun h29 => ?_) (fun h29 => ?_)
          · simp only [ab_cmp, pr_8_9, pr_i_0, pr_i_1, pr_i_4] at h29
            first
            | contradiction
            | exact absurd trivial h29
            | exact absurd h29 (by decide)
            | exact absurd (Classical.not_not.mp h29) (by decide)
            | skip
              fail
          · simp only [ab_cmp, pr_8_9, pr_i_0, pr_i_1, pr_i_4] at h29
            first
            | contradiction
            | exact absurd trivial h29
            | exact absurd h29 (by decide)
            | exact absurd (Classical.not_not.mp h29) (by decide)
            | skip
              refine pr_seqT (pc' := 33) 1 rfl ⟨trivial, trivial⟩ ?_
              try simp only [p3, g7, pr_8_9, pr_i_0, pr_i_1, pr_i_4]
              exact pr_irT rfl (by first | exact Or.inl rfl | exact Or.inr rfl | exact pr_b01 _ | assumption) (by exact ln_err (fr_trans (fr_rd4 f0) (fr_rd4 f1)) h9 h10)
      · simp only [ab_cmp, pr_8_9, pr_i_0, pr_i_1, pr_i_4] at h4
        first
        | contradiction
        | exact absurd trivial h4
        | exact absurd h4 (by decide)
        | exact absurd (Classical.not_not.mp h4) (by decide)
        | skip
          fail
    | ok x =>
      obtain ⟨v, p'⟩ := x
      rw [he] at hnum
      obtain ⟨b1, b2, b3, b4, b5⟩ := tNum_ok hp he
      dsimp only
      refine pr_seqT (pc' := 4) 2 rfl ⟨⟨trivial, (by first | assumption | (simp only [p3, g7, r2, tr0, pr_8_9, pr_i_0, pr_i_1, pr_i_4]; first | assumption | decide | exact ⟨by assumption, by assumption⟩ | exact ⟨Or.inl (by assumption), by assumption⟩ | omega) | decide | exact ⟨Or.inl (by assumption), by assumption⟩ | exact ⟨by assumption, by assumption⟩ | omega)⟩, (by first | assumption | (simp only [p3, g7, r2, tr0, pr_8_9, pr_i_0, pr_i_1, pr_i_4]; first | assumption | decide | exact ⟨by assumption, by assumption⟩ | exact ⟨Or.inl (by assumption), by assumption⟩ | omega) | decide | exact ⟨Or.inl (by assumption), by assumption⟩ | exact ⟨by assumption, by assumption⟩ | omega)⟩ ?_
      try simp only [p3, g7, r2, tr0, pr_8_9, pr_i_0, pr_i_1, pr_i_4]
      refine pr_ifT rfl (fun h4 => ?_) (fun h4 => ?_)
      · simp only [ab_cmp, pr_8_9, pr_i_0, pr_i_1, pr_i_4] at h4
        first
        | contradiction
        | exact absurd trivial h4
        | exact absurd h4 (by decide)
        | exact absurd (Classical.not_not.mp h4) (by decide)
        | skip
          refine pr_seqT (pc' := 26) 6 rfl ⟨⟨⟨⟨⟨⟨trivial, (by first | assumption | (simp only [p3, g7, r2, tr0, pr_8_9, pr_i_0, pr_i_1, pr_i_4]; first | assumption | decide | exact ⟨by assumption, by assumption⟩ | exact ⟨Or.inl (by assumption), by assumption⟩ | omega) | decide | exact ⟨Or.inl (by assumption), by assumption⟩ | exact ⟨by assumption, by assumption⟩ | omega)⟩, trivial⟩, (by exact ⟨k4, Or.inr rfl⟩)⟩, (by first | assumption | (simp only [p3, g7, r2, tr0, pr_8_9, pr_i_0, pr_i_1, pr_i_4]; first | assumption | decide | exact ⟨by assumption, by assumption⟩ | exact ⟨Or.inl (by assumption), by assumption⟩ | omega) | decide | exact ⟨Or.inl (by assumption), by assumption⟩ | exact ⟨by assumption, by assumption⟩ | omega)⟩, trivial⟩, trivial⟩ ?_
          try simp only [p3, g7, r2, tr0, pr_8_9, pr_i_0, pr_i_1, pr_i_4]
          refine pr_cvX [_, _] rfl rfl rfl rfl rfl (Nat.le_of_ble_eq_true rfl) (by first | assumption | (simp only [p3, g7, r2, tr0, pr_8_9, pr_i_0, pr_i_1, pr_i_4]; first | assumption | decide | exact ⟨by assumption, by assumption⟩ | exact ⟨Or.inl (by assumption), by assumption⟩ | omega) | decide | exact ⟨Or.inl (by assumption), by assumption⟩ | exact ⟨by assumption, by assumption⟩ | omega) (Nat.le_of_ble_eq_true rfl) (hnum) (fun v26 M26 q26 => ?_)
          obtain ⟨e2, f1, rfl, i3, i4, i9, i8, i5⟩ := q26
          obtain ⟨I1, Z1⟩ := M26
          dsimp only at e2 f1 i3 i4 i9 i8 i5
          subst e2
          have f2 : rd4 M.1 I1 := fun a ha => by rw [f1 a ha, f0 a ha]
          have i4 : I1 4 4 = 1 := by rw [i4, ab_u_at]
          have i3 : I1 4 3 = M.1 4 3 := by rw [i3, ab_u_j (by decide)]
          have i9 : I1 4 9 = M.1 4 9 := by rw [i9, ab_u_j (by decide)]
          have hI : ∀ a, (a < t + 1 ∨ t + 28 ≤ a) → ab_u I1 (t + 1) 4 (nI v) a = I1 a := fun a ha => ab_u_ne (by omega)
          have hld : ld_v I1 (t + 1) P.1.1 := ld_v_congr (fun a _ _ => f2 a (by omega)) p1.1
          have hps2 : ps_v (ab_u I1 (t + 1) 4 (nI v)) t (pFee P v) := ⟨td_land (td_congr (fun a _ _ => f2 a (by omega)) p1) (fun a _ _ x => hI a x) (ld_fee ⟨b1, b2⟩ hld), by rw [hI 4 (by omega), i3]; exact p2, by rw [hI 4 (by omega)]; exact i4, fun l hl => by rw [hI 5 (by omega), f2 5 (by decide)]; exact p4 l hl⟩
          have hsemi := c_semi (p := p') (M := M) h (ab_u I1 (t + 1) 4 (nI v)) ht5 hr (tp_v_congr (hI 2 (by omega)) (hI 3 (by omega)) (tp_rd4 f2 hw)) (by rw [hI 4 (by omega)]; exact i5) b5 hps2 (by rw [hI 4 (by omega)]; exact i9) (fun a x y z => by rw [hI a (by omega)]; exact f2 a x)
          refine pr_ifT rfl (fun h29 => ?_) (fun h29 => ?_)
          · simp only [ab_cmp, pr_8_9, pr_i_0, pr_i_1, pr_i_4] at h29
            first
            | contradiction
            | exact absurd trivial h29
            | exact absurd h29 (by decide)
            | exact absurd (Classical.not_not.mp h29) (by decide)
            | skip
              refine pr_seqT (pc' := 48) 6 rfl ⟨⟨⟨⟨⟨⟨trivial, (by first | assumption | (simp only [p3, g7, r2, tr0, pr_8_9, pr_i_0, pr_i_1, pr_i_4]; first | assumption | decide | exact ⟨by assumption, by assumption⟩ | exact ⟨Or.inl (by assumption), by assumption⟩ | omega) | decide | exact ⟨Or.inl (by assumption), by assumption⟩ | exact ⟨by assumption, by assumption⟩ | omega)⟩, (by first | assumption | (simp only [p3, g7, r2, tr0, pr_8_9, pr_i_0, pr_i_1, pr_i_4]; first | assumption | decide | exact ⟨by assumption, by assumption⟩ | exact ⟨Or.inl (by assumption), by assumption⟩ | omega) | decide | exact ⟨Or.inl (by assumption), by assumption⟩ | exact ⟨by assumption, by assumption⟩ | omega)⟩, (by first | assumption | (simp only [p3, g7, r2, tr0, pr_8_9, pr_i_0, pr_i_1, pr_i_4]; first | assumption | decide | exact ⟨by assumption, by assumption⟩ | exact ⟨Or.inl (by assumption), by assumption⟩ | omega) | decide | exact ⟨Or.inl (by assumption), by assumption⟩ | exact ⟨by assumption, by assumption⟩ | omega)⟩, (by first | assumption | (simp only [p3, g7, r2, tr0, pr_8_9, pr_i_0, pr_i_1, pr_i_4]; first | assumption | decide | exact ⟨by assumption, by assumption⟩ | exact ⟨Or.inl (by assumption), by assumption⟩ | omega) | decide | exact ⟨Or.inl (by assumption), by assumption⟩ | exact ⟨by assumption, by assumption⟩ | omega)⟩, (by first | assumption | (simp only [p3, g7, r2, tr0, pr_8_9, pr_i_0, pr_i_1, pr_i_4]; first | assumption | decide | exact ⟨by assumption, by assumption⟩ | exact ⟨Or.inl (by assumption), by assumption⟩ | omega) | decide | exact ⟨Or.inl (by assumption), by assumption⟩ | exact ⟨by assumption, by assumption⟩ | omega)⟩, (by first | assumption | (simp only [p3, g7, r2, tr0, pr_8_9, pr_i_0, pr_i_1, pr_i_4]; first | assumption | decide | exact ⟨by assumption, by assumption⟩ | exact ⟨Or.inl (by assumption), by assumption⟩ | omega) | decide | exact ⟨Or.inl (by assumption), by assumption⟩ | exact ⟨by assumption, by assumption⟩ | omega)⟩ ?_
              try simp only [p3, g7, r2, tr0, pr_8_9, pr_i_0, pr_i_1, pr_i_4]
              (try simp only [i8]); exact pr_seqT 1 rfl ⟨trivial, n4⟩ (pr_cvX [] rfl rfl rfl rfl rfl (Nat.le_of_ble_eq_true rfl) k4 (Nat.le_of_ble_eq_true rfl) hsemi (fun v48 M48 q48 => by obtain ⟨rfl, q48⟩ := q48; exact pr_irT rfl (pr_b01 _) ⟨rfl, q48⟩))
          · simp only [ab_cmp, pr_8_9, pr_i_0, pr_i_1, pr_i_4] at h29
            first
            | contradiction
            | exact absurd trivial h29
            | exact absurd h29 (by decide)
            | exact absurd (Classical.not_not.mp h29) (by decide)
            | skip
              fail
      · simp only [ab_cmp, pr_8_9, pr_i_0, pr_i_1, pr_i_4] at h4
        first
        | contradiction
        | exact absurd trivial h4
        | exact absurd h4 (by decide)
        | exact absurd (Classical.not_not.mp h4) (by decide)
        | skip
          fail
theorem ld_letter {I : Nat → Nat → Int32} {g l v : Nat} {d : Ld} (hv : v ≤ 40) (hd : ld_v I g d) : ld_v (ab_u I (g + 1) l (nI v)) g (va_up d.1 l v, d.2) := by
  obtain ⟨d1, d2, d3, d4, d5, d6, d7, d8⟩ := hd
  have hf : ∀ a, a ≠ g + 1 → ab_u I (g + 1) l (nI v) a = I a := fun a ha => ab_u_ne ha
  refine ⟨by rw [hf g (by omega)]; exact d1, d2, by rw [hf g (by omega)]; exact d3, d4, by rw [hf g (by omega)]; exact d5, d6, fun l' hl => ?_, fun p q hq => on_v_congr (hf _ (by omega)) (hf _ (by omega)) (hf _ (by omega)) (d8 p q hq)⟩
  by_cases e : l' = l
  · subst e
    show ab_u I (g + 1) l' (nI v) (g + 1) l' = nI (va_up d.1 l' v l') ∧ va_up d.1 l' v l' ≤ 40
    rw [ab_u_at, va_up_at]
    exact ⟨rfl, hv⟩
  · show ab_u I (g + 1) l (nI v) (g + 1) l' = nI (va_up d.1 l v l') ∧ va_up d.1 l v l' ≤ 40
    rw [ab_u_j e, va_up_n e]
    exact d7 l' hl
theorem lt_up {I : Nat → Nat → Int32} {f : Nat → Bool} {l : Nat} (h : ∀ k, k < 26 → I 5 k = pr_b (f k)) : ∀ k, k < 26 → ab_u I 5 l 1 5 k = pr_b (va_up f l true k) := by
  intro k hk
  by_cases q : k = l
  · subst q; rw [ab_u_at, va_up_at]; rfl
  · rw [ab_u_j q, va_up_n q]; exact h k hk
set_option maxHeartbeats 4000000 in
theorem c_tellLetter {t p s : Nat} {w : List Nat} {P : PS} (h : ab_H) (M : ab_M) (ht5 : 5 < t) (hr : pr_Rd h M.2.2 t) (ht : pr_Tl h M.2.2 t) (hw : tp_v M.1 w) (hps : ps_v M.1 t P) (g5 : M.1 4 5 = nI p) (hp : p ≤ w.length) : pr_X pX6_tellLetter [.ref 4] h M (ln_p t M (lnLetter w P p)) := by
  obtain ⟨k4, r0, r1, r2, ⟨k2, s0, k3, l3⟩, k5, l5⟩ := id hr
  obtain ⟨t0, t1, tr0, tr1, tr2, tr3, hg, -⟩ := id ht
  obtain ⟨g0, g1, sg1, sg2, m1, m2, -⟩ := id hg
  have n4 : (4 : Nat) ≠ 0 := by decide
  have n5 : (5 : Nat) ≠ 0 := by decide
  obtain ⟨p1, p2, p3, p4⟩ := id hps
  unfold lnLetter
  have hwo : pr_X pX6_takeWord [.ref 4, .int 1] h M (tk_p (fun q I => I 4 7 = nI q.1 ∧ I 4 5 = nI q.2) M (tWord w 1 p)) := c_takeWord (mx := 1) h M hr hw g5 hp (by decide)
  cases he : tWord w 1 p with
  | error q =>
    rw [he] at hwo
    refine pr_seqT (pc' := 2) 2 rfl ⟨⟨trivial, (by first | assumption | decide | exact ⟨Or.inl (by assumption), by assumption⟩ | exact ⟨by assumption, by assumption⟩ | omega)⟩, trivial⟩ ?_
    refine pr_cvX [_] rfl rfl rfl rfl rfl (Nat.le_of_ble_eq_true rfl) (by first | assumption | decide | exact ⟨Or.inl (by assumption), by assumption⟩ | exact ⟨by assumption, by assumption⟩ | omega) (Nat.le_of_ble_eq_true rfl) (hwo) (fun v2 M2 q2 => ?_)
    obtain ⟨e2, f1, rfl, h9, h10⟩ := q2
    obtain ⟨I1, Z1⟩ := M2
    dsimp only at e2 f1 h9 h10
    subst e2
    refine pr_ifT rfl (fun h5 => ?_) (fun h5 => ?_)
    · simp only [ab_cmp, pr_8_40, pr_8_97, pr_i_0, pr_i_1, pr_i_2, pr_i_4] at h5
      first
      | contradiction
      | exact absurd trivial h5
      | exact absurd h5 (by decide)
      | exact absurd (Classical.not_not.mp h5) (by decide)
      | skip
        fail
    · simp only [ab_cmp, pr_8_40, pr_8_97, pr_i_0, pr_i_1, pr_i_2, pr_i_4] at h5
      first
      | contradiction
      | exact absurd trivial h5
      | exact absurd h5 (by decide)
      | exact absurd (Classical.not_not.mp h5) (by decide)
      | skip
        refine pr_seqT (pc' := 9) 1 rfl ⟨trivial, trivial⟩ ?_
        exact pr_irT rfl (by first | exact Or.inl rfl | exact Or.inr rfl | exact pr_b01 _ | assumption) (by exact ln_err (fr_rd4 f1) h9 h10)
  | ok x =>
    obtain ⟨a, e⟩ := x
    rw [he] at hwo
    obtain ⟨b1, b2, b3, b4, b5⟩ := tWord_ok hp he
    have hae := tWord_pos hp he
    obtain ⟨c1, c2⟩ := b5 a (Nat.le_refl _) hae
    have hlen := hw.2.1
    dsimp only
    have hl26 : w.getD a 0 - 97 < 26 := by omega
    generalize hL : w.getD a 0 - 97 = l at *
    have ell : nI (w.getD a 0) - 97 = nI l := by rw [← hL]; exact i_sub (b := 97) c1
    have eb : sb w a = nI (w.getD a 0) := (sb_eq (by omega) (by omega)).mpr rfl
    have e3 : (nI l).toNatClampNeg = l := nI_clamp (by omega)
    have v5 : (ab_k h 5 = 21 ∨ ab_k h 5 = 22) ∧ vp_in (nI l) (ab_n h 5) := ⟨Or.inr k5, by rw [l5]; exact vp_in_nI hl26 (by decide)⟩
    have vl : vp_in (nI l) (ab_n h (t + 1 + 1)) := by rw [m2]; exact vp_in_nI hl26 (by decide)
    have hil := fun I => c_isLetter (nI l) h (I, M.2)
    have z1 : pr_in (nI l) 0 25 = true := by
      unfold pr_in
      rw [decide_eq_false (nI_pos (by omega)), decide_eq_false (fun q => by have := (nI_ltI (a := 25) (b := l) (by omega) (by omega)).mp q; omega)]
      rfl
    rw [z1] at hil
    -- from the word on
    have key : ∀ I1 : Nat → Nat → Int32, rd4 M.1 I1 → I1 4 3 = M.1 4 3 → I1 4 4 = M.1 4 4 → I1 4 9 = M.1 4 9 → I1 4 7 = nI a → I1 4 5 = nI e → pr_T pX6_tellLetter 10 [some (.ref 4), none] [] h (I1, M.2) (ln_p t M (if P.2.2.2 l then .error (4, a) else match tNum w 0 40 e with
        | .error e => .error e
        | .ok y => thenSemi w (pLet P l y.1) y.2)) := by
      intro I1 f1 i3 i4 i9 i7 i5
      have hwI := tp_rd4 f1 hw
      have hba := c_byteAt (p := a) h (I1, M.2) hr hwI (by omega)
      rw [if_pos (by omega), eb] at hba
      have x5 : I1 5 l = pr_b (P.2.2.2 l) := by rw [f1 5 (by decide)]; exact p4 l hl26
      cases hb : P.2.2.2 l with
      | true =>
        rw [hb] at x5
        have x5 : I1 5 l = 1 := x5
        rw [if_pos rfl]
        refine pr_seqT (pc' := 15) 3 rfl ⟨⟨⟨trivial, (by first | assumption | (simp only [i7, ell, r1, e3, x5, pr_8_40, pr_8_97, pr_i_0, pr_i_1, pr_i_2, pr_i_4]; first | assumption | decide | exact ⟨by assumption, by assumption⟩ | exact ⟨Or.inl (by assumption), by assumption⟩ | omega) | decide | exact ⟨Or.inl (by assumption), by assumption⟩ | exact ⟨by assumption, by assumption⟩ | omega)⟩, (by first | assumption | (simp only [i7, ell, r1, e3, x5, pr_8_40, pr_8_97, pr_i_0, pr_i_1, pr_i_2, pr_i_4]; first | assumption | decide | exact ⟨by assumption, by assumption⟩ | exact ⟨Or.inl (by assumption), by assumption⟩ | omega) | decide | exact ⟨Or.inl (by assumption), by assumption⟩ | exact ⟨by assumption, by assumption⟩ | omega)⟩, (by first | assumption | (simp only [i7, ell, r1, e3, x5, pr_8_40, pr_8_97, pr_i_0, pr_i_1, pr_i_2, pr_i_4]; first | assumption | decide | exact ⟨by assumption, by assumption⟩ | exact ⟨Or.inl (by assumption), by assumption⟩ | omega) | decide | exact ⟨Or.inl (by assumption), by assumption⟩ | exact ⟨by assumption, by assumption⟩ | omega)⟩ ?_
        try simp only [i7, ell, r1, e3, x5, pr_8_40, pr_8_97, pr_i_0, pr_i_1, pr_i_2, pr_i_4]
        refine pr_cvT [_] rfl rfl rfl rfl rfl (Nat.le_of_ble_eq_true rfl) (by first | assumption | (simp only [i7, ell, r1, e3, x5, pr_8_40, pr_8_97, pr_i_0, pr_i_1, pr_i_2, pr_i_4]; first | assumption | decide | exact ⟨by assumption, by assumption⟩ | exact ⟨Or.inl (by assumption), by assumption⟩ | omega) | decide | exact ⟨Or.inl (by assumption), by assumption⟩ | exact ⟨by assumption, by assumption⟩ | omega) (Nat.le_of_ble_eq_true rfl) (hba) ?_
        refine pr_seqT (pc' := 23) 4 rfl ⟨⟨⟨⟨trivial, trivial⟩, trivial⟩, trivial⟩, trivial⟩ ?_
        try simp only [i7, ell, r1, e3, x5, pr_8_40, pr_8_97, pr_i_0, pr_i_1, pr_i_2, pr_i_4]
        refine pr_csT [_] rfl rfl rfl rfl rfl (Nat.le_of_ble_eq_true rfl) (Nat.le_of_ble_eq_true rfl) (hil I1) ?_
        refine pr_ifT rfl (fun h26 => ?_) (fun h26 => ?_)
        · simp only [ab_cmp, pr_8_40, pr_8_97, pr_i_0, pr_i_1, pr_i_2, pr_i_4] at h26
          first
          | contradiction
          | exact absurd trivial h26
          | exact absurd h26 (by decide)
          | exact absurd (Classical.not_not.mp h26) (by decide)
          | skip
            refine pr_seqT (pc' := 45) 4 rfl ⟨⟨⟨⟨trivial, (by first | assumption | (simp only [i7, ell, r1, e3, x5, pr_8_40, pr_8_97, pr_i_0, pr_i_1, pr_i_2, pr_i_4]; first | assumption | decide | exact ⟨by assumption, by assumption⟩ | exact ⟨Or.inl (by assumption), by assumption⟩ | omega) | decide | exact ⟨Or.inl (by assumption), by assumption⟩ | exact ⟨by assumption, by assumption⟩ | omega)⟩, (by first | assumption | (simp only [i7, ell, r1, e3, x5, pr_8_40, pr_8_97, pr_i_0, pr_i_1, pr_i_2, pr_i_4]; first | assumption | decide | exact ⟨by assumption, by assumption⟩ | exact ⟨Or.inl (by assumption), by assumption⟩ | omega) | decide | exact ⟨Or.inl (by assumption), by assumption⟩ | exact ⟨by assumption, by assumption⟩ | omega)⟩, trivial⟩, (by first | assumption | (simp only [i7, ell, r1, e3, x5, pr_8_40, pr_8_97, pr_i_0, pr_i_1, pr_i_2, pr_i_4]; first | assumption | decide | exact ⟨by assumption, by assumption⟩ | exact ⟨Or.inl (by assumption), by assumption⟩ | omega) | decide | exact ⟨Or.inl (by assumption), by assumption⟩ | exact ⟨by assumption, by assumption⟩ | omega)⟩ ?_
            try simp only [i7, ell, r1, e3, x5, pr_8_40, pr_8_97, pr_i_0, pr_i_1, pr_i_2, pr_i_4]
            refine pr_ifT rfl (fun h45 => ?_) (fun h45 => ?_)
            · simp only [ab_cmp, pr_8_40, pr_8_97, pr_i_0, pr_i_1, pr_i_2, pr_i_4] at h45
              first
              | contradiction
              | exact absurd trivial h45
              | exact absurd h45 (by decide)
              | exact absurd (Classical.not_not.mp h45) (by decide)
              | skip
                fail
            · simp only [ab_cmp, pr_8_40, pr_8_97, pr_i_0, pr_i_1, pr_i_2, pr_i_4] at h45
              first
              | contradiction
              | exact absurd trivial h45
              | exact absurd h45 (by decide)
              | exact absurd (Classical.not_not.mp h45) (by decide)
              | skip
                refine pr_seqT (pc' := 54) 4 rfl ⟨⟨⟨⟨trivial, (by first | assumption | (simp only [i7, ell, r1, e3, x5, pr_8_40, pr_8_97, pr_i_0, pr_i_1, pr_i_2, pr_i_4]; first | assumption | decide | exact ⟨by assumption, by assumption⟩ | exact ⟨Or.inl (by assumption), by assumption⟩ | omega) | decide | exact ⟨Or.inl (by assumption), by assumption⟩ | exact ⟨by assumption, by assumption⟩ | omega)⟩, trivial⟩, (by first | assumption | (simp only [i7, ell, r1, e3, x5, pr_8_40, pr_8_97, pr_i_0, pr_i_1, pr_i_2, pr_i_4]; first | assumption | decide | exact ⟨by assumption, by assumption⟩ | exact ⟨Or.inl (by assumption), by assumption⟩ | omega) | decide | exact ⟨Or.inl (by assumption), by assumption⟩ | exact ⟨by assumption, by assumption⟩ | omega)⟩, (by first | assumption | (simp only [i7, ell, r1, e3, x5, pr_8_40, pr_8_97, pr_i_0, pr_i_1, pr_i_2, pr_i_4]; first | assumption | decide | exact ⟨by assumption, by assumption⟩ | exact ⟨Or.inl (by assumption), by assumption⟩ | omega) | decide | exact ⟨Or.inl (by assumption), by assumption⟩ | exact ⟨by assumption, by assumption⟩ | omega)⟩ ?_
                try simp only [i7, ell, r1, e3, x5, pr_8_40, pr_8_97, pr_i_0, pr_i_1, pr_i_2, pr_i_4]
                refine pr_cvT [_, _] rfl rfl rfl rfl rfl (Nat.le_of_ble_eq_true rfl) (by first | assumption | (simp only [i7, ell, r1, e3, x5, pr_8_40, pr_8_97, pr_i_0, pr_i_1, pr_i_2, pr_i_4]; first | assumption | decide | exact ⟨by assumption, by assumption⟩ | exact ⟨Or.inl (by assumption), by assumption⟩ | omega) | decide | exact ⟨Or.inl (by assumption), by assumption⟩ | exact ⟨by assumption, by assumption⟩ | omega) (Nat.le_of_ble_eq_true rfl) (c_refuse 4 (nI a) h (I1, M.2) k4) ?_
                exact pr_irT rfl (by first | exact Or.inl rfl | exact Or.inr rfl | exact pr_b01 _ | assumption) (by exact ln_ref (c := 4) (fr_rd4 f1))
        · simp only [ab_cmp, pr_8_40, pr_8_97, pr_i_0, pr_i_1, pr_i_2, pr_i_4] at h26
          first
          | contradiction
          | exact absurd trivial h26
          | exact absurd h26 (by decide)
          | exact absurd (Classical.not_not.mp h26) (by decide)
          | skip
            fail
      | false =>
        rw [hb] at x5
        have x5 : I1 5 l = 0 := x5
        rw [if_neg (by decide)]
        have fa : ∀ c, c ≠ 5 → ab_u I1 5 l 1 c = I1 c := fun c hc => ab_u_ne hc
        have hnum : pr_X pX6_takeNumber [.ref 4, .int 0, .int 40] h (ab_u I1 5 l 1, M.2.1, M.2.2) (tk_p (fun q I => I 4 8 = nI q.1 ∧ I 4 5 = nI q.2) (ab_u I1 5 l 1, M.2.1, M.2.2) (tNum w 0 40 e)) := c_takeNumber (lo := 0) (hi := 40) h (ab_u I1 5 l 1, M.2.1, M.2.2) hr (tp_v_congr (fa 2 (by decide)) (fa 3 (by decide)) hwI) (by show ab_u I1 5 l 1 4 5 = _; rw [fa 4 (by decide)]; exact i5) (by omega) (by decide) (by decide)
        have f0 : fr t M.1 (ab_u I1 5 l 1) := fun c x y z => by rw [fa c y]; exact f1 c x
        cases he2 : tNum w 0 40 e with
        | error q =>
          rw [he2] at hnum
          refine pr_seqT (pc' := 15) 3 rfl ⟨⟨⟨trivial, (by first | assumption | (simp only [i7, ell, r1, e3, x5, pr_8_40, pr_8_97, pr_i_0, pr_i_1, pr_i_2, pr_i_4]; first | assumption | decide | exact ⟨by assumption, by assumption⟩ | exact ⟨Or.inl (by assumption), by assumption⟩ | omega) | decide | exact ⟨Or.inl (by assumption), by assumption⟩ | exact ⟨by assumption, by assumption⟩ | omega)⟩, (by first | assumption | (simp only [i7, ell, r1, e3, x5, pr_8_40, pr_8_97, pr_i_0, pr_i_1, pr_i_2, pr_i_4]; first | assumption | decide | exact ⟨by assumption, by assumption⟩ | exact ⟨Or.inl (by assumption), by assumption⟩ | omega) | decide | exact ⟨Or.inl (by assumption), by assumption⟩ | exact ⟨by assumption, by assumption⟩ | omega)⟩, (by first | assumption | (simp only [i7, ell, r1, e3, x5, pr_8_40, pr_8_97, pr_i_0, pr_i_1, pr_i_2, pr_i_4]; first | assumption | decide | exact ⟨by assumption, by assumption⟩ | exact ⟨Or.inl (by assumption), by assumption⟩ | omega) | decide | exact ⟨Or.inl (by assumption), by assumption⟩ | exact ⟨by assumption, by assumption⟩ | omega)⟩ ?_
          try simp only [i7, ell, r1, e3, x5, pr_8_40, pr_8_97, pr_i_0, pr_i_1, pr_i_2, pr_i_4]
          refine pr_cvT [_] rfl rfl rfl rfl rfl (Nat.le_of_ble_eq_true rfl) (by first | assumption | (simp only [i7, ell, r1, e3, x5, pr_8_40, pr_8_97, pr_i_0, pr_i_1, pr_i_2, pr_i_4]; first | assumption | decide | exact ⟨by assumption, by assumption⟩ | exact ⟨Or.inl (by assumption), by assumption⟩ | omega) | decide | exact ⟨Or.inl (by assumption), by assumption⟩ | exact ⟨by assumption, by assumption⟩ | omega) (Nat.le_of_ble_eq_true rfl) (hba) ?_
          refine pr_seqT (pc' := 23) 4 rfl ⟨⟨⟨⟨trivial, trivial⟩, trivial⟩, trivial⟩, trivial⟩ ?_
          try simp only [i7, ell, r1, e3, x5, pr_8_40, pr_8_97, pr_i_0, pr_i_1, pr_i_2, pr_i_4]
          refine pr_csT [_] rfl rfl rfl rfl rfl (Nat.le_of_ble_eq_true rfl) (Nat.le_of_ble_eq_true rfl) (hil I1) ?_
          refine pr_ifT rfl (fun h26 => ?_) (fun h26 => ?_)
          · simp only [ab_cmp, pr_8_40, pr_8_97, pr_i_0, pr_i_1, pr_i_2, pr_i_4] at h26
            first
            | contradiction
            | exact absurd trivial h26
            | exact absurd h26 (by decide)
            | exact absurd (Classical.not_not.mp h26) (by decide)
            | skip
              refine pr_seqT (pc' := 45) 4 rfl ⟨⟨⟨⟨trivial, (by first | assumption | (simp only [i7, ell, r1, e3, x5, pr_8_40, pr_8_97, pr_i_0, pr_i_1, pr_i_2, pr_i_4]; first | assumption | decide | exact ⟨by assumption, by assumption⟩ | exact ⟨Or.inl (by assumption), by assumption⟩ | omega) | decide | exact ⟨Or.inl (by assumption), by assumption⟩ | exact ⟨by assumption, by assumption⟩ | omega)⟩, (by first | assumption | (simp only [i7, ell, r1, e3, x5, pr_8_40, pr_8_97, pr_i_0, pr_i_1, pr_i_2, pr_i_4]; first | assumption | decide | exact ⟨by assumption, by assumption⟩ | exact ⟨Or.inl (by assumption), by assumption⟩ | omega) | decide | exact ⟨Or.inl (by assumption), by assumption⟩ | exact ⟨by assumption, by assumption⟩ | omega)⟩, trivial⟩, (by first | assumption | (simp only [i7, ell, r1, e3, x5, pr_8_40, pr_8_97, pr_i_0, pr_i_1, pr_i_2, pr_i_4]; first | assumption | decide | exact ⟨by assumption, by assumption⟩ | exact ⟨Or.inl (by assumption), by assumption⟩ | omega) | decide | exact ⟨Or.inl (by assumption), by assumption⟩ | exact ⟨by assumption, by assumption⟩ | omega)⟩ ?_
              try simp only [i7, ell, r1, e3, x5, pr_8_40, pr_8_97, pr_i_0, pr_i_1, pr_i_2, pr_i_4]
              refine pr_ifT rfl (fun h45 => ?_) (fun h45 => ?_)
              · simp only [ab_cmp, pr_8_40, pr_8_97, pr_i_0, pr_i_1, pr_i_2, pr_i_4] at h45
                first
                | contradiction
                | exact absurd trivial h45
                | exact absurd h45 (by decide)
                | exact absurd (Classical.not_not.mp h45) (by decide)
                | skip
                  refine pr_seqT (pc' := 69) 8 rfl ⟨⟨⟨⟨⟨⟨⟨⟨trivial, (by first | assumption | (simp only [i7, ell, r1, e3, x5, pr_8_40, pr_8_97, pr_i_0, pr_i_1, pr_i_2, pr_i_4]; first | assumption | decide | exact ⟨by assumption, by assumption⟩ | exact ⟨Or.inl (by assumption), by assumption⟩ | omega) | decide | exact ⟨Or.inl (by assumption), by assumption⟩ | exact ⟨by assumption, by assumption⟩ | omega)⟩, (by first | assumption | (simp only [i7, ell, r1, e3, x5, pr_8_40, pr_8_97, pr_i_0, pr_i_1, pr_i_2, pr_i_4]; first | assumption | decide | exact ⟨by assumption, by assumption⟩ | exact ⟨Or.inl (by assumption), by assumption⟩ | omega) | decide | exact ⟨Or.inl (by assumption), by assumption⟩ | exact ⟨by assumption, by assumption⟩ | omega)⟩, trivial⟩, trivial⟩, (by (show (ab_k h (M.2.2 4 1) = 21 ∨ ab_k h (M.2.2 4 1) = 22 ∧ ((1 : Int32) = 0 ∨ (1 : Int32) = 1)) ∧ vp_in (nI l) (ab_n h (M.2.2 4 1))); rw [r1]; exact ⟨Or.inr ⟨k5, Or.inr rfl⟩, v5.2⟩)⟩, (by first | assumption | (simp only [i7, ell, r1, e3, x5, pr_8_40, pr_8_97, pr_i_0, pr_i_1, pr_i_2, pr_i_4]; first | assumption | decide | exact ⟨by assumption, by assumption⟩ | exact ⟨Or.inl (by assumption), by assumption⟩ | omega) | decide | exact ⟨Or.inl (by assumption), by assumption⟩ | exact ⟨by assumption, by assumption⟩ | omega)⟩, trivial⟩, trivial⟩ ?_
                  try simp only [i7, ell, r1, e3, x5, pr_8_40, pr_8_97, pr_i_0, pr_i_1, pr_i_2, pr_i_4]
                  refine pr_cvX [_, _] rfl rfl rfl rfl rfl (Nat.le_of_ble_eq_true rfl) (by first | assumption | (simp only [i7, ell, r1, e3, x5, pr_8_40, pr_8_97, pr_i_0, pr_i_1, pr_i_2, pr_i_4]; first | assumption | decide | exact ⟨by assumption, by assumption⟩ | exact ⟨Or.inl (by assumption), by assumption⟩ | omega) | decide | exact ⟨Or.inl (by assumption), by assumption⟩ | exact ⟨by assumption, by assumption⟩ | omega) (Nat.le_of_ble_eq_true rfl) (hnum) (fun v69 M69 q69 => ?_)
                  obtain ⟨e2, f2, rfl, h9, h10⟩ := q69
                  obtain ⟨I2, Z2⟩ := M69
                  dsimp only at e2 f2 h9 h10
                  subst e2
                  refine pr_ifT rfl (fun h72 => ?_) (fun h72 => ?_)
                  · simp only [ab_cmp, pr_8_40, pr_8_97, pr_i_0, pr_i_1, pr_i_2, pr_i_4] at h72
                    first
                    | contradiction
                    | exact absurd trivial h72
                    | exact absurd h72 (by decide)
                    | exact absurd (Classical.not_not.mp h72) (by decide)
                    | skip
                      fail
                  · simp only [ab_cmp, pr_8_40, pr_8_97, pr_i_0, pr_i_1, pr_i_2, pr_i_4] at h72
                    first
                    | contradiction
                    | exact absurd trivial h72
                    | exact absurd h72 (by decide)
                    | exact absurd (Classical.not_not.mp h72) (by decide)
                    | skip
                      refine pr_seqT (pc' := 76) 1 rfl ⟨trivial, trivial⟩ ?_
                      try simp only [i7, ell, r1, e3, x5, pr_8_40, pr_8_97, pr_i_0, pr_i_1, pr_i_2, pr_i_4]
                      exact pr_irT rfl (by first | exact Or.inl rfl | exact Or.inr rfl | exact pr_b01 _ | assumption) (by exact ln_err (fr_trans f0 (fr_rd4 f2)) h9 h10)
              · simp only [ab_cmp, pr_8_40, pr_8_97, pr_i_0, pr_i_1, pr_i_2, pr_i_4] at h45
                first
                | contradiction
                | exact absurd trivial h45
                | exact absurd h45 (by decide)
                | exact absurd (Classical.not_not.mp h45) (by decide)
                | skip
                  fail
          · simp only [ab_cmp, pr_8_40, pr_8_97, pr_i_0, pr_i_1, pr_i_2, pr_i_4] at h26
            first
            | contradiction
            | exact absurd trivial h26
            | exact absurd h26 (by decide)
            | exact absurd (Classical.not_not.mp h26) (by decide)
            | skip
              fail
        | ok y =>
          obtain ⟨v, p'⟩ := y
          rw [he2] at hnum
          obtain ⟨d1, d2, d3, d4, d5⟩ := tNum_ok (show e ≤ w.length by omega) he2
          dsimp only
          refine pr_seqT (pc' := 15) 3 rfl ⟨⟨⟨trivial, (by first | assumption | (simp only [i7, ell, r1, r2, tr0, sg1, e3, x5, pr_8_40, pr_8_97, pr_i_0, pr_i_1, pr_i_2, pr_i_4]; first | assumption | decide | exact ⟨by assumption, by assumption⟩ | exact ⟨Or.inl (by assumption), by assumption⟩ | omega) | decide | exact ⟨Or.inl (by assumption), by assumption⟩ | exact ⟨by assumption, by assumption⟩ | omega)⟩, (by first | assumption | (simp only [i7, ell, r1, r2, tr0, sg1, e3, x5, pr_8_40, pr_8_97, pr_i_0, pr_i_1, pr_i_2, pr_i_4]; first | assumption | decide | exact ⟨by assumption, by assumption⟩ | exact ⟨Or.inl (by assumption), by assumption⟩ | omega) | decide | exact ⟨Or.inl (by assumption), by assumption⟩ | exact ⟨by assumption, by assumption⟩ | omega)⟩, (by first | assumption | (simp only [i7, ell, r1, r2, tr0, sg1, e3, x5, pr_8_40, pr_8_97, pr_i_0, pr_i_1, pr_i_2, pr_i_4]; first | assumption | decide | exact ⟨by assumption, by assumption⟩ | exact ⟨Or.inl (by assumption), by assumption⟩ | omega) | decide | exact ⟨Or.inl (by assumption), by assumption⟩ | exact ⟨by assumption, by assumption⟩ | omega)⟩ ?_
          try simp only [i7, ell, r1, r2, tr0, sg1, e3, x5, pr_8_40, pr_8_97, pr_i_0, pr_i_1, pr_i_2, pr_i_4]
          refine pr_cvT [_] rfl rfl rfl rfl rfl (Nat.le_of_ble_eq_true rfl) (by first | assumption | (simp only [i7, ell, r1, r2, tr0, sg1, e3, x5, pr_8_40, pr_8_97, pr_i_0, pr_i_1, pr_i_2, pr_i_4]; first | assumption | decide | exact ⟨by assumption, by assumption⟩ | exact ⟨Or.inl (by assumption), by assumption⟩ | omega) | decide | exact ⟨Or.inl (by assumption), by assumption⟩ | exact ⟨by assumption, by assumption⟩ | omega) (Nat.le_of_ble_eq_true rfl) (hba) ?_
          refine pr_seqT (pc' := 23) 4 rfl ⟨⟨⟨⟨trivial, trivial⟩, trivial⟩, trivial⟩, trivial⟩ ?_
          try simp only [i7, ell, r1, r2, tr0, sg1, e3, x5, pr_8_40, pr_8_97, pr_i_0, pr_i_1, pr_i_2, pr_i_4]
          refine pr_csT [_] rfl rfl rfl rfl rfl (Nat.le_of_ble_eq_true rfl) (Nat.le_of_ble_eq_true rfl) (hil I1) ?_
          refine pr_ifT rfl (fun h26 => ?_) (fun h26 => ?_)
          · simp only [ab_cmp, pr_8_40, pr_8_97, pr_i_0, pr_i_1, pr_i_2, pr_i_4] at h26
            first
            | contradiction
            | exact absurd trivial h26
            | exact absurd h26 (by decide)
            | exact absurd (Classical.not_not.mp h26) (by decide)
            | skip
              refine pr_seqT (pc' := 45) 4 rfl ⟨⟨⟨⟨trivial, (by first | assumption | (simp only [i7, ell, r1, r2, tr0, sg1, e3, x5, pr_8_40, pr_8_97, pr_i_0, pr_i_1, pr_i_2, pr_i_4]; first | assumption | decide | exact ⟨by assumption, by assumption⟩ | exact ⟨Or.inl (by assumption), by assumption⟩ | omega) | decide | exact ⟨Or.inl (by assumption), by assumption⟩ | exact ⟨by assumption, by assumption⟩ | omega)⟩, (by first | assumption | (simp only [i7, ell, r1, r2, tr0, sg1, e3, x5, pr_8_40, pr_8_97, pr_i_0, pr_i_1, pr_i_2, pr_i_4]; first | assumption | decide | exact ⟨by assumption, by assumption⟩ | exact ⟨Or.inl (by assumption), by assumption⟩ | omega) | decide | exact ⟨Or.inl (by assumption), by assumption⟩ | exact ⟨by assumption, by assumption⟩ | omega)⟩, trivial⟩, (by first | assumption | (simp only [i7, ell, r1, r2, tr0, sg1, e3, x5, pr_8_40, pr_8_97, pr_i_0, pr_i_1, pr_i_2, pr_i_4]; first | assumption | decide | exact ⟨by assumption, by assumption⟩ | exact ⟨Or.inl (by assumption), by assumption⟩ | omega) | decide | exact ⟨Or.inl (by assumption), by assumption⟩ | exact ⟨by assumption, by assumption⟩ | omega)⟩ ?_
              try simp only [i7, ell, r1, r2, tr0, sg1, e3, x5, pr_8_40, pr_8_97, pr_i_0, pr_i_1, pr_i_2, pr_i_4]
              refine pr_ifT rfl (fun h45 => ?_) (fun h45 => ?_)
              · simp only [ab_cmp, pr_8_40, pr_8_97, pr_i_0, pr_i_1, pr_i_2, pr_i_4] at h45
                first
                | contradiction
                | exact absurd trivial h45
                | exact absurd h45 (by decide)
                | exact absurd (Classical.not_not.mp h45) (by decide)
                | skip
                  refine pr_seqT (pc' := 69) 8 rfl ⟨⟨⟨⟨⟨⟨⟨⟨trivial, (by first | assumption | (simp only [i7, ell, r1, r2, tr0, sg1, e3, x5, pr_8_40, pr_8_97, pr_i_0, pr_i_1, pr_i_2, pr_i_4]; first | assumption | decide | exact ⟨by assumption, by assumption⟩ | exact ⟨Or.inl (by assumption), by assumption⟩ | omega) | decide | exact ⟨Or.inl (by assumption), by assumption⟩ | exact ⟨by assumption, by assumption⟩ | omega)⟩, (by first | assumption | (simp only [i7, ell, r1, r2, tr0, sg1, e3, x5, pr_8_40, pr_8_97, pr_i_0, pr_i_1, pr_i_2, pr_i_4]; first | assumption | decide | exact ⟨by assumption, by assumption⟩ | exact ⟨Or.inl (by assumption), by assumption⟩ | omega) | decide | exact ⟨Or.inl (by assumption), by assumption⟩ | exact ⟨by assumption, by assumption⟩ | omega)⟩, trivial⟩, trivial⟩, (by (show (ab_k h (M.2.2 4 1) = 21 ∨ ab_k h (M.2.2 4 1) = 22 ∧ ((1 : Int32) = 0 ∨ (1 : Int32) = 1)) ∧ vp_in (nI l) (ab_n h (M.2.2 4 1))); rw [r1]; exact ⟨Or.inr ⟨k5, Or.inr rfl⟩, v5.2⟩)⟩, (by first | assumption | (simp only [i7, ell, r1, r2, tr0, sg1, e3, x5, pr_8_40, pr_8_97, pr_i_0, pr_i_1, pr_i_2, pr_i_4]; first | assumption | decide | exact ⟨by assumption, by assumption⟩ | exact ⟨Or.inl (by assumption), by assumption⟩ | omega) | decide | exact ⟨Or.inl (by assumption), by assumption⟩ | exact ⟨by assumption, by assumption⟩ | omega)⟩, trivial⟩, trivial⟩ ?_
                  try simp only [i7, ell, r1, r2, tr0, sg1, e3, x5, pr_8_40, pr_8_97, pr_i_0, pr_i_1, pr_i_2, pr_i_4]
                  refine pr_cvX [_, _] rfl rfl rfl rfl rfl (Nat.le_of_ble_eq_true rfl) (by first | assumption | (simp only [i7, ell, r1, r2, tr0, sg1, e3, x5, pr_8_40, pr_8_97, pr_i_0, pr_i_1, pr_i_2, pr_i_4]; first | assumption | decide | exact ⟨by assumption, by assumption⟩ | exact ⟨Or.inl (by assumption), by assumption⟩ | omega) | decide | exact ⟨Or.inl (by assumption), by assumption⟩ | exact ⟨by assumption, by assumption⟩ | omega) (Nat.le_of_ble_eq_true rfl) (hnum) (fun v69 M69 q69 => ?_)
                  obtain ⟨e2, f2, rfl, j3, j4, j9, j8, j5⟩ := q69
                  obtain ⟨I2, Z2⟩ := M69
                  dsimp only at e2 f2 j3 j4 j9 j8 j5
                  subst e2
                  have hF : ∀ c, c ≠ 4 → c ≠ 5 → I2 c = M.1 c := fun c x y => by rw [f2 c x, fa c y]; exact f1 c x
                  have y3 : I2 4 3 = M.1 4 3 := by rw [j3, fa 4 (by decide)]; exact i3
                  have y4 : I2 4 4 = M.1 4 4 := by rw [j4, fa 4 (by decide)]; exact i4
                  have y9 : I2 4 9 = M.1 4 9 := by rw [j9, fa 4 (by decide)]; exact i9
                  have y5 : ∀ l', l' < 26 → I2 5 l' = pr_b (va_up P.2.2.2 l true l') := fun l' hl' => by rw [f2 5 (by decide)]; exact lt_up (fun k hk => by rw [f1 5 (by decide)]; exact p4 k hk) l' hl'
                  have hI : ∀ c, (c < t + 1 ∨ t + 28 ≤ c) → ab_u I2 (t + 1 + 1) l (nI v) c = I2 c := fun c hc => ab_u_ne (by omega)
                  have hld : ld_v I2 (t + 1) P.1.1 := ld_v_congr (fun c _ _ => hF c (by omega) (by omega)) p1.1
                  have hps2 : ps_v (ab_u I2 (t + 1 + 1) l (nI v)) t (pLet P l v) := ⟨td_land (td_congr (fun c _ _ => hF c (by omega) (by omega)) p1) (fun c _ _ x => hI c x) (ld_letter d2 hld), by rw [hI 4 (by omega), y3]; exact p2, by rw [hI 4 (by omega), y4]; exact p3, fun l' hl => by rw [hI 5 (by omega)]; exact y5 l' hl⟩
                  have hsemi := c_semi (p := p') (M := M) h (ab_u I2 (t + 1 + 1) l (nI v)) ht5 hr (tp_v_congr (by rw [hI 2 (by omega)]; exact hF 2 (by decide) (by decide)) (by rw [hI 3 (by omega)]; exact hF 3 (by decide) (by decide)) hw) (by rw [hI 4 (by omega)]; exact j5) d5 hps2 (by rw [hI 4 (by omega)]; exact y9) (fun c x y z => by rw [hI c (by omega)]; exact hF c x y)
                  have e3 := e3
                  refine pr_ifT rfl (fun h72 => ?_) (fun h72 => ?_)
                  · simp only [ab_cmp, pr_8_40, pr_8_97, pr_i_0, pr_i_1, pr_i_2, pr_i_4] at h72
                    first
                    | contradiction
                    | exact absurd trivial h72
                    | exact absurd h72 (by decide)
                    | exact absurd (Classical.not_not.mp h72) (by decide)
                    | skip
                      refine pr_seqT (pc' := 93) 8 rfl ⟨⟨⟨⟨⟨⟨⟨⟨trivial, (by first | assumption | (simp only [i7, ell, r1, r2, tr0, sg1, e3, x5, pr_8_40, pr_8_97, pr_i_0, pr_i_1, pr_i_2, pr_i_4]; first | assumption | decide | exact ⟨by assumption, by assumption⟩ | exact ⟨Or.inl (by assumption), by assumption⟩ | omega) | decide | exact ⟨Or.inl (by assumption), by assumption⟩ | exact ⟨by assumption, by assumption⟩ | omega)⟩, (by first | assumption | (simp only [i7, ell, r1, r2, tr0, sg1, e3, x5, pr_8_40, pr_8_97, pr_i_0, pr_i_1, pr_i_2, pr_i_4]; first | assumption | decide | exact ⟨by assumption, by assumption⟩ | exact ⟨Or.inl (by assumption), by assumption⟩ | omega) | decide | exact ⟨Or.inl (by assumption), by assumption⟩ | exact ⟨by assumption, by assumption⟩ | omega)⟩, (by first | assumption | (simp only [i7, ell, r1, r2, tr0, sg1, e3, x5, pr_8_40, pr_8_97, pr_i_0, pr_i_1, pr_i_2, pr_i_4]; first | assumption | decide | exact ⟨by assumption, by assumption⟩ | exact ⟨Or.inl (by assumption), by assumption⟩ | omega) | decide | exact ⟨Or.inl (by assumption), by assumption⟩ | exact ⟨by assumption, by assumption⟩ | omega)⟩, (by first | assumption | (simp only [i7, ell, r1, r2, tr0, sg1, e3, x5, pr_8_40, pr_8_97, pr_i_0, pr_i_1, pr_i_2, pr_i_4]; first | assumption | decide | exact ⟨by assumption, by assumption⟩ | exact ⟨Or.inl (by assumption), by assumption⟩ | omega) | decide | exact ⟨Or.inl (by assumption), by assumption⟩ | exact ⟨by assumption, by assumption⟩ | omega)⟩, trivial⟩, (by first | assumption | (simp only [i7, ell, r1, r2, tr0, sg1, e3, x5, pr_8_40, pr_8_97, pr_i_0, pr_i_1, pr_i_2, pr_i_4]; first | assumption | decide | exact ⟨by assumption, by assumption⟩ | exact ⟨Or.inl (by assumption), by assumption⟩ | omega) | decide | exact ⟨Or.inl (by assumption), by assumption⟩ | exact ⟨by assumption, by assumption⟩ | omega)⟩, (by first | assumption | (simp only [i7, ell, r1, r2, tr0, sg1, e3, x5, pr_8_40, pr_8_97, pr_i_0, pr_i_1, pr_i_2, pr_i_4]; first | assumption | decide | exact ⟨by assumption, by assumption⟩ | exact ⟨Or.inl (by assumption), by assumption⟩ | omega) | decide | exact ⟨Or.inl (by assumption), by assumption⟩ | exact ⟨by assumption, by assumption⟩ | omega)⟩, (by first | assumption | (simp only [i7, ell, r1, r2, tr0, sg1, e3, x5, pr_8_40, pr_8_97, pr_i_0, pr_i_1, pr_i_2, pr_i_4]; first | assumption | decide | exact ⟨by assumption, by assumption⟩ | exact ⟨Or.inl (by assumption), by assumption⟩ | omega) | decide | exact ⟨Or.inl (by assumption), by assumption⟩ | exact ⟨by assumption, by assumption⟩ | omega)⟩ ?_
                      try simp only [i7, ell, r1, r2, tr0, sg1, e3, x5, pr_8_40, pr_8_97, pr_i_0, pr_i_1, pr_i_2, pr_i_4]
                      (try simp only [j8]); exact pr_seqT 1 rfl ⟨trivial, n4⟩ (pr_cvX [] rfl rfl rfl rfl rfl (Nat.le_of_ble_eq_true rfl) k4 (Nat.le_of_ble_eq_true rfl) hsemi (fun v48 M48 q48 => by obtain ⟨rfl, q48⟩ := q48; exact pr_irT rfl (pr_b01 _) ⟨rfl, q48⟩))
                  · simp only [ab_cmp, pr_8_40, pr_8_97, pr_i_0, pr_i_1, pr_i_2, pr_i_4] at h72
                    first
                    | contradiction
                    | exact absurd trivial h72
                    | exact absurd h72 (by decide)
                    | exact absurd (Classical.not_not.mp h72) (by decide)
                    | skip
                      fail
              · simp only [ab_cmp, pr_8_40, pr_8_97, pr_i_0, pr_i_1, pr_i_2, pr_i_4] at h45
                first
                | contradiction
                | exact absurd trivial h45
                | exact absurd h45 (by decide)
                | exact absurd (Classical.not_not.mp h45) (by decide)
                | skip
                  fail
          · simp only [ab_cmp, pr_8_40, pr_8_97, pr_i_0, pr_i_1, pr_i_2, pr_i_4] at h26
            first
            | contradiction
            | exact absurd trivial h26
            | exact absurd h26 (by decide)
            | exact absurd (Classical.not_not.mp h26) (by decide)
            | skip
              fail
    refine pr_seqT (pc' := 2) 2 rfl ⟨⟨trivial, (by first | assumption | decide | exact ⟨Or.inl (by assumption), by assumption⟩ | exact ⟨by assumption, by assumption⟩ | omega)⟩, trivial⟩ ?_
    refine pr_cvX [_] rfl rfl rfl rfl rfl (Nat.le_of_ble_eq_true rfl) (by first | assumption | decide | exact ⟨Or.inl (by assumption), by assumption⟩ | exact ⟨by assumption, by assumption⟩ | omega) (Nat.le_of_ble_eq_true rfl) (hwo) (fun v2 M2 q2 => ?_)
    obtain ⟨e2, f1, rfl, i3, i4, i9, i7, i5⟩ := q2
    obtain ⟨I1, Z1⟩ := M2
    dsimp only at e2 f1 i3 i4 i9 i7 i5
    subst e2
    refine pr_ifT rfl (fun h5 => ?_) (fun h5 => ?_)
    · simp only [ab_cmp, pr_8_40, pr_8_97, pr_i_0, pr_i_1, pr_i_2, pr_i_4] at h5
      first
      | contradiction
      | exact absurd trivial h5
      | exact absurd h5 (by decide)
      | exact absurd (Classical.not_not.mp h5) (by decide)
      | skip
        exact key I1 f1 i3 i4 i9 i7 i5
    · simp only [ab_cmp, pr_8_40, pr_8_97, pr_i_0, pr_i_1, pr_i_2, pr_i_4] at h5
      first
      | contradiction
      | exact absurd trivial h5
      | exact absurd h5 (by decide)
      | exact absurd (Classical.not_not.mp h5) (by decide)
      | skip
        fail
theorem td_known {I : Nat → Nat → Int32} {t n v : Nat} {T : Tl} (hv : td_v I t T) (h6 : T.2.2.length < 6) (hn : n ≤ 5) (hv9 : v ≤ 999) : td_v (ab_u (ab_u (ab_u I (t + 29) T.2.2.length (nI n)) (t + 30) T.2.2.length (nI v)) t 5 (nI (T.2.2.length + 1))) t (T.1, T.2.1, T.2.2 ++ [(n, v)]) := by
  obtain ⟨v1, v2, v3, v4, v5, v6, v7⟩ := hv
  have hf : ∀ a, a ≠ t → a ≠ t + 29 → a ≠ t + 30 → ab_u (ab_u (ab_u I (t + 29) T.2.2.length (nI n)) (t + 30) T.2.2.length (nI v)) t 5 (nI (T.2.2.length + 1)) a = I a := fun a x y z => by rw [ab_u_ne x, ab_u_ne z, ab_u_ne y]
  refine ⟨ld_v_congr (fun a _ _ => hf a (by omega) (by omega) (by omega)) v1, by rw [ab_u_j (by decide), ab_u_ne (by omega), ab_u_ne (by omega)]; exact v2, v3, ?_, ?_, fun q w hq => ?_, fun i k hk => ?_⟩
  · show ab_u _ t 5 (nI (T.2.2.length + 1)) t 5 = nI (T.2.2 ++ [(n, v)]).length
    rw [ab_u_at, List.length_append]; rfl
  · show (T.2.2 ++ [(n, v)]).length ≤ 6
    rw [List.length_append]
    show T.2.2.length + 1 ≤ 6
    omega
  · have hl : q < T.2.1.length := (List.getElem?_eq_some_iff.mp hq).1
    exact ⟨nm_v_congr (hf _ (by omega) (by omega) (by omega)) (hf _ (by omega) (by omega) (by omega)) (v6 q w hq).1, (v6 q w hq).2⟩
  · rw [ab_u_ne (show t + 29 ≠ t by omega), ab_u_ne (show t + 29 ≠ t + 30 by omega), ab_u_ne (show t + 30 ≠ t by omega)]
    have hk : (T.2.2 ++ [(n, v)])[i]? = some k := hk
    by_cases e : i < T.2.2.length
    · rw [List.getElem?_append_left e] at hk
      rw [ab_u_j (by omega), ab_u_j (by omega), ab_u_ne (show t + 30 ≠ t + 29 by omega)]
      exact v7 i k hk
    · rw [List.getElem?_append_right (by omega)] at hk
      have hi : i = T.2.2.length := by
        have := (List.getElem?_eq_some_iff.mp hk).1
        have : i - T.2.2.length < 1 := this
        omega
      subst hi
      rw [Nat.sub_self] at hk
      cases hk
      rw [ab_u_at, ab_u_at]
      exact ⟨rfl, rfl, hn, hv9⟩
set_option maxHeartbeats 4000000 in
theorem c_tellKnown {t p s : Nat} {w : List Nat} {P : PS} (h : ab_H) (M : ab_M) (ht5 : 5 < t) (hr : pr_Rd h M.2.2 t) (ht : pr_Tl h M.2.2 t) (hw : tp_v M.1 w) (hps : ps_v M.1 t P) (g5 : M.1 4 5 = nI p) (g7 : M.1 4 7 = nI s) (hp : p ≤ w.length) : pr_X pX6_tellKnown [.ref 4] h M (ln_p t M (lnKnown w P s p)) := by
  obtain ⟨k4, r0, r1, r2, ⟨k2, s0, k3, l3⟩, k5, l5⟩ := id hr
  obtain ⟨t0, t1, -⟩ := id ht
  have n4 : (4 : Nat) ≠ 0 := by decide
  obtain ⟨p1, p2, p3, p4⟩ := id hps
  have v4 := p1.2.2.2.1
  have v5 := p1.2.2.2.2.1
  unfold lnKnown
  by_cases c6 : 6 ≤ P.1.2.2.length
  · rw [if_pos c6]
    have e1 : ¬ nI P.1.2.2.length < 6 := fun q => by
      have := (nI_ltI (a := P.1.2.2.length) (b := 6) (by omega) (by omega)).mp q
      omega
    refine pr_seqT (pc' := 9) 4 rfl ⟨⟨⟨⟨trivial, (by first | assumption | (simp only [r2, v4, g7, pr_16_999, pr_8_6, pr_i_0, pr_i_5]; first | assumption | decide | exact ⟨by assumption, by assumption⟩ | exact ⟨Or.inl (by assumption), by assumption⟩ | omega) | decide | exact ⟨Or.inl (by assumption), by assumption⟩ | exact ⟨by assumption, by assumption⟩ | omega)⟩, (by first | assumption | (simp only [r2, v4, g7, pr_16_999, pr_8_6, pr_i_0, pr_i_5]; first | assumption | decide | exact ⟨by assumption, by assumption⟩ | exact ⟨Or.inl (by assumption), by assumption⟩ | omega) | decide | exact ⟨Or.inl (by assumption), by assumption⟩ | exact ⟨by assumption, by assumption⟩ | omega)⟩, (by first | assumption | (simp only [r2, v4, g7, pr_16_999, pr_8_6, pr_i_0, pr_i_5]; first | assumption | decide | exact ⟨by assumption, by assumption⟩ | exact ⟨Or.inl (by assumption), by assumption⟩ | omega) | decide | exact ⟨Or.inl (by assumption), by assumption⟩ | exact ⟨by assumption, by assumption⟩ | omega)⟩, trivial⟩ ?_
    try simp only [r2, v4, g7, pr_16_999, pr_8_6, pr_i_0, pr_i_5]
    refine pr_icT rfl (fun h9 => ?_) (fun h9 => ?_)
    · simp only [ab_cmp, pr_16_999, pr_8_6, pr_i_0, pr_i_5] at h9
      first
      | contradiction
      | exact absurd trivial h9
      | exact absurd h9 (by decide)
      | exact absurd (Classical.not_not.mp h9) (by decide)
      | skip
        fail
    · simp only [ab_cmp, pr_16_999, pr_8_6, pr_i_0, pr_i_5] at h9
      first
      | contradiction
      | exact absurd trivial h9
      | exact absurd h9 (by decide)
      | exact absurd (Classical.not_not.mp h9) (by decide)
      | skip
        refine pr_seqT (pc' := 18) 4 rfl ⟨⟨⟨⟨trivial, (by first | assumption | (simp only [r2, v4, g7, pr_16_999, pr_8_6, pr_i_0, pr_i_5]; first | assumption | decide | exact ⟨by assumption, by assumption⟩ | exact ⟨Or.inl (by assumption), by assumption⟩ | omega) | decide | exact ⟨Or.inl (by assumption), by assumption⟩ | exact ⟨by assumption, by assumption⟩ | omega)⟩, trivial⟩, (by first | assumption | (simp only [r2, v4, g7, pr_16_999, pr_8_6, pr_i_0, pr_i_5]; first | assumption | decide | exact ⟨by assumption, by assumption⟩ | exact ⟨Or.inl (by assumption), by assumption⟩ | omega) | decide | exact ⟨Or.inl (by assumption), by assumption⟩ | exact ⟨by assumption, by assumption⟩ | omega)⟩, (by first | assumption | (simp only [r2, v4, g7, pr_16_999, pr_8_6, pr_i_0, pr_i_5]; first | assumption | decide | exact ⟨by assumption, by assumption⟩ | exact ⟨Or.inl (by assumption), by assumption⟩ | omega) | decide | exact ⟨Or.inl (by assumption), by assumption⟩ | exact ⟨by assumption, by assumption⟩ | omega)⟩ ?_
        try simp only [r2, v4, g7, pr_16_999, pr_8_6, pr_i_0, pr_i_5]
        refine pr_cvT [_, _] rfl rfl rfl rfl rfl (Nat.le_of_ble_eq_true rfl) (by first | assumption | (simp only [r2, v4, g7, pr_16_999, pr_8_6, pr_i_0, pr_i_5]; first | assumption | decide | exact ⟨by assumption, by assumption⟩ | exact ⟨Or.inl (by assumption), by assumption⟩ | omega) | decide | exact ⟨Or.inl (by assumption), by assumption⟩ | exact ⟨by assumption, by assumption⟩ | omega) (Nat.le_of_ble_eq_true rfl) (c_refuse 5 (nI s) h M k4) ?_
        exact pr_irT rfl (by first | exact Or.inl rfl | exact Or.inr rfl | exact pr_b01 _ | assumption) (by exact ln_ref (c := 5) (fun _ _ _ _ => rfl))
  · rw [if_neg c6]
    have e1 : nI P.1.2.2.length < 6 := (nI_ltI (a := P.1.2.2.length) (b := 6) (by omega) (by omega)).mpr (by omega)
    have hnum : pr_X pX6_takeNumber [.ref 4, .int 0, .int 5] h M (tk_p (fun q I => I 4 8 = nI q.1 ∧ I 4 5 = nI q.2) M (tNum w 0 5 p)) := c_takeNumber (lo := 0) (hi := 5) h M hr hw g5 hp (by decide) (by decide)
    cases he : tNum w 0 5 p with
    | error q =>
      rw [he] at hnum
      refine pr_seqT (pc' := 9) 4 rfl ⟨⟨⟨⟨trivial, (by first | assumption | (simp only [r2, v4, pr_16_999, pr_8_6, pr_i_0, pr_i_5]; first | assumption | decide | exact ⟨by assumption, by assumption⟩ | exact ⟨Or.inl (by assumption), by assumption⟩ | omega) | decide | exact ⟨Or.inl (by assumption), by assumption⟩ | exact ⟨by assumption, by assumption⟩ | omega)⟩, (by first | assumption | (simp only [r2, v4, pr_16_999, pr_8_6, pr_i_0, pr_i_5]; first | assumption | decide | exact ⟨by assumption, by assumption⟩ | exact ⟨Or.inl (by assumption), by assumption⟩ | omega) | decide | exact ⟨Or.inl (by assumption), by assumption⟩ | exact ⟨by assumption, by assumption⟩ | omega)⟩, (by first | assumption | (simp only [r2, v4, pr_16_999, pr_8_6, pr_i_0, pr_i_5]; first | assumption | decide | exact ⟨by assumption, by assumption⟩ | exact ⟨Or.inl (by assumption), by assumption⟩ | omega) | decide | exact ⟨Or.inl (by assumption), by assumption⟩ | exact ⟨by assumption, by assumption⟩ | omega)⟩, trivial⟩ ?_
      try simp only [r2, v4, pr_16_999, pr_8_6, pr_i_0, pr_i_5]
      refine pr_icT rfl (fun h9 => ?_) (fun h9 => ?_)
      · simp only [ab_cmp, pr_16_999, pr_8_6, pr_i_0, pr_i_5] at h9
        first
        | contradiction
        | exact absurd trivial h9
        | exact absurd h9 (by decide)
        | exact absurd (Classical.not_not.mp h9) (by decide)
        | skip
          refine pr_seqT (pc' := 25) 3 rfl ⟨⟨⟨trivial, (by first | assumption | (simp only [r2, v4, pr_16_999, pr_8_6, pr_i_0, pr_i_5]; first | assumption | decide | exact ⟨by assumption, by assumption⟩ | exact ⟨Or.inl (by assumption), by assumption⟩ | omega) | decide | exact ⟨Or.inl (by assumption), by assumption⟩ | exact ⟨by assumption, by assumption⟩ | omega)⟩, trivial⟩, trivial⟩ ?_
          try simp only [r2, v4, pr_16_999, pr_8_6, pr_i_0, pr_i_5]
          refine pr_cvX [_, _] rfl rfl rfl rfl rfl (Nat.le_of_ble_eq_true rfl) (by first | assumption | (simp only [r2, v4, pr_16_999, pr_8_6, pr_i_0, pr_i_5]; first | assumption | decide | exact ⟨by assumption, by assumption⟩ | exact ⟨Or.inl (by assumption), by assumption⟩ | omega) | decide | exact ⟨Or.inl (by assumption), by assumption⟩ | exact ⟨by assumption, by assumption⟩ | omega) (Nat.le_of_ble_eq_true rfl) (hnum) (fun v25 M25 q25 => ?_)
          obtain ⟨e2, f1, rfl, h9, h10⟩ := q25
          obtain ⟨I1, Z1⟩ := M25
          dsimp only at e2 f1 h9 h10
          subst e2
          refine pr_ifT rfl (fun h28 => ?_) (fun h28 => ?_)
          · simp only [ab_cmp, pr_16_999, pr_8_6, pr_i_0, pr_i_5] at h28
            first
            | contradiction
            | exact absurd trivial h28
            | exact absurd h28 (by decide)
            | exact absurd (Classical.not_not.mp h28) (by decide)
            | skip
              fail
          · simp only [ab_cmp, pr_16_999, pr_8_6, pr_i_0, pr_i_5] at h28
            first
            | contradiction
            | exact absurd trivial h28
            | exact absurd h28 (by decide)
            | exact absurd (Classical.not_not.mp h28) (by decide)
            | skip
              refine pr_seqT (pc' := 32) 1 rfl ⟨trivial, trivial⟩ ?_
              try simp only [r2, v4, pr_16_999, pr_8_6, pr_i_0, pr_i_5]
              exact pr_irT rfl (by first | exact Or.inl rfl | exact Or.inr rfl | exact pr_b01 _ | assumption) (by exact ln_err (fr_rd4 f1) h9 h10)
      · simp only [ab_cmp, pr_16_999, pr_8_6, pr_i_0, pr_i_5] at h9
        first
        | contradiction
        | exact absurd trivial h9
        | exact absurd h9 (by decide)
        | exact absurd (Classical.not_not.mp h9) (by decide)
        | skip
          fail
    | ok x =>
      obtain ⟨n, p'⟩ := x
      rw [he] at hnum
      obtain ⟨b1, b2, b3, b4, b5⟩ := tNum_ok hp he
      dsimp only
      have key : ∀ I1 : Nat → Nat → Int32, rd4 M.1 I1 → I1 4 3 = M.1 4 3 → I1 4 4 = M.1 4 4 → I1 4 9 = M.1 4 9 → I1 4 8 = nI n → I1 4 5 = nI p' → pr_T pX6_tellKnown 33 [some (.ref 4), none] [] h (I1, M.2) (ln_p t M (match tNum w 0 999 p' with
          | .error e => .error e
          | .ok y => thenSemi w (pKn P n y.1) y.2)) := by
        intro I1 f1 i3 i4 i9 i8 i5
        have hnum2 : pr_X pX6_takeNumber [.ref 4, .int 0, .int 999] h (I1, M.2) (tk_p (fun q I => I 4 8 = nI q.1 ∧ I 4 5 = nI q.2) (I1, M.2) (tNum w 0 999 p')) := c_takeNumber (lo := 0) (hi := 999) h (I1, M.2) hr (tp_rd4 f1 hw) i5 b5 (by decide) (by decide)
        cases he2 : tNum w 0 999 p' with
        | error q =>
          rw [he2] at hnum2
          refine pr_seqT (pc' := 43) 6 rfl ⟨⟨⟨⟨⟨⟨trivial, (by first | assumption | (simp only [i8, pr_16_999, pr_8_6, pr_i_0, pr_i_5]; first | assumption | decide | exact ⟨by assumption, by assumption⟩ | exact ⟨Or.inl (by assumption), by assumption⟩ | omega) | decide | exact ⟨Or.inl (by assumption), by assumption⟩ | exact ⟨by assumption, by assumption⟩ | omega)⟩, (by first | assumption | (simp only [i8, pr_16_999, pr_8_6, pr_i_0, pr_i_5]; first | assumption | decide | exact ⟨by assumption, by assumption⟩ | exact ⟨Or.inl (by assumption), by assumption⟩ | omega) | decide | exact ⟨Or.inl (by assumption), by assumption⟩ | exact ⟨by assumption, by assumption⟩ | omega)⟩, trivial⟩, (by first | assumption | (simp only [i8, pr_16_999, pr_8_6, pr_i_0, pr_i_5]; first | assumption | decide | exact ⟨by assumption, by assumption⟩ | exact ⟨Or.inl (by assumption), by assumption⟩ | omega) | decide | exact ⟨Or.inl (by assumption), by assumption⟩ | exact ⟨by assumption, by assumption⟩ | omega)⟩, trivial⟩, trivial⟩ ?_
          try simp only [i8, pr_16_999, pr_8_6, pr_i_0, pr_i_5]
          refine pr_cvX [_, _] rfl rfl rfl rfl rfl (Nat.le_of_ble_eq_true rfl) (by first | assumption | (simp only [i8, pr_16_999, pr_8_6, pr_i_0, pr_i_5]; first | assumption | decide | exact ⟨by assumption, by assumption⟩ | exact ⟨Or.inl (by assumption), by assumption⟩ | omega) | decide | exact ⟨Or.inl (by assumption), by assumption⟩ | exact ⟨by assumption, by assumption⟩ | omega) (Nat.le_of_ble_eq_true rfl) (hnum2) (fun v43 M43 q43 => ?_)
          obtain ⟨e2, f2, rfl, h9, h10⟩ := q43
          obtain ⟨I2, Z2⟩ := M43
          dsimp only at e2 f2 h9 h10
          subst e2
          refine pr_ifT rfl (fun h46 => ?_) (fun h46 => ?_)
          · simp only [ab_cmp, pr_16_999, pr_8_6, pr_i_0, pr_i_5] at h46
            first
            | contradiction
            | exact absurd trivial h46
            | exact absurd h46 (by decide)
            | exact absurd (Classical.not_not.mp h46) (by decide)
            | skip
              fail
          · simp only [ab_cmp, pr_16_999, pr_8_6, pr_i_0, pr_i_5] at h46
            first
            | contradiction
            | exact absurd trivial h46
            | exact absurd h46 (by decide)
            | exact absurd (Classical.not_not.mp h46) (by decide)
            | skip
              refine pr_seqT (pc' := 50) 1 rfl ⟨trivial, trivial⟩ ?_
              try simp only [i8, pr_16_999, pr_8_6, pr_i_0, pr_i_5]
              exact pr_irT rfl (by first | exact Or.inl rfl | exact Or.inr rfl | exact pr_b01 _ | assumption) (by exact ln_err (fr_trans (fr_rd4 f1) (fr_rd4 f2)) h9 h10)
        | ok y =>
          obtain ⟨v, p''⟩ := y
          rw [he2] at hnum2
          obtain ⟨d1, d2, d3, d4, d5⟩ := tNum_ok b5 he2
          dsimp only
          have key2 : ∀ I2 : Nat → Nat → Int32, rd4 M.1 I2 → I2 4 3 = M.1 4 3 → I2 4 4 = M.1 4 4 → I2 4 9 = M.1 4 9 → I2 4 8 = nI v → I2 4 5 = nI p'' → pr_T pX6_tellKnown 51 [some (.ref 4), some (.int (nI n))] [] h (I2, M.2) (ln_p t M (thenSemi w (pKn P n v) p'')) := by
            intro I2 f2 j3 j4 j9 j8 j5
            have x5 : I2 t 5 = nI P.1.2.2.length := by rw [f2 t (by omega)]; exact v4
            have hak := c_addKnown (n := n) (s := v) h (I2, M.2) ht x5 v5
            rw [decide_eq_true (show P.1.2.2.length < 6 by omega), if_pos (by omega)] at hak
            have htd := td_known (n := n) (v := v) (td_congr (fun a _ _ => f2 a (by omega)) p1) (show P.1.2.2.length < 6 by omega) b2 d2
            have hI : ∀ a, a ≠ t → a ≠ t + 29 → a ≠ t + 30 → ab_u (ab_u (ab_u I2 (t + 29) P.1.2.2.length (nI n)) (t + 30) P.1.2.2.length (nI v)) t 5 (nI (P.1.2.2.length + 1)) a = I2 a := fun a x y z => by rw [ab_u_ne x, ab_u_ne z, ab_u_ne y]
            generalize ab_u (ab_u (ab_u I2 (t + 29) P.1.2.2.length (nI n)) (t + 30) P.1.2.2.length (nI v)) t 5 (nI (P.1.2.2.length + 1)) = I3 at hak htd hI
            have hps2 : ps_v I3 t (pKn P n v) := ⟨htd, by rw [hI 4 (by omega) (by omega) (by omega), j3]; exact p2, by rw [hI 4 (by omega) (by omega) (by omega), j4]; exact p3, fun l hl => by rw [hI 5 (by omega) (by omega) (by omega), f2 5 (by decide)]; exact p4 l hl⟩
            have hsemi := c_semi (p := p'') (M := M) h I3 ht5 hr (tp_v_congr (by rw [hI 2 (by omega) (by omega) (by omega)]; exact f2 2 (by decide)) (by rw [hI 3 (by omega) (by omega) (by omega)]; exact f2 3 (by decide)) hw) (by rw [hI 4 (by omega) (by omega) (by omega)]; exact j5) d5 hps2 (by rw [hI 4 (by omega) (by omega) (by omega)]; exact j9) (fun a x y z => by rw [hI a (by omega) (by omega) (by omega)]; exact f2 a x)
            refine pr_seqT (pc' := 60) 5 rfl ⟨⟨⟨⟨⟨trivial, (by first | assumption | (simp only [r2, j8, pr_16_999, pr_8_6, pr_i_0, pr_i_5]; first | assumption | decide | exact ⟨by assumption, by assumption⟩ | exact ⟨Or.inl (by assumption), by assumption⟩ | omega) | decide | exact ⟨Or.inl (by assumption), by assumption⟩ | exact ⟨by assumption, by assumption⟩ | omega)⟩, (by first | assumption | (simp only [r2, j8, pr_16_999, pr_8_6, pr_i_0, pr_i_5]; first | assumption | decide | exact ⟨by assumption, by assumption⟩ | exact ⟨Or.inl (by assumption), by assumption⟩ | omega) | decide | exact ⟨Or.inl (by assumption), by assumption⟩ | exact ⟨by assumption, by assumption⟩ | omega)⟩, trivial⟩, (by first | assumption | (simp only [r2, j8, pr_16_999, pr_8_6, pr_i_0, pr_i_5]; first | assumption | decide | exact ⟨by assumption, by assumption⟩ | exact ⟨Or.inl (by assumption), by assumption⟩ | omega) | decide | exact ⟨Or.inl (by assumption), by assumption⟩ | exact ⟨by assumption, by assumption⟩ | omega)⟩, (by first | assumption | (simp only [r2, j8, pr_16_999, pr_8_6, pr_i_0, pr_i_5]; first | assumption | decide | exact ⟨by assumption, by assumption⟩ | exact ⟨Or.inl (by assumption), by assumption⟩ | omega) | decide | exact ⟨Or.inl (by assumption), by assumption⟩ | exact ⟨by assumption, by assumption⟩ | omega)⟩ ?_
            try simp only [r2, j8, pr_16_999, pr_8_6, pr_i_0, pr_i_5]
            refine pr_cvT [_, _] rfl rfl rfl rfl rfl (Nat.le_of_ble_eq_true rfl) (by first | assumption | (simp only [r2, j8, pr_16_999, pr_8_6, pr_i_0, pr_i_5]; first | assumption | decide | exact ⟨by assumption, by assumption⟩ | exact ⟨Or.inl (by assumption), by assumption⟩ | omega) | decide | exact ⟨Or.inl (by assumption), by assumption⟩ | exact ⟨by assumption, by assumption⟩ | omega) (Nat.le_of_ble_eq_true rfl) (hak) ?_
            refine pr_seqT (pc' := 64) 1 rfl ⟨trivial, trivial⟩ ?_
            try simp only [r2, j8, pr_16_999, pr_8_6, pr_i_0, pr_i_5]
            exact pr_seqT 1 rfl ⟨trivial, n4⟩ (pr_cvX [] rfl rfl rfl rfl rfl (Nat.le_of_ble_eq_true rfl) k4 (Nat.le_of_ble_eq_true rfl) hsemi (fun v48 M48 q48 => by obtain ⟨rfl, q48⟩ := q48; exact pr_irT rfl (pr_b01 _) ⟨rfl, q48⟩))
          refine pr_seqT (pc' := 43) 6 rfl ⟨⟨⟨⟨⟨⟨trivial, (by first | assumption | (simp only [i8, pr_16_999, pr_8_6, pr_i_0, pr_i_5]; first | assumption | decide | exact ⟨by assumption, by assumption⟩ | exact ⟨Or.inl (by assumption), by assumption⟩ | omega) | decide | exact ⟨Or.inl (by assumption), by assumption⟩ | exact ⟨by assumption, by assumption⟩ | omega)⟩, (by first | assumption | (simp only [i8, pr_16_999, pr_8_6, pr_i_0, pr_i_5]; first | assumption | decide | exact ⟨by assumption, by assumption⟩ | exact ⟨Or.inl (by assumption), by assumption⟩ | omega) | decide | exact ⟨Or.inl (by assumption), by assumption⟩ | exact ⟨by assumption, by assumption⟩ | omega)⟩, trivial⟩, (by first | assumption | (simp only [i8, pr_16_999, pr_8_6, pr_i_0, pr_i_5]; first | assumption | decide | exact ⟨by assumption, by assumption⟩ | exact ⟨Or.inl (by assumption), by assumption⟩ | omega) | decide | exact ⟨Or.inl (by assumption), by assumption⟩ | exact ⟨by assumption, by assumption⟩ | omega)⟩, trivial⟩, trivial⟩ ?_
          try simp only [i8, pr_16_999, pr_8_6, pr_i_0, pr_i_5]
          refine pr_cvX [_, _] rfl rfl rfl rfl rfl (Nat.le_of_ble_eq_true rfl) (by first | assumption | (simp only [i8, pr_16_999, pr_8_6, pr_i_0, pr_i_5]; first | assumption | decide | exact ⟨by assumption, by assumption⟩ | exact ⟨Or.inl (by assumption), by assumption⟩ | omega) | decide | exact ⟨Or.inl (by assumption), by assumption⟩ | exact ⟨by assumption, by assumption⟩ | omega) (Nat.le_of_ble_eq_true rfl) (hnum2) (fun v43 M43 q43 => ?_)
          obtain ⟨e2, f2, rfl, j3, j4, j9, j8, j5⟩ := q43
          obtain ⟨I2, Z2⟩ := M43
          dsimp only at e2 f2 j3 j4 j9 j8 j5
          subst e2
          refine pr_ifT rfl (fun h46 => ?_) (fun h46 => ?_)
          · simp only [ab_cmp, pr_16_999, pr_8_6, pr_i_0, pr_i_5] at h46
            first
            | contradiction
            | exact absurd trivial h46
            | exact absurd h46 (by decide)
            | exact absurd (Classical.not_not.mp h46) (by decide)
            | skip
              exact key2 I2 (fun a ha => by rw [f2 a ha]; exact f1 a ha) (by rw [j3]; exact i3) (by rw [j4]; exact i4) (by rw [j9]; exact i9) j8 j5
          · simp only [ab_cmp, pr_16_999, pr_8_6, pr_i_0, pr_i_5] at h46
            first
            | contradiction
            | exact absurd trivial h46
            | exact absurd h46 (by decide)
            | exact absurd (Classical.not_not.mp h46) (by decide)
            | skip
              fail
      refine pr_seqT (pc' := 9) 4 rfl ⟨⟨⟨⟨trivial, (by first | assumption | (simp only [r2, v4, pr_16_999, pr_8_6, pr_i_0, pr_i_5]; first | assumption | decide | exact ⟨by assumption, by assumption⟩ | exact ⟨Or.inl (by assumption), by assumption⟩ | omega) | decide | exact ⟨Or.inl (by assumption), by assumption⟩ | exact ⟨by assumption, by assumption⟩ | omega)⟩, (by first | assumption | (simp only [r2, v4, pr_16_999, pr_8_6, pr_i_0, pr_i_5]; first | assumption | decide | exact ⟨by assumption, by assumption⟩ | exact ⟨Or.inl (by assumption), by assumption⟩ | omega) | decide | exact ⟨Or.inl (by assumption), by assumption⟩ | exact ⟨by assumption, by assumption⟩ | omega)⟩, (by first | assumption | (simp only [r2, v4, pr_16_999, pr_8_6, pr_i_0, pr_i_5]; first | assumption | decide | exact ⟨by assumption, by assumption⟩ | exact ⟨Or.inl (by assumption), by assumption⟩ | omega) | decide | exact ⟨Or.inl (by assumption), by assumption⟩ | exact ⟨by assumption, by assumption⟩ | omega)⟩, trivial⟩ ?_
      try simp only [r2, v4, pr_16_999, pr_8_6, pr_i_0, pr_i_5]
      refine pr_icT rfl (fun h9 => ?_) (fun h9 => ?_)
      · simp only [ab_cmp, pr_16_999, pr_8_6, pr_i_0, pr_i_5] at h9
        first
        | contradiction
        | exact absurd trivial h9
        | exact absurd h9 (by decide)
        | exact absurd (Classical.not_not.mp h9) (by decide)
        | skip
          refine pr_seqT (pc' := 25) 3 rfl ⟨⟨⟨trivial, (by first | assumption | (simp only [r2, v4, pr_16_999, pr_8_6, pr_i_0, pr_i_5]; first | assumption | decide | exact ⟨by assumption, by assumption⟩ | exact ⟨Or.inl (by assumption), by assumption⟩ | omega) | decide | exact ⟨Or.inl (by assumption), by assumption⟩ | exact ⟨by assumption, by assumption⟩ | omega)⟩, trivial⟩, trivial⟩ ?_
          try simp only [r2, v4, pr_16_999, pr_8_6, pr_i_0, pr_i_5]
          refine pr_cvX [_, _] rfl rfl rfl rfl rfl (Nat.le_of_ble_eq_true rfl) (by first | assumption | (simp only [r2, v4, pr_16_999, pr_8_6, pr_i_0, pr_i_5]; first | assumption | decide | exact ⟨by assumption, by assumption⟩ | exact ⟨Or.inl (by assumption), by assumption⟩ | omega) | decide | exact ⟨Or.inl (by assumption), by assumption⟩ | exact ⟨by assumption, by assumption⟩ | omega) (Nat.le_of_ble_eq_true rfl) (hnum) (fun v25 M25 q25 => ?_)
          obtain ⟨e2, f1, rfl, i3, i4, i9, i8, i5⟩ := q25
          obtain ⟨I1, Z1⟩ := M25
          dsimp only at e2 f1 i3 i4 i9 i8 i5
          subst e2
          refine pr_ifT rfl (fun h28 => ?_) (fun h28 => ?_)
          · simp only [ab_cmp, pr_16_999, pr_8_6, pr_i_0, pr_i_5] at h28
            first
            | contradiction
            | exact absurd trivial h28
            | exact absurd h28 (by decide)
            | exact absurd (Classical.not_not.mp h28) (by decide)
            | skip
              exact key I1 f1 i3 i4 i9 i8 i5
          · simp only [ab_cmp, pr_16_999, pr_8_6, pr_i_0, pr_i_5] at h28
            first
            | contradiction
            | exact absurd trivial h28
            | exact absurd h28 (by decide)
            | exact absurd (Classical.not_not.mp h28) (by decide)
            | skip
              fail
      · simp only [ab_cmp, pr_16_999, pr_8_6, pr_i_0, pr_i_5] at h9
        first
        | contradiction
        | exact absurd trivial h9
        | exact absurd h9 (by decide)
        | exact absurd (Classical.not_not.mp h9) (by decide)
        | skip
          fail
