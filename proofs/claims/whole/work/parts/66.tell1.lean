
/-! ===== the draft, and the lines law, fee, letter, known ===== -/
def td_v (I : Nat → Nat → Int32) (t : Nat) (T : Tl) : Prop := ld_v I (t + 1) T.1 ∧ I t 4 = nI T.2.1.length ∧ T.2.1.length ≤ 6 ∧ I t 5 = nI T.2.2.length ∧ T.2.2.length ≤ 6 ∧ (∀ q w, T.2.1[q]? = some w → nm_v I (t + 31 + 2 * q) w ∧ w.length ≤ 10) ∧ ∀ i k, T.2.2[i]? = some k → I (t + 29) i = nI k.1 ∧ I (t + 30) i = nI k.2 ∧ k.1 ≤ 5 ∧ k.2 ≤ 999
def ps_v (I : Nat → Nat → Int32) (t : Nat) (P : PS) : Prop := td_v I t P.1 ∧ I 4 3 = pr_b P.2.1 ∧ I 4 4 = pr_b P.2.2.1 ∧ ∀ l, l < 26 → I 5 l = pr_b (P.2.2.2 l)
def fr (t : Nat) (I I' : Nat → Nat → Int32) : Prop := ∀ a, a ≠ 4 → a ≠ 5 → (a < t ∨ t + 43 ≤ a) → I' a = I a
def ln_p (t : Nat) (M : ab_M) (e : Except (Nat × Nat) (PS × Nat)) (r : Option Value) (M' : ab_M) : Prop := r = some (.int (pr_b (okB e))) ∧ M'.2 = M.2 ∧ fr t M.1 M'.1 ∧ match e with
  | .error q => M'.1 4 9 = nI q.1 ∧ M'.1 4 10 = nI q.2
  | .ok x => M'.1 4 9 = M.1 4 9 ∧ M'.1 4 5 = nI x.2 ∧ ps_v M'.1 t x.1
theorem td_congr {I I' : Nat → Nat → Int32} {t : Nat} {T : Tl} (h : ∀ a, t ≤ a → a < t + 43 → I' a = I a) (hv : td_v I t T) : td_v I' t T := by
  obtain ⟨v1, v2, v3, v4, v5, v6, v7⟩ := hv
  refine ⟨ld_v_congr (fun a _ _ => h a (by omega) (by omega)) v1, by rw [h t (by omega) (by omega)]; exact v2, v3, by rw [h t (by omega) (by omega)]; exact v4, v5, fun q w hq => ?_, fun i k hk => ?_⟩
  · have hl : q < T.2.1.length := (List.getElem?_eq_some_iff.mp hq).1
    exact ⟨nm_v_congr (h _ (by omega) (by omega)) (h _ (by omega) (by omega)) (v6 q w hq).1, (v6 q w hq).2⟩
  · rw [h _ (by omega) (by omega), h _ (by omega) (by omega)]
    exact v7 i k hk
theorem ps_rd4 {I I' : Nat → Nat → Int32} {t : Nat} {P : PS} (ht : 5 < t) (f : rd4 I I') (h3 : I' 4 3 = I 4 3) (h4 : I' 4 4 = I 4 4) (hv : ps_v I t P) : ps_v I' t P := by
  obtain ⟨v1, v2, v3, v4⟩ := hv
  exact ⟨td_congr (fun a _ _ => f a (by omega)) v1, by rw [h3]; exact v2, by rw [h4]; exact v3, fun l hl => by rw [f 5 (by decide)]; exact v4 l hl⟩
theorem tp_rd4 {I I' : Nat → Nat → Int32} {w : List Nat} (f : rd4 I I') (hv : tp_v I w) : tp_v I' w := tp_v_congr (f 2 (by decide)) (f 3 (by decide)) hv
theorem tp_fr {I I' : Nat → Nat → Int32} {t : Nat} {w : List Nat} (ht : 5 < t) (f : fr t I I') (hv : tp_v I w) : tp_v I' w := tp_v_congr (f 2 (by decide) (by decide) (by omega)) (f 3 (by decide) (by decide) (by omega)) hv
theorem fr_rd4 {t : Nat} {I I' : Nat → Nat → Int32} (f : rd4 I I') : fr t I I' := fun a h4 _ _ => f a h4
theorem fr_trans {t : Nat} {I I' I'' : Nat → Nat → Int32} (f : fr t I I') (g : fr t I' I'') : fr t I I'' := fun a x y z => by rw [g a x y z]; exact f a x y z
theorem ln_ref {t : Nat} {M : ab_M} {I1 : Nat → Nat → Int32} {c s : Nat} (f1 : fr t M.1 I1) : ln_p t M (.error (c, s)) (some (.int (pr_b false))) (ab_u (ab_u I1 4 9 (nI c)) 4 10 (nI s), M.2) := ⟨rfl, rfl, fun a h4 h5 hh => by dsimp only; rw [ab_u_ne h4, ab_u_ne h4]; exact f1 a h4 h5 hh, by dsimp only; rw [ab_u_j (by decide), ab_u_at], by dsimp only; rw [ab_u_at]⟩
/-- a fault that was met within -/
theorem ln_err {t : Nat} {M : ab_M} {I1 : Nat → Nat → Int32} {q : Nat × Nat} (f1 : fr t M.1 I1) (h9 : I1 4 9 = nI q.1) (h10 : I1 4 10 = nI q.2) : ln_p t M (.error q) (some (.int (pr_b false))) (I1, M.2) := ⟨rfl, rfl, f1, h9, h10⟩
theorem c_semi {t p : Nat} {w : List Nat} {P : PS} {M : ab_M} (h : ab_H) (I3 : Nat → Nat → Int32) (ht : 5 < t) (hr : pr_Rd h M.2.2 t) (hw : tp_v I3 w) (h5 : I3 4 5 = nI p) (hp : p ≤ w.length) (hps : ps_v I3 t P) (h9 : I3 4 9 = M.1 4 9) (hf : fr t M.1 I3) : pr_X pX6_takeSemicolon [.ref 4] h (I3, M.2) (ln_p t M (thenSemi w P p)) := by
  have hs := c_takeSemi h (I3, M.2) hr hw h5 hp
  unfold thenSemi
  refine pr_T.mono hs (fun r M' hq => ?_)
  obtain ⟨e1, f1, hm⟩ := hq
  cases he : tSemi w p with
  | error q =>
    rw [he] at hm
    exact ⟨hm.1, e1, fr_trans hf (fr_rd4 f1), hm.2⟩
  | ok q =>
    rw [he] at hm
    obtain ⟨m1, m2, m3, m4, m5⟩ := hm
    exact ⟨m1, e1, fr_trans hf (fr_rd4 f1), by rw [m4]; exact h9, m5, ps_rd4 ht f1 m2 m3 hps⟩
theorem td_land {I I' : Nat → Nat → Int32} {t : Nat} {T : Tl} {d : Ld} (hv : td_v I t T) (hf : ∀ a, t ≤ a → a < t + 43 → (a < t + 1 ∨ t + 28 ≤ a) → I' a = I a) (hd : ld_v I' (t + 1) d) : td_v I' t (d, T.2) := by
  obtain ⟨v1, v2, v3, v4, v5, v6, v7⟩ := hv
  refine ⟨hd, by rw [hf _ (by omega) (by omega) (by omega)]; exact v2, v3, by rw [hf _ (by omega) (by omega) (by omega)]; exact v4, v5, fun q w hq => ?_, fun i k hk => ?_⟩
  · have hl : q < T.2.1.length := (List.getElem?_eq_some_iff.mp hq).1
    exact ⟨nm_v_congr (hf _ (by omega) (by omega) (by omega)) (hf _ (by omega) (by omega) (by omega)) (v6 q w hq).1, (v6 q w hq).2⟩
  · rw [hf _ (by omega) (by omega) (by omega), hf _ (by omega) (by omega) (by omega)]
    exact v7 i k hk
theorem ld_law {I : Nat → Nat → Int32} {g v : Nat} {d : Ld} (hv : v ≤ 1) (hd : ld_v I g d) : ld_v (ab_u I g 3 (nI v)) g (d.1, d.2.1, v, d.2.2.2) := by
  obtain ⟨d1, d2, d3, d4, d5, d6, d7, d8⟩ := hd
  have hf : ∀ a, a ≠ g → ab_u I g 3 (nI v) a = I a := fun a ha => ab_u_ne ha
  exact ⟨by rw [ab_u_j (by decide)]; exact d1, d2, ab_u_at, hv, by rw [ab_u_j (by decide)]; exact d5, d6, fun l hl => by rw [hf _ (by omega)]; exact d7 l hl, fun p q hq => on_v_congr (hf _ (by omega)) (hf _ (by omega)) (hf _ (by omega)) (d8 p q hq)⟩
theorem ld_fee {I : Nat → Nat → Int32} {g v : Nat} {d : Ld} (hv : 1 ≤ v ∧ v ≤ 9) (hd : ld_v I g d) : ld_v (ab_u I g 4 (nI v)) g (d.1, d.2.1, d.2.2.1, v) := by
  obtain ⟨d1, d2, d3, d4, d5, d6, d7, d8⟩ := hd
  have hf : ∀ a, a ≠ g → ab_u I g 4 (nI v) a = I a := fun a ha => ab_u_ne ha
  exact ⟨by rw [ab_u_j (by decide)]; exact d1, d2, by rw [ab_u_j (by decide)]; exact d3, d4, ab_u_at, hv, fun l hl => by rw [hf _ (by omega)]; exact d7 l hl, fun p q hq => on_v_congr (hf _ (by omega)) (hf _ (by omega)) (hf _ (by omega)) (d8 p q hq)⟩
theorem c_tellLaw {t p s : Nat} {w : List Nat} {P : PS} (h : ab_H) (M : ab_M) (ht5 : 5 < t) (hr : pr_Rd h M.2.2 t) (ht : pr_Tl h M.2.2 t) (hw : tp_v M.1 w) (hps : ps_v M.1 t P) (g5 : M.1 4 5 = nI p) (g7 : M.1 4 7 = nI s) (hp : p ≤ w.length) : pr_X pX6_tellLaw [.ref 4] h M (ln_p t M (lnLaw w P s p)) := by
  obtain ⟨k4, r0, r1, r2, ⟨k2, s0, k3, l3⟩, k5, l5⟩ := id hr
  obtain ⟨t0, t1, tr0, tr1, tr2, tr3, hg, -⟩ := id ht
  obtain ⟨g0, g1, -⟩ := id hg
  have n4 : (4 : Nat) ≠ 0 := by decide
  obtain ⟨p1, p2, p3, p4⟩ := id hps
  unfold lnLaw
  cases hb : P.2.1 with
  | true =>
    rw [hb] at p2
    have p2 : M.1 4 3 = 1 := p2
    rw [if_pos rfl]
    refine pr_seqT (pc' := 4) 2 rfl ⟨⟨trivial, (by first | assumption | (simp only [p2, g7, pr_i_0, pr_i_1, pr_i_4]; first | assumption | decide | exact ⟨by assumption, by assumption⟩ | exact ⟨Or.inl (by assumption), by assumption⟩ | omega) | decide | exact ⟨Or.inl (by assumption), by assumption⟩ | exact ⟨by assumption, by assumption⟩ | omega)⟩, (by first | assumption | (simp only [p2, g7, pr_i_0, pr_i_1, pr_i_4]; first | assumption | decide | exact ⟨by assumption, by assumption⟩ | exact ⟨Or.inl (by assumption), by assumption⟩ | omega) | decide | exact ⟨Or.inl (by assumption), by assumption⟩ | exact ⟨by assumption, by assumption⟩ | omega)⟩ ?_
    try simp only [p2, g7, pr_i_0, pr_i_1, pr_i_4]
    refine pr_ifT rfl (fun h4 => ?_) (fun h4 => ?_)
    · simp only [ab_cmp, pr_i_0, pr_i_1, pr_i_4] at h4
      first
      | contradiction
      | exact absurd trivial h4
      | exact absurd h4 (by decide)
      | exact absurd (Classical.not_not.mp h4) (by decide)
      | skip
        fail
    · simp only [ab_cmp, pr_i_0, pr_i_1, pr_i_4] at h4
      first
      | contradiction
      | exact absurd trivial h4
      | exact absurd h4 (by decide)
      | exact absurd (Classical.not_not.mp h4) (by decide)
      | skip
        refine pr_seqT (pc' := 13) 4 rfl ⟨⟨⟨⟨trivial, (by first | assumption | (simp only [p2, g7, pr_i_0, pr_i_1, pr_i_4]; first | assumption | decide | exact ⟨by assumption, by assumption⟩ | exact ⟨Or.inl (by assumption), by assumption⟩ | omega) | decide | exact ⟨Or.inl (by assumption), by assumption⟩ | exact ⟨by assumption, by assumption⟩ | omega)⟩, trivial⟩, (by first | assumption | (simp only [p2, g7, pr_i_0, pr_i_1, pr_i_4]; first | assumption | decide | exact ⟨by assumption, by assumption⟩ | exact ⟨Or.inl (by assumption), by assumption⟩ | omega) | decide | exact ⟨Or.inl (by assumption), by assumption⟩ | exact ⟨by assumption, by assumption⟩ | omega)⟩, (by first | assumption | (simp only [p2, g7, pr_i_0, pr_i_1, pr_i_4]; first | assumption | decide | exact ⟨by assumption, by assumption⟩ | exact ⟨Or.inl (by assumption), by assumption⟩ | omega) | decide | exact ⟨Or.inl (by assumption), by assumption⟩ | exact ⟨by assumption, by assumption⟩ | omega)⟩ ?_
        try simp only [p2, g7, pr_i_0, pr_i_1, pr_i_4]
        refine pr_cvT [_, _] rfl rfl rfl rfl rfl (Nat.le_of_ble_eq_true rfl) (by first | assumption | (simp only [p2, g7, pr_i_0, pr_i_1, pr_i_4]; first | assumption | decide | exact ⟨by assumption, by assumption⟩ | exact ⟨Or.inl (by assumption), by assumption⟩ | omega) | decide | exact ⟨Or.inl (by assumption), by assumption⟩ | exact ⟨by assumption, by assumption⟩ | omega) (Nat.le_of_ble_eq_true rfl) (c_refuse 4 (nI s) h M k4) ?_
        exact pr_irT rfl (by first | exact Or.inl rfl | exact Or.inr rfl | exact pr_b01 _ | assumption) (by exact ln_ref (c := 4) (fun _ _ _ _ => rfl))
  | false =>
    rw [hb] at p2
    have p2 : M.1 4 3 = 0 := p2
    rw [if_neg (by decide)]
    have hnum : pr_X pX6_takeNumber [.ref 4, .int 0, .int 1] h (ab_u M.1 4 3 1, M.2.1, M.2.2) (tk_p (fun q I => I 4 8 = nI q.1 ∧ I 4 5 = nI q.2) (ab_u M.1 4 3 1, M.2.1, M.2.2) (tNum w 0 1 p)) := c_takeNumber (lo := 0) (hi := 1) h (ab_u M.1 4 3 1, M.2.1, M.2.2) hr (tp_rd4 (fun a ha => ab_u_ne ha) hw) (by show ab_u M.1 4 3 1 4 5 = _; rw [ab_u_j (by decide)]; exact g5) hp (by decide) (by decide)
    have f0 : rd4 M.1 (ab_u M.1 4 3 1) := fun a ha => ab_u_ne ha
    cases he : tNum w 0 1 p with
    | error q =>
      rw [he] at hnum
      refine pr_seqT (pc' := 4) 2 rfl ⟨⟨trivial, (by first | assumption | (simp only [p2, g7, pr_i_0, pr_i_1, pr_i_4]; first | assumption | decide | exact ⟨by assumption, by assumption⟩ | exact ⟨Or.inl (by assumption), by assumption⟩ | omega) | decide | exact ⟨Or.inl (by assumption), by assumption⟩ | exact ⟨by assumption, by assumption⟩ | omega)⟩, (by first | assumption | (simp only [p2, g7, pr_i_0, pr_i_1, pr_i_4]; first | assumption | decide | exact ⟨by assumption, by assumption⟩ | exact ⟨Or.inl (by assumption), by assumption⟩ | omega) | decide | exact ⟨Or.inl (by assumption), by assumption⟩ | exact ⟨by assumption, by assumption⟩ | omega)⟩ ?_
      try simp only [p2, g7, pr_i_0, pr_i_1, pr_i_4]
      refine pr_ifT rfl (fun h4 => ?_) (fun h4 => ?_)
      · simp only [ab_cmp, pr_i_0, pr_i_1, pr_i_4] at h4
        first
        | contradiction
        | exact absurd trivial h4
        | exact absurd h4 (by decide)
        | exact absurd (Classical.not_not.mp h4) (by decide)
        | skip
          refine pr_seqT (pc' := 25) 6 rfl ⟨⟨⟨⟨⟨⟨trivial, (by first | assumption | (simp only [p2, g7, pr_i_0, pr_i_1, pr_i_4]; first | assumption | decide | exact ⟨by assumption, by assumption⟩ | exact ⟨Or.inl (by assumption), by assumption⟩ | omega) | decide | exact ⟨Or.inl (by assumption), by assumption⟩ | exact ⟨by assumption, by assumption⟩ | omega)⟩, trivial⟩, (by exact ⟨k4, Or.inr rfl⟩)⟩, (by first | assumption | (simp only [p2, g7, pr_i_0, pr_i_1, pr_i_4]; first | assumption | decide | exact ⟨by assumption, by assumption⟩ | exact ⟨Or.inl (by assumption), by assumption⟩ | omega) | decide | exact ⟨Or.inl (by assumption), by assumption⟩ | exact ⟨by assumption, by assumption⟩ | omega)⟩, trivial⟩, trivial⟩ ?_
          try simp only [p2, g7, pr_i_0, pr_i_1, pr_i_4]
          refine pr_cvX [_, _] rfl rfl rfl rfl rfl (Nat.le_of_ble_eq_true rfl) (by first | assumption | (simp only [p2, g7, pr_i_0, pr_i_1, pr_i_4]; first | assumption | decide | exact ⟨by assumption, by assumption⟩ | exact ⟨Or.inl (by assumption), by assumption⟩ | omega) | decide | exact ⟨Or.inl (by assumption), by assumption⟩ | exact ⟨by assumption, by assumption⟩ | omega) (Nat.le_of_ble_eq_true rfl) (hnum) (fun v25 M25 q25 => ?_)
          obtain ⟨e2, f1, rfl, h9, h10⟩ := q25
          obtain ⟨I1, Z1⟩ := M25
          dsimp only at e2 f1 h9 h10
          subst e2
          refine pr_ifT rfl (fun h28 => ?_) (fun h28 => ?_)
          · simp only [ab_cmp, pr_i_0, pr_i_1, pr_i_4] at h28
            first
            | contradiction
            | exact absurd trivial h28
            | exact absurd h28 (by decide)
            | exact absurd (Classical.not_not.mp h28) (by decide)
            | skip
              fail
          · simp only [ab_cmp, pr_i_0, pr_i_1, pr_i_4] at h28
            first
            | contradiction
            | exact absurd trivial h28
            | exact absurd h28 (by decide)
            | exact absurd (Classical.not_not.mp h28) (by decide)
            | skip
              refine pr_seqT (pc' := 32) 1 rfl ⟨trivial, trivial⟩ ?_
              try simp only [p2, g7, pr_i_0, pr_i_1, pr_i_4]
              exact pr_irT rfl (by first | exact Or.inl rfl | exact Or.inr rfl | exact pr_b01 _ | assumption) (by exact ln_err (fr_trans (fr_rd4 f0) (fr_rd4 f1)) h9 h10)
      · simp only [ab_cmp, pr_i_0, pr_i_1, pr_i_4] at h4
        first
        | contradiction
        | exact absurd trivial h4
        | exact absurd h4 (by decide)
        | exact absurd (Classical.not_not.mp h4) (by decide)
        | skip
          fail
    | ok x =>
      obtain ⟨v, p'⟩ := x
      rw [he] at hnum
      obtain ⟨b1, b2, b3, b4, b5⟩ := tNum_ok hp he
      dsimp only
      refine pr_seqT (pc' := 4) 2 rfl ⟨⟨trivial, (by first | assumption | (simp only [p2, g7, r2, tr0, pr_i_0, pr_i_1, pr_i_4]; first | assumption | decide | exact ⟨by assumption, by assumption⟩ | exact ⟨Or.inl (by assumption), by assumption⟩ | omega) | decide | exact ⟨Or.inl (by assumption), by assumption⟩ | exact ⟨by assumption, by assumption⟩ | omega)⟩, (by first | assumption | (simp only [p2, g7, r2, tr0, pr_i_0, pr_i_1, pr_i_4]; first | assumption | decide | exact ⟨by assumption, by assumption⟩ | exact ⟨Or.inl (by assumption), by assumption⟩ | omega) | decide | exact ⟨Or.inl (by assumption), by assumption⟩ | exact ⟨by assumption, by assumption⟩ | omega)⟩ ?_
      try simp only [p2, g7, r2, tr0, pr_i_0, pr_i_1, pr_i_4]
      refine pr_ifT rfl (fun h4 => ?_) (fun h4 => ?_)
      · simp only [ab_cmp, pr_i_0, pr_i_1, pr_i_4] at h4
        first
        | contradiction
        | exact absurd trivial h4
        | exact absurd h4 (by decide)
        | exact absurd (Classical.not_not.mp h4) (by decide)
        | skip
          refine pr_seqT (pc' := 25) 6 rfl ⟨⟨⟨⟨⟨⟨trivial, (by first | assumption | (simp only [p2, g7, r2, tr0, pr_i_0, pr_i_1, pr_i_4]; first | assumption | decide | exact ⟨by assumption, by assumption⟩ | exact ⟨Or.inl (by assumption), by assumption⟩ | omega) | decide | exact ⟨Or.inl (by assumption), by assumption⟩ | exact ⟨by assumption, by assumption⟩ | omega)⟩, trivial⟩, (by exact ⟨k4, Or.inr rfl⟩)⟩, (by first | assumption | (simp only [p2, g7, r2, tr0, pr_i_0, pr_i_1, pr_i_4]; first | assumption | decide | exact ⟨by assumption, by assumption⟩ | exact ⟨Or.inl (by assumption), by assumption⟩ | omega) | decide | exact ⟨Or.inl (by assumption), by assumption⟩ | exact ⟨by assumption, by assumption⟩ | omega)⟩, trivial⟩, trivial⟩ ?_
          try simp only [p2, g7, r2, tr0, pr_i_0, pr_i_1, pr_i_4]
          refine pr_cvX [_, _] rfl rfl rfl rfl rfl (Nat.le_of_ble_eq_true rfl) (by first | assumption | (simp only [p2, g7, r2, tr0, pr_i_0, pr_i_1, pr_i_4]; first | assumption | decide | exact ⟨by assumption, by assumption⟩ | exact ⟨Or.inl (by assumption), by assumption⟩ | omega) | decide | exact ⟨Or.inl (by assumption), by assumption⟩ | exact ⟨by assumption, by assumption⟩ | omega) (Nat.le_of_ble_eq_true rfl) (hnum) (fun v25 M25 q25 => ?_)
          obtain ⟨e2, f1, rfl, i3, i4, i9, i8, i5⟩ := q25
          obtain ⟨I1, Z1⟩ := M25
          dsimp only at e2 f1 i3 i4 i9 i8 i5
          subst e2
          have f2 : rd4 M.1 I1 := fun a ha => by rw [f1 a ha, f0 a ha]
          have i3 : I1 4 3 = 1 := by rw [i3, ab_u_at]
          have i4 : I1 4 4 = M.1 4 4 := by rw [i4, ab_u_j (by decide)]
          have i9 : I1 4 9 = M.1 4 9 := by rw [i9, ab_u_j (by decide)]
          have hI : ∀ a, (a < t + 1 ∨ t + 28 ≤ a) → ab_u I1 (t + 1) 3 (nI v) a = I1 a := fun a ha => ab_u_ne (by omega)
          have hld : ld_v I1 (t + 1) P.1.1 := ld_v_congr (fun a _ _ => f2 a (by omega)) p1.1
          have hps2 : ps_v (ab_u I1 (t + 1) 3 (nI v)) t (pLaw P v) := ⟨td_land (td_congr (fun a _ _ => f2 a (by omega)) p1) (fun a _ _ x => hI a x) (ld_law b2 hld), by rw [hI 4 (by omega)]; exact i3, by rw [hI 4 (by omega), i4]; exact p3, fun l hl => by rw [hI 5 (by omega), f2 5 (by decide)]; exact p4 l hl⟩
          have hsemi := c_semi (p := p') (M := M) h (ab_u I1 (t + 1) 3 (nI v)) ht5 hr (tp_v_congr (hI 2 (by omega)) (hI 3 (by omega)) (tp_rd4 f2 hw)) (by rw [hI 4 (by omega)]; exact i5) b5 hps2 (by rw [hI 4 (by omega)]; exact i9) (fun a x y z => by rw [hI a (by omega)]; exact f2 a x)
          refine pr_ifT rfl (fun h28 => ?_) (fun h28 => ?_)
          · simp only [ab_cmp, pr_i_0, pr_i_1, pr_i_4] at h28
            first
            | contradiction
            | exact absurd trivial h28
            | exact absurd h28 (by decide)
            | exact absurd (Classical.not_not.mp h28) (by decide)
            | skip
              refine pr_seqT (pc' := 47) 6 rfl ⟨⟨⟨⟨⟨⟨trivial, (by first | assumption | (simp only [p2, g7, r2, tr0, pr_i_0, pr_i_1, pr_i_4]; first | assumption | decide | exact ⟨by assumption, by assumption⟩ | exact ⟨Or.inl (by assumption), by assumption⟩ | omega) | decide | exact ⟨Or.inl (by assumption), by assumption⟩ | exact ⟨by assumption, by assumption⟩ | omega)⟩, (by first | assumption | (simp only [p2, g7, r2, tr0, pr_i_0, pr_i_1, pr_i_4]; first | assumption | decide | exact ⟨by assumption, by assumption⟩ | exact ⟨Or.inl (by assumption), by assumption⟩ | omega) | decide | exact ⟨Or.inl (by assumption), by assumption⟩ | exact ⟨by assumption, by assumption⟩ | omega)⟩, (by first | assumption | (simp only [p2, g7, r2, tr0, pr_i_0, pr_i_1, pr_i_4]; first | assumption | decide | exact ⟨by assumption, by assumption⟩ | exact ⟨Or.inl (by assumption), by assumption⟩ | omega) | decide | exact ⟨Or.inl (by assumption), by assumption⟩ | exact ⟨by assumption, by assumption⟩ | omega)⟩, (by first | assumption | (simp only [p2, g7, r2, tr0, pr_i_0, pr_i_1, pr_i_4]; first | assumption | decide | exact ⟨by assumption, by assumption⟩ | exact ⟨Or.inl (by assumption), by assumption⟩ | omega) | decide | exact ⟨Or.inl (by assumption), by assumption⟩ | exact ⟨by assumption, by assumption⟩ | omega)⟩, (by first | assumption | (simp only [p2, g7, r2, tr0, pr_i_0, pr_i_1, pr_i_4]; first | assumption | decide | exact ⟨by assumption, by assumption⟩ | exact ⟨Or.inl (by assumption), by assumption⟩ | omega) | decide | exact ⟨Or.inl (by assumption), by assumption⟩ | exact ⟨by assumption, by assumption⟩ | omega)⟩, (by first | assumption | (simp only [p2, g7, r2, tr0, pr_i_0, pr_i_1, pr_i_4]; first | assumption | decide | exact ⟨by assumption, by assumption⟩ | exact ⟨Or.inl (by assumption), by assumption⟩ | omega) | decide | exact ⟨Or.inl (by assumption), by assumption⟩ | exact ⟨by assumption, by assumption⟩ | omega)⟩ ?_
              try simp only [p2, g7, r2, tr0, pr_i_0, pr_i_1, pr_i_4]
              (try simp only [i8]); exact pr_seqT (pc' := 48) 1 rfl ⟨trivial, n4⟩ (pr_cvX [] rfl rfl rfl rfl rfl (Nat.le_of_ble_eq_true rfl) k4 (Nat.le_of_ble_eq_true rfl) hsemi (fun v48 M48 q48 => by obtain ⟨rfl, q48⟩ := q48; exact pr_irT rfl (pr_b01 _) ⟨rfl, q48⟩))
          · simp only [ab_cmp, pr_i_0, pr_i_1, pr_i_4] at h28
            first
            | contradiction
            | exact absurd trivial h28
            | exact absurd h28 (by decide)
            | exact absurd (Classical.not_not.mp h28) (by decide)
            | skip
              fail
      · simp only [ab_cmp, pr_i_0, pr_i_1, pr_i_4] at h4
        first
        | contradiction
        | exact absurd trivial h4
        | exact absurd h4 (by decide)
        | exact absurd (Classical.not_not.mp h4) (by decide)
        | skip
          fail
