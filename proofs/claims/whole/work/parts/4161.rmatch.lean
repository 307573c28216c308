
/-! ===== the reference: weddings compared ===== -/
theorem rmon_congr {f g : Nat → Bool} {A B : Nat → Nat} : ∀ n, (∀ q, q < n → f q = g q ∧ A q = B q) → mon f A n = mon g B n
  | 0, _ => rfl
  | n + 1, h => by
    obtain ⟨h1, h2⟩ := h n (by omega)
    show mon f A n + (if f n then A n else 0) = mon g B n + (if g n then B n else 0)
    rw [rmon_congr n (fun q hq => h q (by omega)), h1, h2]
theorem rwh_congr {f g : Nat → Bool} {W D W' D' : Nat → Nat} {n m : Nat} (hn : n = m) (h : ∀ q, q < n → f q = g q ∧ W q = W' q ∧ D q = D' q) : a_wh f W D n = a_wh g W' D' m := by
  subst hn
  unfold a_wh
  rw [rmon_congr n (fun q hq => ⟨(h q hq).1, (h q hq).2.1⟩), rmon_congr n (fun q hq => ⟨(h q hq).1, (h q hq).2.2⟩)]
theorem wed_pn {d : Ld} {p q i : Nat} (hp : p < d.2.1.length) (hq : q < d.2.1.length) (hpq : p ≠ q) : (d_pn (wedL d p q) i).1 = (d_pn d i).1 ∧ (d_pn (wedL d p q) i).2.1 = (d_pn d i).2.1 ∧ (d_pn (wedL d p q) i).2.2.1 = (d_pn d i).2.2.1 ∧ (d_pn (wedL d p q) i).2.2.2 = (if i = p ∨ i = q then (d_pn d p).2.2.2 ++ (d_pn d q).2.2.2 else (d_pn d i).2.2.2) := by
  unfold wedL
  rw [d_pn_set (by rw [wOne_len]; exact hq), d_pn_set hp]
  by_cases e1 : q = i
  · rw [if_pos e1, if_pos (Or.inr e1.symm)]
    subst e1
    exact ⟨rfl, rfl, rfl, rfl⟩
  · rw [if_neg e1]
    by_cases e2 : p = i
    · rw [if_pos e2, if_pos (Or.inl e2.symm)]
      subst e2
      exact ⟨rfl, rfl, rfl, rfl⟩
    · rw [if_neg e2, if_neg (fun q => q.elim (fun q => e2 q.symm) (fun q => e1 q.symm))]
      exact ⟨rfl, rfl, rfl, rfl⟩
theorem wed_S {d : Ld} {p q i : Nat} (hp : p < d.2.1.length) (hq : q < d.2.1.length) (hpq : p ≠ q) : lS (wedL d p q) i = wS d (lS d) p q i := by
  obtain ⟨e1, e2, e3, e4⟩ := wed_pn (i := i) hp hq hpq
  show nI (a_sum d.1 d.2.2.1 (d_pn (wedL d p q) i).1 (d_pn (wedL d p q) i).2.2.2) = _
  rw [e1, e4]
  unfold wS wJ
  by_cases c1 : i = q
  · subst c1
    rw [va_up_at, if_pos (Or.inr rfl)]
  · rw [va_up_n c1]
    by_cases c2 : i = p
    · subst c2
      rw [va_up_at, if_pos (Or.inl rfl)]
    · rw [va_up_n c2, if_neg (fun q => q.elim c2 c1)]
      rfl
theorem wed_len {d : Ld} {p q : Nat} : (wedL d p q).2.1.length = d.2.1.length := by unfold wedL; rw [wOne_len, wOne_len]
theorem wed_wh {X : St} {p q : Nat} (hp : p < X.1.1.2.1.length) (hq : q < X.1.1.2.1.length) (hpq : p ≠ q) : a_wh (lal (wedL X.1.1 p q) p) (lW (wedL X.1.1 p q)) (lD (wedL X.1.1 p q)) (wedL X.1.1 p q).2.1.length = a_wh (al (wS X.1.1 (x_S X) p q) (x_K X) p) (x_W X) (x_D X) (x_n X) := by
  refine rwh_congr wed_len (fun i hi => ?_)
  obtain ⟨e1, e2, e3, e4⟩ := wed_pn (i := i) hp hq hpq
  obtain ⟨f1, -⟩ := wed_pn (i := p) hp hq hpq
  refine ⟨?_, e3, e2⟩
  show al (lS (wedL X.1.1 p q)) (lK (wedL X.1.1 p q)) p i = al (wS X.1.1 (x_S X) p q) (x_K X) p i
  unfold al
  rw [wed_S hp hq hpq, wed_S hp hq hpq, show lK (wedL X.1.1 p q) p = x_K X p from f1, show lK (wedL X.1.1 p q) i = x_K X i from e1]
theorem mtc_ge (n : Nat) (v : Nat → Nat → Int32) : ∀ k, ¬ (mtc n v k).1 < -4
  | 0 => by show ¬ (-4 : Int32) < -4; decide
  | k + 1 => by
    have ih := mtc_ge n v k
    show ¬ (if k / 8 < n ∧ k % 8 < n ∧ (mtc n v k).1 < v (k / 8) (k % 8) then (v (k / 8) (k % 8), 10 * nI (k / 8) + nI (k % 8)) else mtc n v k).1 < -4
    split
    · rename_i c
      intro q
      apply ih
      exact Int32.lt_trans c.2.2 q
    · exact ih
theorem cpy_back {I I1 : Nat → Nat → Int32} (h1 : ∀ a, a ≠ 173 → I1 a = cpy I 0 663 221 a) (h2 : ∀ j, 192 ≤ j → I1 173 j = cpy I 0 663 221 173 j) : cpy I1 663 0 221 = cpy I 0 663 221 := by
  funext a j
  by_cases ea : a = 173
  · subst ea
    by_cases ej : j < 221
    · have := cpy_i (I := I1) (f := 663) (t := 0) (k := 221) ej
      rw [Nat.zero_add] at this
      rw [this, h2 _ (by omega), cpy_i ej, Nat.zero_add, cpy_o (by omega)]
    · rw [cpy_o (by omega), h2 _ (by omega)]
  · rw [cpy_ne ea, h1 a ea]
theorem rv_aside {I : Nat → Nat → Int32} {X : St} (hv : rv I X) : rv (cpy I 0 663 221) X := by
  rw [← wLd_id X]
  exact rv_land hv (fun a a1 a2 _ _ => cpy_ne a2) (pg_cong (fun j hj => cpy_o (by omega)) hv.1) (fun j j1 j2 => cpy_o (by omega))
theorem r_match {X : St} (w : Int32) (h : ab_H) (M : ab_M) (hl : rL h M.2.2) (hv : rv M.1 X) : pr_X pX11_match [.ref 172, .int w] h M (rp M (f_match X w, X)) := by
  obtain ⟨k172, rS, rLs, rKn, rPg, rRl, rRk, rTp, rCu, rLe, rLt, rSm, rIk, rLn, rLg, rCe, ⟨kS, nS⟩, ⟨kLs, nLs⟩, ⟨kKn, nKn⟩, ⟨kPg, nPg⟩, ⟨kRl, nRl⟩, ⟨kRk, nRk⟩, ⟨kTp, nTp⟩, ⟨kCu, nCu⟩, ⟨kLe, nLe⟩, ⟨kLt, nLt⟩, ⟨kSm, nSm⟩, ⟨kIk, nIk⟩, ⟨kLn, nLn⟩, ⟨kLg, nLg⟩, kCe, nCe⟩ := id hl
  have g2 : X.1.1.2.1.length ≤ 8 := hv.1.2.1
  have h1 := q_in (a := w.toInt64) (b := Int64.ofNat 0) (c := Int64.ofNat 1) w 0 1 h M rfl rfl rfl
  unfold f_match
  cases q : pr_in w 0 1 with
  | false =>
    rw [q] at h1
    refine pr_ofC ?_ (rp_s hv)
    refine pr_seq (pc' := 4) 4 rfl ⟨⟨⟨⟨trivial, trivial⟩, trivial⟩, trivial⟩, trivial⟩ ?_
    refine pr_cs [_, _, _] rfl rfl rfl rfl rfl (Nat.le_of_ble_eq_true rfl) (Nat.le_of_ble_eq_true rfl) (h1) ?_
    refine pr_if rfl (fun h7 => ?_) (fun h7 => ?_)
    · simp only [ab_cmp, pr_16_663, pr_8_10, pr_8_20, pr_8_64, pr_8_8, pr_8_m4, pr_i_0, pr_i_1, pr_i_m1] at h7
      exact absurd rfl h7
    · simp only [ab_cmp, pr_16_663, pr_8_10, pr_8_20, pr_8_64, pr_8_8, pr_8_m4, pr_i_0, pr_i_1, pr_i_m1] at h7
      first
      | contradiction
      | exact absurd trivial h7
      | exact absurd h7 (by decide)
      | exact absurd (Classical.not_not.mp h7) (by decide)
      | skip
        refine pr_seq (pc' := 11) 1 rfl ⟨trivial, trivial⟩ ?_
        exact pr_irM rfl (by first | rfl | (simp [pr_b, pr_16_663, pr_8_10, pr_8_20, pr_8_64, pr_8_8, pr_8_m4, pr_i_0, pr_i_1, pr_i_m1, *]; done) | (simp_all [pr_b, pr_16_663, pr_8_10, pr_8_20, pr_8_64, pr_8_8, pr_8_m4, pr_i_0, pr_i_1, pr_i_m1]; done)) trivial (by rfl)
  | true =>
    rw [q] at h1
    rw [if_pos rfl]
    have hcp := q_copies (f := 0) (t := 663) h M hl (by decide) (by decide) (by decide)
    have hv2 := rv_aside hv
    have hfar : ∀ a, (a < 172 ∨ 187 < a) → cpy M.1 0 663 221 a = M.1 a := fun a ha => cpy_ne (by omega)
    have hcb : ∀ I1, (∀ a, a ≠ 173 → I1 a = cpy M.1 0 663 221 a) → (∀ j, 192 ≤ j → I1 173 j = cpy M.1 0 663 221 173 j) → pr_C pX11_copies [.ref 172, .int (nI 663), .int (nI 0)] h (I1, M.2) none h (cpy M.1 0 663 221, M.2) := fun I1 i1 i2 => by
      have := q_copies (f := 663) (t := 0) h (I1, M.2) hl (by decide) (by decide) (by decide)
      rw [show cpy (I1, M.2).1 663 0 221 = cpy M.1 0 663 221 from cpy_back i1 i2] at this
      exact this
    generalize cpy M.1 0 663 221 = N at *
    have loop : ∀ dd k, k + dd = 64 → ∀ z5 z6 z7, pr_T pX11_match 29 [some (.ref 172), some (.int w), some (.int (mtc (x_n X) (wv X) k).1), some (.int (mtc (x_n X) (wv X) k).2), some (.int (nI k)), z5, z6, z7] [] h (N, M.2) (rp M (if w = 0 then (mtc (x_n X) (wv X) 64).1 else (mtc (x_n X) (wv X) 64).2, X)) := by
      intro dd
      induction dd with
      | zero =>
        intro k hk z5 z6 z7
        obtain rfl : k = 64 := by omega
        have c64 : (64 : Int32) = nI 64 := rfl
        have e1 : nI 64 ≤ nI 64 := nI_le (Nat.le_refl _) (by decide)
        by_cases w0 : w = 0
        · rw [if_pos w0]
          refine pr_seqT (pc' := 33) 2 rfl ⟨⟨trivial, trivial⟩, trivial⟩ ?_
          try simp (disch := omega) only [c64, rI_mul, nI_add, nI_1, nI_clamp, c663, pr_16_663, pr_8_10, pr_8_20, pr_8_64, pr_8_8, pr_8_m4, pr_i_0, pr_i_1, pr_i_m1]
          refine pr_icT rfl (fun h33 => ?_) (fun h33 => ?_)
          · simp only [ab_cmp, pr_16_663, pr_8_10, pr_8_20, pr_8_64, pr_8_8, pr_8_m4, pr_i_0, pr_i_1, pr_i_m1] at h33
            first
            | contradiction
            | exact absurd trivial h33
            | exact absurd h33 (by decide)
            | exact absurd (Classical.not_not.mp h33) (by decide)
            | skip
              refine pr_seqT (pc' := 180) 1 rfl ⟨trivial, trivial⟩ ?_
              try simp (disch := omega) only [c64, rI_mul, nI_add, nI_1, nI_clamp, c663, pr_16_663, pr_8_10, pr_8_20, pr_8_64, pr_8_8, pr_8_m4, pr_i_0, pr_i_1, pr_i_m1]
              refine pr_ifT rfl (fun h180 => ?_) (fun h180 => ?_)
              · simp only [ab_cmp, pr_16_663, pr_8_10, pr_8_20, pr_8_64, pr_8_8, pr_8_m4, pr_i_0, pr_i_1, pr_i_m1] at h180
                exact absurd w0 h180
              · simp only [ab_cmp, pr_16_663, pr_8_10, pr_8_20, pr_8_64, pr_8_8, pr_8_m4, pr_i_0, pr_i_1, pr_i_m1] at h180
                first
                | contradiction
                | exact absurd trivial h180
                | exact absurd h180 (by decide)
                | exact absurd (Classical.not_not.mp h180) (by decide)
                | skip
                  refine pr_seqT (pc' := 188) 2 rfl ⟨⟨trivial, trivial⟩, trivial⟩ ?_
                  try simp (disch := omega) only [c64, rI_mul, nI_add, nI_1, nI_clamp, c663, pr_16_663, pr_8_10, pr_8_20, pr_8_64, pr_8_8, pr_8_m4, pr_i_0, pr_i_1, pr_i_m1]
                  exact pr_irT rfl trivial (by exact rp_I hv2 hfar)
          · simp only [ab_cmp, pr_16_663, pr_8_10, pr_8_20, pr_8_64, pr_8_8, pr_8_m4, pr_i_0, pr_i_1, pr_i_m1] at h33
            exact absurd e1 h33
        · rw [if_neg w0]
          refine pr_seqT (pc' := 33) 2 rfl ⟨⟨trivial, trivial⟩, trivial⟩ ?_
          try simp (disch := omega) only [c64, rI_mul, nI_add, nI_1, nI_clamp, c663, pr_16_663, pr_8_10, pr_8_20, pr_8_64, pr_8_8, pr_8_m4, pr_i_0, pr_i_1, pr_i_m1]
          refine pr_icT rfl (fun h33 => ?_) (fun h33 => ?_)
          · simp only [ab_cmp, pr_16_663, pr_8_10, pr_8_20, pr_8_64, pr_8_8, pr_8_m4, pr_i_0, pr_i_1, pr_i_m1] at h33
            first
            | contradiction
            | exact absurd trivial h33
            | exact absurd h33 (by decide)
            | exact absurd (Classical.not_not.mp h33) (by decide)
            | skip
              refine pr_seqT (pc' := 180) 1 rfl ⟨trivial, trivial⟩ ?_
              try simp (disch := omega) only [c64, rI_mul, nI_add, nI_1, nI_clamp, c663, pr_16_663, pr_8_10, pr_8_20, pr_8_64, pr_8_8, pr_8_m4, pr_i_0, pr_i_1, pr_i_m1]
              refine pr_ifT rfl (fun h180 => ?_) (fun h180 => ?_)
              · simp only [ab_cmp, pr_16_663, pr_8_10, pr_8_20, pr_8_64, pr_8_8, pr_8_m4, pr_i_0, pr_i_1, pr_i_m1] at h180
                first
                | contradiction
                | exact absurd trivial h180
                | exact absurd h180 (by decide)
                | exact absurd (Classical.not_not.mp h180) (by decide)
                | skip
                  refine pr_seqT (pc' := 188) 1 rfl ⟨trivial, trivial⟩ ?_
                  try simp (disch := omega) only [c64, rI_mul, nI_add, nI_1, nI_clamp, c663, pr_16_663, pr_8_10, pr_8_20, pr_8_64, pr_8_8, pr_8_m4, pr_i_0, pr_i_1, pr_i_m1]
                  exact pr_irT rfl trivial (by exact rp_I hv2 hfar)
              · simp only [ab_cmp, pr_16_663, pr_8_10, pr_8_20, pr_8_64, pr_8_8, pr_8_m4, pr_i_0, pr_i_1, pr_i_m1] at h180
                exact absurd (Classical.not_not.mp h180) w0
          · simp only [ab_cmp, pr_16_663, pr_8_10, pr_8_20, pr_8_64, pr_8_8, pr_8_m4, pr_i_0, pr_i_1, pr_i_m1] at h33
            exact absurd e1 h33
      | succ dd ih =>
        intro k hk z5 z6 z7
        have c64 : (64 : Int32) = nI 64 := rfl
        have e1 : ¬ nI 64 ≤ nI k := nI_ge (by omega) (by decide)
        obtain ⟨p, hp⟩ : ∃ p, k / 8 = p := ⟨_, rfl⟩
        obtain ⟨r, hr⟩ : ∃ r, k % 8 = r := ⟨_, rfl⟩
        have hr2 : k - p * 8 = r := by omega
        have hp8 : p < 8 := by omega
        have hr8 : r < 8 := by omega
        have hst : mtc (x_n X) (wv X) (k + 1) = if p < x_n X ∧ r < x_n X ∧ (mtc (x_n X) (wv X) k).1 < wv X p r then (wv X p r, 10 * nI p + nI r) else mtc (x_n X) (wv X) k := by rw [← hp, ← hr]; rfl
        have skip : (p < x_n X → r < x_n X → wv X p r = -4) → mtc (x_n X) (wv X) (k + 1) = mtc (x_n X) (wv X) k := fun hw => by
          rw [hst, if_neg]
          intro ⟨a1, a2, a3⟩
          rw [hw a1 a2] at a3
          exact mtc_ge _ _ k a3
        have hip := q_isOne (nI p) h (N, M.2) hl hv2.1
        have hir := q_isOne (nI r) h (N, M.2) hl hv2.1
        have ixn : ∀ i, i < 1000 → ixb (nI i) X.1.1.2.1.length = decide (i < X.1.1.2.1.length) := fun i hi => by
          show (!decide (nI i < 0) && !decide (nI X.1.1.2.1.length ≤ nI i)) = _
          rw [decide_eq_false (nI_pos (by omega)), decide_eq_decide.mpr (nI_leI (by omega) (by omega))]
          by_cases c : i < X.1.1.2.1.length
          · rw [decide_eq_true c, decide_eq_false (by omega)]; rfl
          · rw [decide_eq_false c, decide_eq_true (by omega)]; rfl
        rw [ixn p (by omega)] at hip
        rw [ixn r (by omega)] at hir
        by_cases cp : p < X.1.1.2.1.length
        · rw [decide_eq_true cp] at hip
          by_cases cr : r < X.1.1.2.1.length
          · rw [decide_eq_true cr] at hir
            have kpr := q_kindOf h (N, M.2) hl hv2.1 cp
            have krr := q_kindOf h (N, M.2) hl hv2.1 cr
            have lpr := q_longOf h (N, M.2) hl hv2.1 cp
            have lrr := q_longOf h (N, M.2) hl hv2.1 cr
            have b1 := (hv.1.2.2.2.2.2.2.2 p cp).2.1
            have b2 := (hv.1.2.2.2.2.2.2.2 r cr).2.1
            have b3 := (hv.1.2.2.2.2.2.2.2 p cp).2.2.2.2.2.2.2.1
            have b4 := (hv.1.2.2.2.2.2.2.2 r cr).2.2.2.2.2.2.2.1
            by_cases cpr : p = r
            · have ez : nI p = nI r := by rw [cpr]
              have hs := skip (fun _ _ => by unfold wv; rw [if_pos (Or.inl cpr)])
              refine pr_seqT (pc' := 33) 2 rfl ⟨⟨trivial, trivial⟩, trivial⟩ ?_
              try simp (disch := omega) only [c64, c8, nI_div, i_sub, hp, hr2, rI_mul, nI_add, nI_1, nI_clamp, c663, pr_16_663, pr_8_10, pr_8_20, pr_8_64, pr_8_8, pr_8_m4, pr_i_0, pr_i_1, pr_i_m1]
              refine pr_icT rfl (fun h33 => ?_) (fun h33 => ?_)
              · simp only [ab_cmp, pr_16_663, pr_8_10, pr_8_20, pr_8_64, pr_8_8, pr_8_m4, pr_i_0, pr_i_1, pr_i_m1] at h33
                exact absurd h33 e1
              · simp only [ab_cmp, pr_16_663, pr_8_10, pr_8_20, pr_8_64, pr_8_8, pr_8_m4, pr_i_0, pr_i_1, pr_i_m1] at h33
                first
                | contradiction
                | exact absurd trivial h33
                | exact absurd h33 (by decide)
                | exact absurd (Classical.not_not.mp h33) (by decide)
                | skip
                  refine pr_seqT (pc' := 53) 10 rfl ⟨⟨⟨⟨⟨⟨⟨⟨⟨⟨trivial, trivial⟩, trivial⟩, (by first | assumption | decide | (simp (disch := omega) only [c64, c8, nI_div, i_sub, hp, hr2, rI_mul, nI_add, nI_1, nI_clamp, c663, pr_16_663, pr_8_10, pr_8_20, pr_8_64, pr_8_8, pr_8_m4, pr_i_0, pr_i_1, pr_i_m1]; first | assumption | exact ⟨Or.inl (by assumption), rvin (by assumption) (by omega) (by decide)⟩ | exact ⟨by assumption, rvin (by assumption) (by omega) (by decide)⟩ | exact ⟨⟨by omega, by omega⟩, rvin (by assumption) (by omega) (by decide)⟩ | exact ⟨Or.inr (by assumption), rvin (by assumption) (by omega) (by decide)⟩ | exact ⟨Or.inr ⟨by assumption, (by first | exact Or.inl rfl | exact Or.inr rfl | exact pr_b01 _)⟩, rvin (by assumption) (by omega) (by decide)⟩ | exact ⟨by assumption, by assumption⟩ | decide | omega))⟩, trivial⟩, trivial⟩, trivial⟩, (by first | assumption | decide | (simp (disch := omega) only [c64, c8, nI_div, i_sub, hp, hr2, rI_mul, nI_add, nI_1, nI_clamp, c663, pr_16_663, pr_8_10, pr_8_20, pr_8_64, pr_8_8, pr_8_m4, pr_i_0, pr_i_1, pr_i_m1]; first | assumption | exact ⟨Or.inl (by assumption), rvin (by assumption) (by omega) (by decide)⟩ | exact ⟨by assumption, rvin (by assumption) (by omega) (by decide)⟩ | exact ⟨⟨by omega, by omega⟩, rvin (by assumption) (by omega) (by decide)⟩ | exact ⟨Or.inr (by assumption), rvin (by assumption) (by omega) (by decide)⟩ | exact ⟨Or.inr ⟨by assumption, (by first | exact Or.inl rfl | exact Or.inr rfl | exact pr_b01 _)⟩, rvin (by assumption) (by omega) (by decide)⟩ | exact ⟨by assumption, by assumption⟩ | decide | omega))⟩, trivial⟩, (by first | decide | assumption)⟩, trivial⟩ ?_
                  try simp (disch := omega) only [c64, c8, nI_div, i_sub, hp, hr2, rI_mul, nI_add, nI_1, nI_clamp, c663, pr_16_663, pr_8_10, pr_8_20, pr_8_64, pr_8_8, pr_8_m4, pr_i_0, pr_i_1, pr_i_m1]
                  refine pr_cvT [_] rfl rfl rfl rfl rfl (Nat.le_of_ble_eq_true rfl) (by first | assumption | decide | (simp (disch := omega) only [c64, c8, nI_div, i_sub, hp, hr2, rI_mul, nI_add, nI_1, nI_clamp, c663, pr_16_663, pr_8_10, pr_8_20, pr_8_64, pr_8_8, pr_8_m4, pr_i_0, pr_i_1, pr_i_m1]; first | assumption | exact ⟨Or.inl (by assumption), rvin (by assumption) (by omega) (by decide)⟩ | exact ⟨by assumption, rvin (by assumption) (by omega) (by decide)⟩ | exact ⟨⟨by omega, by omega⟩, rvin (by assumption) (by omega) (by decide)⟩ | exact ⟨Or.inr (by assumption), rvin (by assumption) (by omega) (by decide)⟩ | exact ⟨Or.inr ⟨by assumption, (by first | exact Or.inl rfl | exact Or.inr rfl | exact pr_b01 _)⟩, rvin (by assumption) (by omega) (by decide)⟩ | exact ⟨by assumption, by assumption⟩ | decide | omega)) (Nat.le_of_ble_eq_true rfl) (hip) ?_
                  refine pr_ifT rfl (fun h56 => ?_) (fun h56 => ?_)
                  · simp only [ab_cmp, pr_16_663, pr_8_10, pr_8_20, pr_8_64, pr_8_8, pr_8_m4, pr_i_0, pr_i_1, pr_i_m1] at h56
                    exact absurd h56 (by decide)
                  · simp only [ab_cmp, pr_16_663, pr_8_10, pr_8_20, pr_8_64, pr_8_8, pr_8_m4, pr_i_0, pr_i_1, pr_i_m1] at h56
                    first
                    | contradiction
                    | exact absurd trivial h56
                    | exact absurd h56 (by decide)
                    | exact absurd (Classical.not_not.mp h56) (by decide)
                    | skip
                      refine pr_seqT (pc' := 62) 2 rfl ⟨⟨trivial, (by first | decide | assumption)⟩, trivial⟩ ?_
                      try simp (disch := omega) only [c64, c8, nI_div, i_sub, hp, hr2, rI_mul, nI_add, nI_1, nI_clamp, c663, pr_16_663, pr_8_10, pr_8_20, pr_8_64, pr_8_8, pr_8_m4, pr_i_0, pr_i_1, pr_i_m1]
                      refine pr_cvT [_] rfl rfl rfl rfl rfl (Nat.le_of_ble_eq_true rfl) (by first | assumption | decide | (simp (disch := omega) only [c64, c8, nI_div, i_sub, hp, hr2, rI_mul, nI_add, nI_1, nI_clamp, c663, pr_16_663, pr_8_10, pr_8_20, pr_8_64, pr_8_8, pr_8_m4, pr_i_0, pr_i_1, pr_i_m1]; first | assumption | exact ⟨Or.inl (by assumption), rvin (by assumption) (by omega) (by decide)⟩ | exact ⟨by assumption, rvin (by assumption) (by omega) (by decide)⟩ | exact ⟨⟨by omega, by omega⟩, rvin (by assumption) (by omega) (by decide)⟩ | exact ⟨Or.inr (by assumption), rvin (by assumption) (by omega) (by decide)⟩ | exact ⟨Or.inr ⟨by assumption, (by first | exact Or.inl rfl | exact Or.inr rfl | exact pr_b01 _)⟩, rvin (by assumption) (by omega) (by decide)⟩ | exact ⟨by assumption, by assumption⟩ | decide | omega)) (Nat.le_of_ble_eq_true rfl) (hir) ?_
                      refine pr_ifT rfl (fun h65 => ?_) (fun h65 => ?_)
                      · simp only [ab_cmp, pr_16_663, pr_8_10, pr_8_20, pr_8_64, pr_8_8, pr_8_m4, pr_i_0, pr_i_1, pr_i_m1] at h65
                        exact absurd h65 (by decide)
                      · simp only [ab_cmp, pr_16_663, pr_8_10, pr_8_20, pr_8_64, pr_8_8, pr_8_m4, pr_i_0, pr_i_1, pr_i_m1] at h65
                        first
                        | contradiction
                        | exact absurd trivial h65
                        | exact absurd h65 (by decide)
                        | exact absurd (Classical.not_not.mp h65) (by decide)
                        | skip
                          refine pr_seqT (pc' := 72) 2 rfl ⟨⟨trivial, trivial⟩, trivial⟩ ?_
                          try simp (disch := omega) only [c64, c8, nI_div, i_sub, hp, hr2, rI_mul, nI_add, nI_1, nI_clamp, c663, pr_16_663, pr_8_10, pr_8_20, pr_8_64, pr_8_8, pr_8_m4, pr_i_0, pr_i_1, pr_i_m1]
                          refine pr_icT rfl (fun h72 => ?_) (fun h72 => ?_)
                          · simp only [ab_cmp, pr_16_663, pr_8_10, pr_8_20, pr_8_64, pr_8_8, pr_8_m4, pr_i_0, pr_i_1, pr_i_m1] at h72
                            first
                            | contradiction
                            | exact absurd trivial h72
                            | exact absurd h72 (by decide)
                            | exact absurd (Classical.not_not.mp h72) (by decide)
                            | skip
                              refine pr_seqT (pc' := 29) 2 rfl ⟨⟨trivial, trivial⟩, trivial⟩ ?_
                              try simp (disch := omega) only [c64, c8, nI_div, i_sub, hp, hr2, rI_mul, nI_add, nI_1, nI_clamp, c663, pr_16_663, pr_8_10, pr_8_20, pr_8_64, pr_8_8, pr_8_m4, pr_i_0, pr_i_1, pr_i_m1]
                              rw [← hs]; exact ih (k + 1) (by omega) _ _ _
                          · simp only [ab_cmp, pr_16_663, pr_8_10, pr_8_20, pr_8_64, pr_8_8, pr_8_m4, pr_i_0, pr_i_1, pr_i_m1] at h72
                            exact absurd ez h72
            · have ez : ¬ nI p = nI r := nI_ne cpr (by omega) (by omega)
              by_cases dp : (d_pn X.1.1 p).1 = 1
              · have z1 : nI (d_pn X.1.1 p).1 = 1 := by rw [dp]; rfl
                have hs := skip (fun _ _ => by unfold wv; rw [if_pos (Or.inr (Or.inl dp))])
                refine pr_seqT (pc' := 33) 2 rfl ⟨⟨trivial, trivial⟩, trivial⟩ ?_
                try simp (disch := omega) only [c64, c8, nI_div, i_sub, hp, hr2, rI_mul, nI_add, nI_1, nI_clamp, c663, pr_16_663, pr_8_10, pr_8_20, pr_8_64, pr_8_8, pr_8_m4, pr_i_0, pr_i_1, pr_i_m1]
                refine pr_icT rfl (fun h33 => ?_) (fun h33 => ?_)
                · simp only [ab_cmp, pr_16_663, pr_8_10, pr_8_20, pr_8_64, pr_8_8, pr_8_m4, pr_i_0, pr_i_1, pr_i_m1] at h33
                  exact absurd h33 e1
                · simp only [ab_cmp, pr_16_663, pr_8_10, pr_8_20, pr_8_64, pr_8_8, pr_8_m4, pr_i_0, pr_i_1, pr_i_m1] at h33
                  first
                  | contradiction
                  | exact absurd trivial h33
                  | exact absurd h33 (by decide)
                  | exact absurd (Classical.not_not.mp h33) (by decide)
                  | skip
                    refine pr_seqT (pc' := 53) 10 rfl ⟨⟨⟨⟨⟨⟨⟨⟨⟨⟨trivial, trivial⟩, trivial⟩, (by first | assumption | decide | (simp (disch := omega) only [c64, c8, nI_div, i_sub, hp, hr2, rI_mul, nI_add, nI_1, nI_clamp, c663, pr_16_663, pr_8_10, pr_8_20, pr_8_64, pr_8_8, pr_8_m4, pr_i_0, pr_i_1, pr_i_m1]; first | assumption | exact ⟨Or.inl (by assumption), rvin (by assumption) (by omega) (by decide)⟩ | exact ⟨by assumption, rvin (by assumption) (by omega) (by decide)⟩ | exact ⟨⟨by omega, by omega⟩, rvin (by assumption) (by omega) (by decide)⟩ | exact ⟨Or.inr (by assumption), rvin (by assumption) (by omega) (by decide)⟩ | exact ⟨Or.inr ⟨by assumption, (by first | exact Or.inl rfl | exact Or.inr rfl | exact pr_b01 _)⟩, rvin (by assumption) (by omega) (by decide)⟩ | exact ⟨by assumption, by assumption⟩ | decide | omega))⟩, trivial⟩, trivial⟩, trivial⟩, (by first | assumption | decide | (simp (disch := omega) only [c64, c8, nI_div, i_sub, hp, hr2, rI_mul, nI_add, nI_1, nI_clamp, c663, pr_16_663, pr_8_10, pr_8_20, pr_8_64, pr_8_8, pr_8_m4, pr_i_0, pr_i_1, pr_i_m1]; first | assumption | exact ⟨Or.inl (by assumption), rvin (by assumption) (by omega) (by decide)⟩ | exact ⟨by assumption, rvin (by assumption) (by omega) (by decide)⟩ | exact ⟨⟨by omega, by omega⟩, rvin (by assumption) (by omega) (by decide)⟩ | exact ⟨Or.inr (by assumption), rvin (by assumption) (by omega) (by decide)⟩ | exact ⟨Or.inr ⟨by assumption, (by first | exact Or.inl rfl | exact Or.inr rfl | exact pr_b01 _)⟩, rvin (by assumption) (by omega) (by decide)⟩ | exact ⟨by assumption, by assumption⟩ | decide | omega))⟩, trivial⟩, (by first | decide | assumption)⟩, trivial⟩ ?_
                    try simp (disch := omega) only [c64, c8, nI_div, i_sub, hp, hr2, rI_mul, nI_add, nI_1, nI_clamp, c663, pr_16_663, pr_8_10, pr_8_20, pr_8_64, pr_8_8, pr_8_m4, pr_i_0, pr_i_1, pr_i_m1]
                    refine pr_cvT [_] rfl rfl rfl rfl rfl (Nat.le_of_ble_eq_true rfl) (by first | assumption | decide | (simp (disch := omega) only [c64, c8, nI_div, i_sub, hp, hr2, rI_mul, nI_add, nI_1, nI_clamp, c663, pr_16_663, pr_8_10, pr_8_20, pr_8_64, pr_8_8, pr_8_m4, pr_i_0, pr_i_1, pr_i_m1]; first | assumption | exact ⟨Or.inl (by assumption), rvin (by assumption) (by omega) (by decide)⟩ | exact ⟨by assumption, rvin (by assumption) (by omega) (by decide)⟩ | exact ⟨⟨by omega, by omega⟩, rvin (by assumption) (by omega) (by decide)⟩ | exact ⟨Or.inr (by assumption), rvin (by assumption) (by omega) (by decide)⟩ | exact ⟨Or.inr ⟨by assumption, (by first | exact Or.inl rfl | exact Or.inr rfl | exact pr_b01 _)⟩, rvin (by assumption) (by omega) (by decide)⟩ | exact ⟨by assumption, by assumption⟩ | decide | omega)) (Nat.le_of_ble_eq_true rfl) (hip) ?_
                    refine pr_ifT rfl (fun h56 => ?_) (fun h56 => ?_)
                    · simp only [ab_cmp, pr_16_663, pr_8_10, pr_8_20, pr_8_64, pr_8_8, pr_8_m4, pr_i_0, pr_i_1, pr_i_m1] at h56
                      exact absurd h56 (by decide)
                    · simp only [ab_cmp, pr_16_663, pr_8_10, pr_8_20, pr_8_64, pr_8_8, pr_8_m4, pr_i_0, pr_i_1, pr_i_m1] at h56
                      first
                      | contradiction
                      | exact absurd trivial h56
                      | exact absurd h56 (by decide)
                      | exact absurd (Classical.not_not.mp h56) (by decide)
                      | skip
                        refine pr_seqT (pc' := 62) 2 rfl ⟨⟨trivial, (by first | decide | assumption)⟩, trivial⟩ ?_
                        try simp (disch := omega) only [c64, c8, nI_div, i_sub, hp, hr2, rI_mul, nI_add, nI_1, nI_clamp, c663, pr_16_663, pr_8_10, pr_8_20, pr_8_64, pr_8_8, pr_8_m4, pr_i_0, pr_i_1, pr_i_m1]
                        refine pr_cvT [_] rfl rfl rfl rfl rfl (Nat.le_of_ble_eq_true rfl) (by first | assumption | decide | (simp (disch := omega) only [c64, c8, nI_div, i_sub, hp, hr2, rI_mul, nI_add, nI_1, nI_clamp, c663, pr_16_663, pr_8_10, pr_8_20, pr_8_64, pr_8_8, pr_8_m4, pr_i_0, pr_i_1, pr_i_m1]; first | assumption | exact ⟨Or.inl (by assumption), rvin (by assumption) (by omega) (by decide)⟩ | exact ⟨by assumption, rvin (by assumption) (by omega) (by decide)⟩ | exact ⟨⟨by omega, by omega⟩, rvin (by assumption) (by omega) (by decide)⟩ | exact ⟨Or.inr (by assumption), rvin (by assumption) (by omega) (by decide)⟩ | exact ⟨Or.inr ⟨by assumption, (by first | exact Or.inl rfl | exact Or.inr rfl | exact pr_b01 _)⟩, rvin (by assumption) (by omega) (by decide)⟩ | exact ⟨by assumption, by assumption⟩ | decide | omega)) (Nat.le_of_ble_eq_true rfl) (hir) ?_
                        refine pr_ifT rfl (fun h65 => ?_) (fun h65 => ?_)
                        · simp only [ab_cmp, pr_16_663, pr_8_10, pr_8_20, pr_8_64, pr_8_8, pr_8_m4, pr_i_0, pr_i_1, pr_i_m1] at h65
                          exact absurd h65 (by decide)
                        · simp only [ab_cmp, pr_16_663, pr_8_10, pr_8_20, pr_8_64, pr_8_8, pr_8_m4, pr_i_0, pr_i_1, pr_i_m1] at h65
                          first
                          | contradiction
                          | exact absurd trivial h65
                          | exact absurd h65 (by decide)
                          | exact absurd (Classical.not_not.mp h65) (by decide)
                          | skip
                            refine pr_seqT (pc' := 72) 2 rfl ⟨⟨trivial, trivial⟩, trivial⟩ ?_
                            try simp (disch := omega) only [c64, c8, nI_div, i_sub, hp, hr2, rI_mul, nI_add, nI_1, nI_clamp, c663, pr_16_663, pr_8_10, pr_8_20, pr_8_64, pr_8_8, pr_8_m4, pr_i_0, pr_i_1, pr_i_m1]
                            refine pr_icT rfl (fun h72 => ?_) (fun h72 => ?_)
                            · simp only [ab_cmp, pr_16_663, pr_8_10, pr_8_20, pr_8_64, pr_8_8, pr_8_m4, pr_i_0, pr_i_1, pr_i_m1] at h72
                              exact absurd h72 ez
                            · simp only [ab_cmp, pr_16_663, pr_8_10, pr_8_20, pr_8_64, pr_8_8, pr_8_m4, pr_i_0, pr_i_1, pr_i_m1] at h72
                              first
                              | contradiction
                              | exact absurd trivial h72
                              | exact absurd h72 (by decide)
                              | exact absurd (Classical.not_not.mp h72) (by decide)
                              | skip
                                refine pr_seqT (pc' := 78) 2 rfl ⟨⟨trivial, (by first | decide | assumption)⟩, trivial⟩ ?_
                                try simp (disch := omega) only [c64, c8, nI_div, i_sub, hp, hr2, rI_mul, nI_add, nI_1, nI_clamp, c663, pr_16_663, pr_8_10, pr_8_20, pr_8_64, pr_8_8, pr_8_m4, pr_i_0, pr_i_1, pr_i_m1]
                                refine pr_cvT [_] rfl rfl rfl rfl rfl (Nat.le_of_ble_eq_true rfl) (by first | assumption | decide | (simp (disch := omega) only [c64, c8, nI_div, i_sub, hp, hr2, rI_mul, nI_add, nI_1, nI_clamp, c663, pr_16_663, pr_8_10, pr_8_20, pr_8_64, pr_8_8, pr_8_m4, pr_i_0, pr_i_1, pr_i_m1]; first | assumption | exact ⟨Or.inl (by assumption), rvin (by assumption) (by omega) (by decide)⟩ | exact ⟨by assumption, rvin (by assumption) (by omega) (by decide)⟩ | exact ⟨⟨by omega, by omega⟩, rvin (by assumption) (by omega) (by decide)⟩ | exact ⟨Or.inr (by assumption), rvin (by assumption) (by omega) (by decide)⟩ | exact ⟨Or.inr ⟨by assumption, (by first | exact Or.inl rfl | exact Or.inr rfl | exact pr_b01 _)⟩, rvin (by assumption) (by omega) (by decide)⟩ | exact ⟨by assumption, by assumption⟩ | decide | omega)) (Nat.le_of_ble_eq_true rfl) (kpr) ?_
                                refine pr_seqT (pc' := 82) 1 rfl ⟨trivial, trivial⟩ ?_
                                try simp (disch := omega) only [c64, c8, nI_div, i_sub, hp, hr2, rI_mul, nI_add, nI_1, nI_clamp, c663, pr_16_663, pr_8_10, pr_8_20, pr_8_64, pr_8_8, pr_8_m4, pr_i_0, pr_i_1, pr_i_m1]
                                refine pr_icT rfl (fun h82 => ?_) (fun h82 => ?_)
                                · simp only [ab_cmp, pr_16_663, pr_8_10, pr_8_20, pr_8_64, pr_8_8, pr_8_m4, pr_i_0, pr_i_1, pr_i_m1] at h82
                                  first
                                  | contradiction
                                  | exact absurd trivial h82
                                  | exact absurd h82 (by decide)
                                  | exact absurd (Classical.not_not.mp h82) (by decide)
                                  | skip
                                    refine pr_seqT (pc' := 29) 2 rfl ⟨⟨trivial, trivial⟩, trivial⟩ ?_
                                    try simp (disch := omega) only [c64, c8, nI_div, i_sub, hp, hr2, rI_mul, nI_add, nI_1, nI_clamp, c663, pr_16_663, pr_8_10, pr_8_20, pr_8_64, pr_8_8, pr_8_m4, pr_i_0, pr_i_1, pr_i_m1]
                                    rw [← hs]; exact ih (k + 1) (by omega) _ _ _
                                · simp only [ab_cmp, pr_16_663, pr_8_10, pr_8_20, pr_8_64, pr_8_8, pr_8_m4, pr_i_0, pr_i_1, pr_i_m1] at h82
                                  exact absurd z1 h82
              · have z1 : ¬ nI (d_pn X.1.1 p).1 = 1 := nI_ne (b := 1) dp (by omega) (by decide)
                by_cases dr : (d_pn X.1.1 r).1 = 1
                · have z2 : nI (d_pn X.1.1 r).1 = 1 := by rw [dr]; rfl
                  have hs := skip (fun _ _ => by unfold wv; rw [if_pos (Or.inr (Or.inr dr))])
                  refine pr_seqT (pc' := 33) 2 rfl ⟨⟨trivial, trivial⟩, trivial⟩ ?_
                  try simp (disch := omega) only [c64, c8, nI_div, i_sub, hp, hr2, rI_mul, nI_add, nI_1, nI_clamp, c663, pr_16_663, pr_8_10, pr_8_20, pr_8_64, pr_8_8, pr_8_m4, pr_i_0, pr_i_1, pr_i_m1]
                  refine pr_icT rfl (fun h33 => ?_) (fun h33 => ?_)
                  · simp only [ab_cmp, pr_16_663, pr_8_10, pr_8_20, pr_8_64, pr_8_8, pr_8_m4, pr_i_0, pr_i_1, pr_i_m1] at h33
                    exact absurd h33 e1
                  · simp only [ab_cmp, pr_16_663, pr_8_10, pr_8_20, pr_8_64, pr_8_8, pr_8_m4, pr_i_0, pr_i_1, pr_i_m1] at h33
                    first
                    | contradiction
                    | exact absurd trivial h33
                    | exact absurd h33 (by decide)
                    | exact absurd (Classical.not_not.mp h33) (by decide)
                    | skip
                      refine pr_seqT (pc' := 53) 10 rfl ⟨⟨⟨⟨⟨⟨⟨⟨⟨⟨trivial, trivial⟩, trivial⟩, (by first | assumption | decide | (simp (disch := omega) only [c64, c8, nI_div, i_sub, hp, hr2, rI_mul, nI_add, nI_1, nI_clamp, c663, pr_16_663, pr_8_10, pr_8_20, pr_8_64, pr_8_8, pr_8_m4, pr_i_0, pr_i_1, pr_i_m1]; first | assumption | exact ⟨Or.inl (by assumption), rvin (by assumption) (by omega) (by decide)⟩ | exact ⟨by assumption, rvin (by assumption) (by omega) (by decide)⟩ | exact ⟨⟨by omega, by omega⟩, rvin (by assumption) (by omega) (by decide)⟩ | exact ⟨Or.inr (by assumption), rvin (by assumption) (by omega) (by decide)⟩ | exact ⟨Or.inr ⟨by assumption, (by first | exact Or.inl rfl | exact Or.inr rfl | exact pr_b01 _)⟩, rvin (by assumption) (by omega) (by decide)⟩ | exact ⟨by assumption, by assumption⟩ | decide | omega))⟩, trivial⟩, trivial⟩, trivial⟩, (by first | assumption | decide | (simp (disch := omega) only [c64, c8, nI_div, i_sub, hp, hr2, rI_mul, nI_add, nI_1, nI_clamp, c663, pr_16_663, pr_8_10, pr_8_20, pr_8_64, pr_8_8, pr_8_m4, pr_i_0, pr_i_1, pr_i_m1]; first | assumption | exact ⟨Or.inl (by assumption), rvin (by assumption) (by omega) (by decide)⟩ | exact ⟨by assumption, rvin (by assumption) (by omega) (by decide)⟩ | exact ⟨⟨by omega, by omega⟩, rvin (by assumption) (by omega) (by decide)⟩ | exact ⟨Or.inr (by assumption), rvin (by assumption) (by omega) (by decide)⟩ | exact ⟨Or.inr ⟨by assumption, (by first | exact Or.inl rfl | exact Or.inr rfl | exact pr_b01 _)⟩, rvin (by assumption) (by omega) (by decide)⟩ | exact ⟨by assumption, by assumption⟩ | decide | omega))⟩, trivial⟩, (by first | decide | assumption)⟩, trivial⟩ ?_
                      try simp (disch := omega) only [c64, c8, nI_div, i_sub, hp, hr2, rI_mul, nI_add, nI_1, nI_clamp, c663, pr_16_663, pr_8_10, pr_8_20, pr_8_64, pr_8_8, pr_8_m4, pr_i_0, pr_i_1, pr_i_m1]
                      refine pr_cvT [_] rfl rfl rfl rfl rfl (Nat.le_of_ble_eq_true rfl) (by first | assumption | decide | (simp (disch := omega) only [c64, c8, nI_div, i_sub, hp, hr2, rI_mul, nI_add, nI_1, nI_clamp, c663, pr_16_663, pr_8_10, pr_8_20, pr_8_64, pr_8_8, pr_8_m4, pr_i_0, pr_i_1, pr_i_m1]; first | assumption | exact ⟨Or.inl (by assumption), rvin (by assumption) (by omega) (by decide)⟩ | exact ⟨by assumption, rvin (by assumption) (by omega) (by decide)⟩ | exact ⟨⟨by omega, by omega⟩, rvin (by assumption) (by omega) (by decide)⟩ | exact ⟨Or.inr (by assumption), rvin (by assumption) (by omega) (by decide)⟩ | exact ⟨Or.inr ⟨by assumption, (by first | exact Or.inl rfl | exact Or.inr rfl | exact pr_b01 _)⟩, rvin (by assumption) (by omega) (by decide)⟩ | exact ⟨by assumption, by assumption⟩ | decide | omega)) (Nat.le_of_ble_eq_true rfl) (hip) ?_
                      refine pr_ifT rfl (fun h56 => ?_) (fun h56 => ?_)
                      · simp only [ab_cmp, pr_16_663, pr_8_10, pr_8_20, pr_8_64, pr_8_8, pr_8_m4, pr_i_0, pr_i_1, pr_i_m1] at h56
                        exact absurd h56 (by decide)
                      · simp only [ab_cmp, pr_16_663, pr_8_10, pr_8_20, pr_8_64, pr_8_8, pr_8_m4, pr_i_0, pr_i_1, pr_i_m1] at h56
                        first
                        | contradiction
                        | exact absurd trivial h56
                        | exact absurd h56 (by decide)
                        | exact absurd (Classical.not_not.mp h56) (by decide)
                        | skip
                          refine pr_seqT (pc' := 62) 2 rfl ⟨⟨trivial, (by first | decide | assumption)⟩, trivial⟩ ?_
                          try simp (disch := omega) only [c64, c8, nI_div, i_sub, hp, hr2, rI_mul, nI_add, nI_1, nI_clamp, c663, pr_16_663, pr_8_10, pr_8_20, pr_8_64, pr_8_8, pr_8_m4, pr_i_0, pr_i_1, pr_i_m1]
                          refine pr_cvT [_] rfl rfl rfl rfl rfl (Nat.le_of_ble_eq_true rfl) (by first | assumption | decide | (simp (disch := omega) only [c64, c8, nI_div, i_sub, hp, hr2, rI_mul, nI_add, nI_1, nI_clamp, c663, pr_16_663, pr_8_10, pr_8_20, pr_8_64, pr_8_8, pr_8_m4, pr_i_0, pr_i_1, pr_i_m1]; first | assumption | exact ⟨Or.inl (by assumption), rvin (by assumption) (by omega) (by decide)⟩ | exact ⟨by assumption, rvin (by assumption) (by omega) (by decide)⟩ | exact ⟨⟨by omega, by omega⟩, rvin (by assumption) (by omega) (by decide)⟩ | exact ⟨Or.inr (by assumption), rvin (by assumption) (by omega) (by decide)⟩ | exact ⟨Or.inr ⟨by assumption, (by first | exact Or.inl rfl | exact Or.inr rfl | exact pr_b01 _)⟩, rvin (by assumption) (by omega) (by decide)⟩ | exact ⟨by assumption, by assumption⟩ | decide | omega)) (Nat.le_of_ble_eq_true rfl) (hir) ?_
                          refine pr_ifT rfl (fun h65 => ?_) (fun h65 => ?_)
                          · simp only [ab_cmp, pr_16_663, pr_8_10, pr_8_20, pr_8_64, pr_8_8, pr_8_m4, pr_i_0, pr_i_1, pr_i_m1] at h65
                            exact absurd h65 (by decide)
                          · simp only [ab_cmp, pr_16_663, pr_8_10, pr_8_20, pr_8_64, pr_8_8, pr_8_m4, pr_i_0, pr_i_1, pr_i_m1] at h65
                            first
                            | contradiction
                            | exact absurd trivial h65
                            | exact absurd h65 (by decide)
                            | exact absurd (Classical.not_not.mp h65) (by decide)
                            | skip
                              refine pr_seqT (pc' := 72) 2 rfl ⟨⟨trivial, trivial⟩, trivial⟩ ?_
                              try simp (disch := omega) only [c64, c8, nI_div, i_sub, hp, hr2, rI_mul, nI_add, nI_1, nI_clamp, c663, pr_16_663, pr_8_10, pr_8_20, pr_8_64, pr_8_8, pr_8_m4, pr_i_0, pr_i_1, pr_i_m1]
                              refine pr_icT rfl (fun h72 => ?_) (fun h72 => ?_)
                              · simp only [ab_cmp, pr_16_663, pr_8_10, pr_8_20, pr_8_64, pr_8_8, pr_8_m4, pr_i_0, pr_i_1, pr_i_m1] at h72
                                exact absurd h72 ez
                              · simp only [ab_cmp, pr_16_663, pr_8_10, pr_8_20, pr_8_64, pr_8_8, pr_8_m4, pr_i_0, pr_i_1, pr_i_m1] at h72
                                first
                                | contradiction
                                | exact absurd trivial h72
                                | exact absurd h72 (by decide)
                                | exact absurd (Classical.not_not.mp h72) (by decide)
                                | skip
                                  refine pr_seqT (pc' := 78) 2 rfl ⟨⟨trivial, (by first | decide | assumption)⟩, trivial⟩ ?_
                                  try simp (disch := omega) only [c64, c8, nI_div, i_sub, hp, hr2, rI_mul, nI_add, nI_1, nI_clamp, c663, pr_16_663, pr_8_10, pr_8_20, pr_8_64, pr_8_8, pr_8_m4, pr_i_0, pr_i_1, pr_i_m1]
                                  refine pr_cvT [_] rfl rfl rfl rfl rfl (Nat.le_of_ble_eq_true rfl) (by first | assumption | decide | (simp (disch := omega) only [c64, c8, nI_div, i_sub, hp, hr2, rI_mul, nI_add, nI_1, nI_clamp, c663, pr_16_663, pr_8_10, pr_8_20, pr_8_64, pr_8_8, pr_8_m4, pr_i_0, pr_i_1, pr_i_m1]; first | assumption | exact ⟨Or.inl (by assumption), rvin (by assumption) (by omega) (by decide)⟩ | exact ⟨by assumption, rvin (by assumption) (by omega) (by decide)⟩ | exact ⟨⟨by omega, by omega⟩, rvin (by assumption) (by omega) (by decide)⟩ | exact ⟨Or.inr (by assumption), rvin (by assumption) (by omega) (by decide)⟩ | exact ⟨Or.inr ⟨by assumption, (by first | exact Or.inl rfl | exact Or.inr rfl | exact pr_b01 _)⟩, rvin (by assumption) (by omega) (by decide)⟩ | exact ⟨by assumption, by assumption⟩ | decide | omega)) (Nat.le_of_ble_eq_true rfl) (kpr) ?_
                                  refine pr_seqT (pc' := 82) 1 rfl ⟨trivial, trivial⟩ ?_
                                  try simp (disch := omega) only [c64, c8, nI_div, i_sub, hp, hr2, rI_mul, nI_add, nI_1, nI_clamp, c663, pr_16_663, pr_8_10, pr_8_20, pr_8_64, pr_8_8, pr_8_m4, pr_i_0, pr_i_1, pr_i_m1]
                                  refine pr_icT rfl (fun h82 => ?_) (fun h82 => ?_)
                                  · simp only [ab_cmp, pr_16_663, pr_8_10, pr_8_20, pr_8_64, pr_8_8, pr_8_m4, pr_i_0, pr_i_1, pr_i_m1] at h82
                                    exact absurd h82 z1
                                  · simp only [ab_cmp, pr_16_663, pr_8_10, pr_8_20, pr_8_64, pr_8_8, pr_8_m4, pr_i_0, pr_i_1, pr_i_m1] at h82
                                    first
                                    | contradiction
                                    | exact absurd trivial h82
                                    | exact absurd h82 (by decide)
                                    | exact absurd (Classical.not_not.mp h82) (by decide)
                                    | skip
                                      refine pr_seqT (pc' := 88) 2 rfl ⟨⟨trivial, (by first | decide | assumption)⟩, trivial⟩ ?_
                                      try simp (disch := omega) only [c64, c8, nI_div, i_sub, hp, hr2, rI_mul, nI_add, nI_1, nI_clamp, c663, pr_16_663, pr_8_10, pr_8_20, pr_8_64, pr_8_8, pr_8_m4, pr_i_0, pr_i_1, pr_i_m1]
                                      refine pr_cvT [_] rfl rfl rfl rfl rfl (Nat.le_of_ble_eq_true rfl) (by first | assumption | decide | (simp (disch := omega) only [c64, c8, nI_div, i_sub, hp, hr2, rI_mul, nI_add, nI_1, nI_clamp, c663, pr_16_663, pr_8_10, pr_8_20, pr_8_64, pr_8_8, pr_8_m4, pr_i_0, pr_i_1, pr_i_m1]; first | assumption | exact ⟨Or.inl (by assumption), rvin (by assumption) (by omega) (by decide)⟩ | exact ⟨by assumption, rvin (by assumption) (by omega) (by decide)⟩ | exact ⟨⟨by omega, by omega⟩, rvin (by assumption) (by omega) (by decide)⟩ | exact ⟨Or.inr (by assumption), rvin (by assumption) (by omega) (by decide)⟩ | exact ⟨Or.inr ⟨by assumption, (by first | exact Or.inl rfl | exact Or.inr rfl | exact pr_b01 _)⟩, rvin (by assumption) (by omega) (by decide)⟩ | exact ⟨by assumption, by assumption⟩ | decide | omega)) (Nat.le_of_ble_eq_true rfl) (krr) ?_
                                      refine pr_seqT (pc' := 92) 1 rfl ⟨trivial, trivial⟩ ?_
                                      try simp (disch := omega) only [c64, c8, nI_div, i_sub, hp, hr2, rI_mul, nI_add, nI_1, nI_clamp, c663, pr_16_663, pr_8_10, pr_8_20, pr_8_64, pr_8_8, pr_8_m4, pr_i_0, pr_i_1, pr_i_m1]
                                      refine pr_icT rfl (fun h92 => ?_) (fun h92 => ?_)
                                      · simp only [ab_cmp, pr_16_663, pr_8_10, pr_8_20, pr_8_64, pr_8_8, pr_8_m4, pr_i_0, pr_i_1, pr_i_m1] at h92
                                        first
                                        | contradiction
                                        | exact absurd trivial h92
                                        | exact absurd h92 (by decide)
                                        | exact absurd (Classical.not_not.mp h92) (by decide)
                                        | skip
                                          refine pr_seqT (pc' := 29) 2 rfl ⟨⟨trivial, trivial⟩, trivial⟩ ?_
                                          try simp (disch := omega) only [c64, c8, nI_div, i_sub, hp, hr2, rI_mul, nI_add, nI_1, nI_clamp, c663, pr_16_663, pr_8_10, pr_8_20, pr_8_64, pr_8_8, pr_8_m4, pr_i_0, pr_i_1, pr_i_m1]
                                          rw [← hs]; exact ih (k + 1) (by omega) _ _ _
                                      · simp only [ab_cmp, pr_16_663, pr_8_10, pr_8_20, pr_8_64, pr_8_8, pr_8_m4, pr_i_0, pr_i_1, pr_i_m1] at h92
                                        exact absurd z2 h92
                · have z2 : ¬ nI (d_pn X.1.1 r).1 = 1 := nI_ne (b := 1) dr (by omega) (by decide)
                  by_cases c2 : (d_pn X.1.1 p).2.2.2.length + (d_pn X.1.1 r).2.2.2.length ≤ 20
                  · have z3 : ¬ nI 20 < nI ((d_pn X.1.1 p).2.2.2.length + (d_pn X.1.1 r).2.2.2.length) := nI_nlt c2 (by decide)
                    have hwd := q_weds h (N, M.2) hl hv2.1 cp cr cpr c2
                    have hwv : wv X p r = a_wh (al (wS X.1.1 (x_S X) p r) (x_K X) p) (x_W X) (x_D X) (x_n X) := by
                      unfold wv
                      rw [if_neg (fun q => q.elim cpr (fun q => q.elim dp dr)), if_pos c2]
                    by_cases cb : (mtc (x_n X) (wv X) k).1 < wv X p r
                    · have cb' : ¬ wv X p r ≤ (mtc (x_n X) (wv X) k).1 := fun q => (i_le_nlt _ _).mp q cb
                      have hh := ih (k + 1) (by omega) (some (.int (nI p))) (some (.int (nI r))) (some (.int (wv X p r)))
                      rw [hst, if_pos ⟨cp, cr, cb⟩] at hh
                      refine pr_seqT (pc' := 33) 2 rfl ⟨⟨trivial, trivial⟩, trivial⟩ ?_
                      try simp (disch := omega) only [c64, c8, c20, nI_div, i_sub, hp, hr2, rI_mul, nI_add, nI_1, nI_clamp, c663, pr_16_663, pr_8_10, pr_8_20, pr_8_64, pr_8_8, pr_8_m4, pr_i_0, pr_i_1, pr_i_m1]
                      refine pr_icT rfl (fun h33 => ?_) (fun h33 => ?_)
                      · simp only [ab_cmp, pr_16_663, pr_8_10, pr_8_20, pr_8_64, pr_8_8, pr_8_m4, pr_i_0, pr_i_1, pr_i_m1] at h33
                        exact absurd h33 e1
                      · simp only [ab_cmp, pr_16_663, pr_8_10, pr_8_20, pr_8_64, pr_8_8, pr_8_m4, pr_i_0, pr_i_1, pr_i_m1] at h33
                        first
                        | contradiction
                        | exact absurd trivial h33
                        | exact absurd h33 (by decide)
                        | exact absurd (Classical.not_not.mp h33) (by decide)
                        | skip
                          refine pr_seqT (pc' := 53) 10 rfl ⟨⟨⟨⟨⟨⟨⟨⟨⟨⟨trivial, trivial⟩, trivial⟩, (by first | assumption | decide | (simp (disch := omega) only [c64, c8, c20, nI_div, i_sub, hp, hr2, rI_mul, nI_add, nI_1, nI_clamp, c663, pr_16_663, pr_8_10, pr_8_20, pr_8_64, pr_8_8, pr_8_m4, pr_i_0, pr_i_1, pr_i_m1]; first | assumption | exact ⟨Or.inl (by assumption), rvin (by assumption) (by omega) (by decide)⟩ | exact ⟨by assumption, rvin (by assumption) (by omega) (by decide)⟩ | exact ⟨⟨by omega, by omega⟩, rvin (by assumption) (by omega) (by decide)⟩ | exact ⟨Or.inr (by assumption), rvin (by assumption) (by omega) (by decide)⟩ | exact ⟨Or.inr ⟨by assumption, (by first | exact Or.inl rfl | exact Or.inr rfl | exact pr_b01 _)⟩, rvin (by assumption) (by omega) (by decide)⟩ | exact ⟨by assumption, by assumption⟩ | decide | omega))⟩, trivial⟩, trivial⟩, trivial⟩, (by first | assumption | decide | (simp (disch := omega) only [c64, c8, c20, nI_div, i_sub, hp, hr2, rI_mul, nI_add, nI_1, nI_clamp, c663, pr_16_663, pr_8_10, pr_8_20, pr_8_64, pr_8_8, pr_8_m4, pr_i_0, pr_i_1, pr_i_m1]; first | assumption | exact ⟨Or.inl (by assumption), rvin (by assumption) (by omega) (by decide)⟩ | exact ⟨by assumption, rvin (by assumption) (by omega) (by decide)⟩ | exact ⟨⟨by omega, by omega⟩, rvin (by assumption) (by omega) (by decide)⟩ | exact ⟨Or.inr (by assumption), rvin (by assumption) (by omega) (by decide)⟩ | exact ⟨Or.inr ⟨by assumption, (by first | exact Or.inl rfl | exact Or.inr rfl | exact pr_b01 _)⟩, rvin (by assumption) (by omega) (by decide)⟩ | exact ⟨by assumption, by assumption⟩ | decide | omega))⟩, trivial⟩, (by first | decide | assumption)⟩, trivial⟩ ?_
                          try simp (disch := omega) only [c64, c8, c20, nI_div, i_sub, hp, hr2, rI_mul, nI_add, nI_1, nI_clamp, c663, pr_16_663, pr_8_10, pr_8_20, pr_8_64, pr_8_8, pr_8_m4, pr_i_0, pr_i_1, pr_i_m1]
                          refine pr_cvT [_] rfl rfl rfl rfl rfl (Nat.le_of_ble_eq_true rfl) (by first | assumption | decide | (simp (disch := omega) only [c64, c8, c20, nI_div, i_sub, hp, hr2, rI_mul, nI_add, nI_1, nI_clamp, c663, pr_16_663, pr_8_10, pr_8_20, pr_8_64, pr_8_8, pr_8_m4, pr_i_0, pr_i_1, pr_i_m1]; first | assumption | exact ⟨Or.inl (by assumption), rvin (by assumption) (by omega) (by decide)⟩ | exact ⟨by assumption, rvin (by assumption) (by omega) (by decide)⟩ | exact ⟨⟨by omega, by omega⟩, rvin (by assumption) (by omega) (by decide)⟩ | exact ⟨Or.inr (by assumption), rvin (by assumption) (by omega) (by decide)⟩ | exact ⟨Or.inr ⟨by assumption, (by first | exact Or.inl rfl | exact Or.inr rfl | exact pr_b01 _)⟩, rvin (by assumption) (by omega) (by decide)⟩ | exact ⟨by assumption, by assumption⟩ | decide | omega)) (Nat.le_of_ble_eq_true rfl) (hip) ?_
                          refine pr_ifT rfl (fun h56 => ?_) (fun h56 => ?_)
                          · simp only [ab_cmp, pr_16_663, pr_8_10, pr_8_20, pr_8_64, pr_8_8, pr_8_m4, pr_i_0, pr_i_1, pr_i_m1] at h56
                            exact absurd h56 (by decide)
                          · simp only [ab_cmp, pr_16_663, pr_8_10, pr_8_20, pr_8_64, pr_8_8, pr_8_m4, pr_i_0, pr_i_1, pr_i_m1] at h56
                            first
                            | contradiction
                            | exact absurd trivial h56
                            | exact absurd h56 (by decide)
                            | exact absurd (Classical.not_not.mp h56) (by decide)
                            | skip
                              refine pr_seqT (pc' := 62) 2 rfl ⟨⟨trivial, (by first | decide | assumption)⟩, trivial⟩ ?_
                              try simp (disch := omega) only [c64, c8, c20, nI_div, i_sub, hp, hr2, rI_mul, nI_add, nI_1, nI_clamp, c663, pr_16_663, pr_8_10, pr_8_20, pr_8_64, pr_8_8, pr_8_m4, pr_i_0, pr_i_1, pr_i_m1]
                              refine pr_cvT [_] rfl rfl rfl rfl rfl (Nat.le_of_ble_eq_true rfl) (by first | assumption | decide | (simp (disch := omega) only [c64, c8, c20, nI_div, i_sub, hp, hr2, rI_mul, nI_add, nI_1, nI_clamp, c663, pr_16_663, pr_8_10, pr_8_20, pr_8_64, pr_8_8, pr_8_m4, pr_i_0, pr_i_1, pr_i_m1]; first | assumption | exact ⟨Or.inl (by assumption), rvin (by assumption) (by omega) (by decide)⟩ | exact ⟨by assumption, rvin (by assumption) (by omega) (by decide)⟩ | exact ⟨⟨by omega, by omega⟩, rvin (by assumption) (by omega) (by decide)⟩ | exact ⟨Or.inr (by assumption), rvin (by assumption) (by omega) (by decide)⟩ | exact ⟨Or.inr ⟨by assumption, (by first | exact Or.inl rfl | exact Or.inr rfl | exact pr_b01 _)⟩, rvin (by assumption) (by omega) (by decide)⟩ | exact ⟨by assumption, by assumption⟩ | decide | omega)) (Nat.le_of_ble_eq_true rfl) (hir) ?_
                              refine pr_ifT rfl (fun h65 => ?_) (fun h65 => ?_)
                              · simp only [ab_cmp, pr_16_663, pr_8_10, pr_8_20, pr_8_64, pr_8_8, pr_8_m4, pr_i_0, pr_i_1, pr_i_m1] at h65
                                exact absurd h65 (by decide)
                              · simp only [ab_cmp, pr_16_663, pr_8_10, pr_8_20, pr_8_64, pr_8_8, pr_8_m4, pr_i_0, pr_i_1, pr_i_m1] at h65
                                first
                                | contradiction
                                | exact absurd trivial h65
                                | exact absurd h65 (by decide)
                                | exact absurd (Classical.not_not.mp h65) (by decide)
                                | skip
                                  refine pr_seqT (pc' := 72) 2 rfl ⟨⟨trivial, trivial⟩, trivial⟩ ?_
                                  try simp (disch := omega) only [c64, c8, c20, nI_div, i_sub, hp, hr2, rI_mul, nI_add, nI_1, nI_clamp, c663, pr_16_663, pr_8_10, pr_8_20, pr_8_64, pr_8_8, pr_8_m4, pr_i_0, pr_i_1, pr_i_m1]
                                  refine pr_icT rfl (fun h72 => ?_) (fun h72 => ?_)
                                  · simp only [ab_cmp, pr_16_663, pr_8_10, pr_8_20, pr_8_64, pr_8_8, pr_8_m4, pr_i_0, pr_i_1, pr_i_m1] at h72
                                    exact absurd h72 ez
                                  · simp only [ab_cmp, pr_16_663, pr_8_10, pr_8_20, pr_8_64, pr_8_8, pr_8_m4, pr_i_0, pr_i_1, pr_i_m1] at h72
                                    first
                                    | contradiction
                                    | exact absurd trivial h72
                                    | exact absurd h72 (by decide)
                                    | exact absurd (Classical.not_not.mp h72) (by decide)
                                    | skip
                                      refine pr_seqT (pc' := 78) 2 rfl ⟨⟨trivial, (by first | decide | assumption)⟩, trivial⟩ ?_
                                      try simp (disch := omega) only [c64, c8, c20, nI_div, i_sub, hp, hr2, rI_mul, nI_add, nI_1, nI_clamp, c663, pr_16_663, pr_8_10, pr_8_20, pr_8_64, pr_8_8, pr_8_m4, pr_i_0, pr_i_1, pr_i_m1]
                                      refine pr_cvT [_] rfl rfl rfl rfl rfl (Nat.le_of_ble_eq_true rfl) (by first | assumption | decide | (simp (disch := omega) only [c64, c8, c20, nI_div, i_sub, hp, hr2, rI_mul, nI_add, nI_1, nI_clamp, c663, pr_16_663, pr_8_10, pr_8_20, pr_8_64, pr_8_8, pr_8_m4, pr_i_0, pr_i_1, pr_i_m1]; first | assumption | exact ⟨Or.inl (by assumption), rvin (by assumption) (by omega) (by decide)⟩ | exact ⟨by assumption, rvin (by assumption) (by omega) (by decide)⟩ | exact ⟨⟨by omega, by omega⟩, rvin (by assumption) (by omega) (by decide)⟩ | exact ⟨Or.inr (by assumption), rvin (by assumption) (by omega) (by decide)⟩ | exact ⟨Or.inr ⟨by assumption, (by first | exact Or.inl rfl | exact Or.inr rfl | exact pr_b01 _)⟩, rvin (by assumption) (by omega) (by decide)⟩ | exact ⟨by assumption, by assumption⟩ | decide | omega)) (Nat.le_of_ble_eq_true rfl) (kpr) ?_
                                      refine pr_seqT (pc' := 82) 1 rfl ⟨trivial, trivial⟩ ?_
                                      try simp (disch := omega) only [c64, c8, c20, nI_div, i_sub, hp, hr2, rI_mul, nI_add, nI_1, nI_clamp, c663, pr_16_663, pr_8_10, pr_8_20, pr_8_64, pr_8_8, pr_8_m4, pr_i_0, pr_i_1, pr_i_m1]
                                      refine pr_icT rfl (fun h82 => ?_) (fun h82 => ?_)
                                      · simp only [ab_cmp, pr_16_663, pr_8_10, pr_8_20, pr_8_64, pr_8_8, pr_8_m4, pr_i_0, pr_i_1, pr_i_m1] at h82
                                        exact absurd h82 z1
                                      · simp only [ab_cmp, pr_16_663, pr_8_10, pr_8_20, pr_8_64, pr_8_8, pr_8_m4, pr_i_0, pr_i_1, pr_i_m1] at h82
                                        first
                                        | contradiction
                                        | exact absurd trivial h82
                                        | exact absurd h82 (by decide)
                                        | exact absurd (Classical.not_not.mp h82) (by decide)
                                        | skip
                                          refine pr_seqT (pc' := 88) 2 rfl ⟨⟨trivial, (by first | decide | assumption)⟩, trivial⟩ ?_
                                          try simp (disch := omega) only [c64, c8, c20, nI_div, i_sub, hp, hr2, rI_mul, nI_add, nI_1, nI_clamp, c663, pr_16_663, pr_8_10, pr_8_20, pr_8_64, pr_8_8, pr_8_m4, pr_i_0, pr_i_1, pr_i_m1]
                                          refine pr_cvT [_] rfl rfl rfl rfl rfl (Nat.le_of_ble_eq_true rfl) (by first | assumption | decide | (simp (disch := omega) only [c64, c8, c20, nI_div, i_sub, hp, hr2, rI_mul, nI_add, nI_1, nI_clamp, c663, pr_16_663, pr_8_10, pr_8_20, pr_8_64, pr_8_8, pr_8_m4, pr_i_0, pr_i_1, pr_i_m1]; first | assumption | exact ⟨Or.inl (by assumption), rvin (by assumption) (by omega) (by decide)⟩ | exact ⟨by assumption, rvin (by assumption) (by omega) (by decide)⟩ | exact ⟨⟨by omega, by omega⟩, rvin (by assumption) (by omega) (by decide)⟩ | exact ⟨Or.inr (by assumption), rvin (by assumption) (by omega) (by decide)⟩ | exact ⟨Or.inr ⟨by assumption, (by first | exact Or.inl rfl | exact Or.inr rfl | exact pr_b01 _)⟩, rvin (by assumption) (by omega) (by decide)⟩ | exact ⟨by assumption, by assumption⟩ | decide | omega)) (Nat.le_of_ble_eq_true rfl) (krr) ?_
                                          refine pr_seqT (pc' := 92) 1 rfl ⟨trivial, trivial⟩ ?_
                                          try simp (disch := omega) only [c64, c8, c20, nI_div, i_sub, hp, hr2, rI_mul, nI_add, nI_1, nI_clamp, c663, pr_16_663, pr_8_10, pr_8_20, pr_8_64, pr_8_8, pr_8_m4, pr_i_0, pr_i_1, pr_i_m1]
                                          refine pr_icT rfl (fun h92 => ?_) (fun h92 => ?_)
                                          · simp only [ab_cmp, pr_16_663, pr_8_10, pr_8_20, pr_8_64, pr_8_8, pr_8_m4, pr_i_0, pr_i_1, pr_i_m1] at h92
                                            exact absurd h92 z2
                                          · simp only [ab_cmp, pr_16_663, pr_8_10, pr_8_20, pr_8_64, pr_8_8, pr_8_m4, pr_i_0, pr_i_1, pr_i_m1] at h92
                                            first
                                            | contradiction
                                            | exact absurd trivial h92
                                            | exact absurd h92 (by decide)
                                            | exact absurd (Classical.not_not.mp h92) (by decide)
                                            | skip
                                              refine pr_seqT (pc' := 98) 2 rfl ⟨⟨trivial, (by first | decide | assumption)⟩, trivial⟩ ?_
                                              try simp (disch := omega) only [c64, c8, c20, nI_div, i_sub, hp, hr2, rI_mul, nI_add, nI_1, nI_clamp, c663, pr_16_663, pr_8_10, pr_8_20, pr_8_64, pr_8_8, pr_8_m4, pr_i_0, pr_i_1, pr_i_m1]
                                              refine pr_cvT [_] rfl rfl rfl rfl rfl (Nat.le_of_ble_eq_true rfl) (by first | assumption | decide | (simp (disch := omega) only [c64, c8, c20, nI_div, i_sub, hp, hr2, rI_mul, nI_add, nI_1, nI_clamp, c663, pr_16_663, pr_8_10, pr_8_20, pr_8_64, pr_8_8, pr_8_m4, pr_i_0, pr_i_1, pr_i_m1]; first | assumption | exact ⟨Or.inl (by assumption), rvin (by assumption) (by omega) (by decide)⟩ | exact ⟨by assumption, rvin (by assumption) (by omega) (by decide)⟩ | exact ⟨⟨by omega, by omega⟩, rvin (by assumption) (by omega) (by decide)⟩ | exact ⟨Or.inr (by assumption), rvin (by assumption) (by omega) (by decide)⟩ | exact ⟨Or.inr ⟨by assumption, (by first | exact Or.inl rfl | exact Or.inr rfl | exact pr_b01 _)⟩, rvin (by assumption) (by omega) (by decide)⟩ | exact ⟨by assumption, by assumption⟩ | decide | omega)) (Nat.le_of_ble_eq_true rfl) (lpr) ?_
                                              refine pr_seqT (pc' := 104) 2 rfl ⟨⟨trivial, (by first | decide | assumption)⟩, trivial⟩ ?_
                                              try simp (disch := omega) only [c64, c8, c20, nI_div, i_sub, hp, hr2, rI_mul, nI_add, nI_1, nI_clamp, c663, pr_16_663, pr_8_10, pr_8_20, pr_8_64, pr_8_8, pr_8_m4, pr_i_0, pr_i_1, pr_i_m1]
                                              refine pr_cvT [_] rfl rfl rfl rfl rfl (Nat.le_of_ble_eq_true rfl) (by first | assumption | decide | (simp (disch := omega) only [c64, c8, c20, nI_div, i_sub, hp, hr2, rI_mul, nI_add, nI_1, nI_clamp, c663, pr_16_663, pr_8_10, pr_8_20, pr_8_64, pr_8_8, pr_8_m4, pr_i_0, pr_i_1, pr_i_m1]; first | assumption | exact ⟨Or.inl (by assumption), rvin (by assumption) (by omega) (by decide)⟩ | exact ⟨by assumption, rvin (by assumption) (by omega) (by decide)⟩ | exact ⟨⟨by omega, by omega⟩, rvin (by assumption) (by omega) (by decide)⟩ | exact ⟨Or.inr (by assumption), rvin (by assumption) (by omega) (by decide)⟩ | exact ⟨Or.inr ⟨by assumption, (by first | exact Or.inl rfl | exact Or.inr rfl | exact pr_b01 _)⟩, rvin (by assumption) (by omega) (by decide)⟩ | exact ⟨by assumption, by assumption⟩ | decide | omega)) (Nat.le_of_ble_eq_true rfl) (lrr) ?_
                                              refine pr_seqT (pc' := 110) 2 rfl ⟨⟨trivial, trivial⟩, trivial⟩ ?_
                                              try simp (disch := omega) only [c64, c8, c20, nI_div, i_sub, hp, hr2, rI_mul, nI_add, nI_1, nI_clamp, c663, pr_16_663, pr_8_10, pr_8_20, pr_8_64, pr_8_8, pr_8_m4, pr_i_0, pr_i_1, pr_i_m1]
                                              refine pr_icT rfl (fun h110 => ?_) (fun h110 => ?_)
                                              · simp only [ab_cmp, pr_16_663, pr_8_10, pr_8_20, pr_8_64, pr_8_8, pr_8_m4, pr_i_0, pr_i_1, pr_i_m1] at h110
                                                exact absurd h110 z3
                                              · simp only [ab_cmp, pr_16_663, pr_8_10, pr_8_20, pr_8_64, pr_8_8, pr_8_m4, pr_i_0, pr_i_1, pr_i_m1] at h110
                                                first
                                                | contradiction
                                                | exact absurd trivial h110
                                                | exact absurd h110 (by decide)
                                                | exact absurd (Classical.not_not.mp h110) (by decide)
                                                | skip
                                                  refine pr_seqT (pc' := 118) 3 rfl ⟨⟨⟨trivial, (by first | decide | assumption)⟩, trivial⟩, trivial⟩ ?_
                                                  try simp (disch := omega) only [c64, c8, c20, nI_div, i_sub, hp, hr2, rI_mul, nI_add, nI_1, nI_clamp, c663, pr_16_663, pr_8_10, pr_8_20, pr_8_64, pr_8_8, pr_8_m4, pr_i_0, pr_i_1, pr_i_m1]
                                                  refine pr_cvX [_, _] rfl rfl rfl rfl rfl (Nat.le_of_ble_eq_true rfl) (by first | assumption | decide | (simp (disch := omega) only [c64, c8, c20, nI_div, i_sub, hp, hr2, rI_mul, nI_add, nI_1, nI_clamp, c663, pr_16_663, pr_8_10, pr_8_20, pr_8_64, pr_8_8, pr_8_m4, pr_i_0, pr_i_1, pr_i_m1]; first | assumption | exact ⟨Or.inl (by assumption), rvin (by assumption) (by omega) (by decide)⟩ | exact ⟨by assumption, rvin (by assumption) (by omega) (by decide)⟩ | exact ⟨⟨by omega, by omega⟩, rvin (by assumption) (by omega) (by decide)⟩ | exact ⟨Or.inr (by assumption), rvin (by assumption) (by omega) (by decide)⟩ | exact ⟨Or.inr ⟨by assumption, (by first | exact Or.inl rfl | exact Or.inr rfl | exact pr_b01 _)⟩, rvin (by assumption) (by omega) (by decide)⟩ | exact ⟨by assumption, by assumption⟩ | decide | omega)) (Nat.le_of_ble_eq_true rfl) (hwd) (fun v118 M118 q118 => ?_)
                                                  obtain ⟨rfl, w1, w2, w3, w4⟩ := q118
                                                  obtain ⟨I1, Z1⟩ := M118
                                                  dsimp only at w1 w2 w3 w4
                                                  subst w1
                                                  have hpo := q_personOf h (I1, M.2) hl w2 (by rw [wed_len]; exact cp)
                                                  have hwo := q_worthHaving (f := lal (wedL X.1.1 p r) p) h (I1, M.2) hl w2
                                                  rw [wed_wh cp cr cpr, ← hwv] at hwo
                                                  have hcb2 := hcb I1 w3 w4
                                                  refine pr_seqT (pc' := 125) 3 rfl ⟨⟨⟨trivial, (by first | decide | assumption)⟩, (by first | decide | assumption)⟩, trivial⟩ ?_
                                                  try simp (disch := omega) only [c64, c8, c20, nI_div, i_sub, hp, hr2, rI_mul, nI_add, nI_1, nI_clamp, c663, pr_16_663, pr_8_10, pr_8_20, pr_8_64, pr_8_8, pr_8_m4, pr_i_0, pr_i_1, pr_i_m1]
                                                  refine pr_cvT [_] rfl rfl rfl rfl rfl (Nat.le_of_ble_eq_true rfl) (by first | assumption | decide | (simp (disch := omega) only [c64, c8, c20, nI_div, i_sub, hp, hr2, rI_mul, nI_add, nI_1, nI_clamp, c663, pr_16_663, pr_8_10, pr_8_20, pr_8_64, pr_8_8, pr_8_m4, pr_i_0, pr_i_1, pr_i_m1]; first | assumption | exact ⟨Or.inl (by assumption), rvin (by assumption) (by omega) (by decide)⟩ | exact ⟨by assumption, rvin (by assumption) (by omega) (by decide)⟩ | exact ⟨⟨by omega, by omega⟩, rvin (by assumption) (by omega) (by decide)⟩ | exact ⟨Or.inr (by assumption), rvin (by assumption) (by omega) (by decide)⟩ | exact ⟨Or.inr ⟨by assumption, (by first | exact Or.inl rfl | exact Or.inr rfl | exact pr_b01 _)⟩, rvin (by assumption) (by omega) (by decide)⟩ | exact ⟨by assumption, by assumption⟩ | decide | omega)) (Nat.le_of_ble_eq_true rfl) (hpo) ?_
                                                  refine pr_cvT [_] rfl rfl rfl rfl rfl (Nat.le_of_ble_eq_true rfl) (by first | assumption | decide | (simp (disch := omega) only [c64, c8, c20, nI_div, i_sub, hp, hr2, rI_mul, nI_add, nI_1, nI_clamp, c663, pr_16_663, pr_8_10, pr_8_20, pr_8_64, pr_8_8, pr_8_m4, pr_i_0, pr_i_1, pr_i_m1]; first | assumption | exact ⟨Or.inl (by assumption), rvin (by assumption) (by omega) (by decide)⟩ | exact ⟨by assumption, rvin (by assumption) (by omega) (by decide)⟩ | exact ⟨⟨by omega, by omega⟩, rvin (by assumption) (by omega) (by decide)⟩ | exact ⟨Or.inr (by assumption), rvin (by assumption) (by omega) (by decide)⟩ | exact ⟨Or.inr ⟨by assumption, (by first | exact Or.inl rfl | exact Or.inr rfl | exact pr_b01 _)⟩, rvin (by assumption) (by omega) (by decide)⟩ | exact ⟨by assumption, by assumption⟩ | decide | omega)) (Nat.le_of_ble_eq_true rfl) (hwo) ?_
                                                  refine pr_seqT (pc' := 138) 4 rfl ⟨⟨⟨⟨trivial, trivial⟩, (by first | decide | assumption)⟩, trivial⟩, trivial⟩ ?_
                                                  try simp (disch := omega) only [c64, c8, c20, nI_div, i_sub, hp, hr2, rI_mul, nI_add, nI_1, nI_clamp, c663, pr_16_663, pr_8_10, pr_8_20, pr_8_64, pr_8_8, pr_8_m4, pr_i_0, pr_i_1, pr_i_m1]
                                                  refine pr_cvT [_, _] rfl rfl rfl rfl rfl (Nat.le_of_ble_eq_true rfl) (by first | assumption | decide | (simp (disch := omega) only [c64, c8, c20, nI_div, i_sub, hp, hr2, rI_mul, nI_add, nI_1, nI_clamp, c663, pr_16_663, pr_8_10, pr_8_20, pr_8_64, pr_8_8, pr_8_m4, pr_i_0, pr_i_1, pr_i_m1]; first | assumption | exact ⟨Or.inl (by assumption), rvin (by assumption) (by omega) (by decide)⟩ | exact ⟨by assumption, rvin (by assumption) (by omega) (by decide)⟩ | exact ⟨⟨by omega, by omega⟩, rvin (by assumption) (by omega) (by decide)⟩ | exact ⟨Or.inr (by assumption), rvin (by assumption) (by omega) (by decide)⟩ | exact ⟨Or.inr ⟨by assumption, (by first | exact Or.inl rfl | exact Or.inr rfl | exact pr_b01 _)⟩, rvin (by assumption) (by omega) (by decide)⟩ | exact ⟨by assumption, by assumption⟩ | decide | omega)) (Nat.le_of_ble_eq_true rfl) (hcb2) ?_
                                                  refine pr_seqT (pc' := 144) 2 rfl ⟨⟨trivial, trivial⟩, trivial⟩ ?_
                                                  try simp (disch := omega) only [c64, c8, c20, nI_div, i_sub, hp, hr2, rI_mul, nI_add, nI_1, nI_clamp, c663, pr_16_663, pr_8_10, pr_8_20, pr_8_64, pr_8_8, pr_8_m4, pr_i_0, pr_i_1, pr_i_m1]
                                                  refine pr_icT rfl (fun h144 => ?_) (fun h144 => ?_)
                                                  · simp only [ab_cmp, pr_16_663, pr_8_10, pr_8_20, pr_8_64, pr_8_8, pr_8_m4, pr_i_0, pr_i_1, pr_i_m1] at h144
                                                    exact absurd h144 cb'
                                                  · simp only [ab_cmp, pr_16_663, pr_8_10, pr_8_20, pr_8_64, pr_8_8, pr_8_m4, pr_i_0, pr_i_1, pr_i_m1] at h144
                                                    first
                                                    | contradiction
                                                    | exact absurd trivial h144
                                                    | exact absurd h144 (by decide)
                                                    | exact absurd (Classical.not_not.mp h144) (by decide)
                                                    | skip
                                                      refine pr_seqT (pc' := 163) 9 rfl ⟨⟨⟨⟨⟨⟨⟨⟨⟨trivial, trivial⟩, trivial⟩, trivial⟩, trivial⟩, trivial⟩, trivial⟩, trivial⟩, trivial⟩, trivial⟩ ?_
                                                      try simp (disch := omega) only [c64, c8, c20, nI_div, i_sub, hp, hr2, rI_mul, nI_add, nI_1, nI_clamp, c663, pr_16_663, pr_8_10, pr_8_20, pr_8_64, pr_8_8, pr_8_m4, pr_i_0, pr_i_1, pr_i_m1]
                                                      refine pr_icT rfl (fun h163 => ?_) (fun h163 => ?_)
                                                      · simp only [ab_cmp, pr_16_663, pr_8_10, pr_8_20, pr_8_64, pr_8_8, pr_8_m4, pr_i_0, pr_i_1, pr_i_m1] at h163
                                                        exact absurd h163 cb'
                                                      · simp only [ab_cmp, pr_16_663, pr_8_10, pr_8_20, pr_8_64, pr_8_8, pr_8_m4, pr_i_0, pr_i_1, pr_i_m1] at h163
                                                        first
                                                        | contradiction
                                                        | exact absurd trivial h163
                                                        | exact absurd h163 (by decide)
                                                        | exact absurd (Classical.not_not.mp h163) (by decide)
                                                        | skip
                                                          refine pr_seqT (pc' := 29) 5 rfl ⟨⟨⟨⟨⟨trivial, trivial⟩, trivial⟩, trivial⟩, trivial⟩, trivial⟩ ?_
                                                          try simp (disch := omega) only [c64, c8, c20, nI_div, i_sub, hp, hr2, rI_mul, nI_add, nI_1, nI_clamp, c663, pr_16_663, pr_8_10, pr_8_20, pr_8_64, pr_8_8, pr_8_m4, pr_i_0, pr_i_1, pr_i_m1]
                                                          exact hh
                    · have cb' : wv X p r ≤ (mtc (x_n X) (wv X) k).1 := (i_le_nlt _ _).mpr cb
                      have hh := ih (k + 1) (by omega) (some (.int (nI p))) (some (.int (nI r))) (some (.int (wv X p r)))
                      rw [hst, if_neg (fun q => cb q.2.2)] at hh
                      refine pr_seqT (pc' := 33) 2 rfl ⟨⟨trivial, trivial⟩, trivial⟩ ?_
                      try simp (disch := omega) only [c64, c8, c20, nI_div, i_sub, hp, hr2, rI_mul, nI_add, nI_1, nI_clamp, c663, pr_16_663, pr_8_10, pr_8_20, pr_8_64, pr_8_8, pr_8_m4, pr_i_0, pr_i_1, pr_i_m1]
                      refine pr_icT rfl (fun h33 => ?_) (fun h33 => ?_)
                      · simp only [ab_cmp, pr_16_663, pr_8_10, pr_8_20, pr_8_64, pr_8_8, pr_8_m4, pr_i_0, pr_i_1, pr_i_m1] at h33
                        exact absurd h33 e1
                      · simp only [ab_cmp, pr_16_663, pr_8_10, pr_8_20, pr_8_64, pr_8_8, pr_8_m4, pr_i_0, pr_i_1, pr_i_m1] at h33
                        first
                        | contradiction
                        | exact absurd trivial h33
                        | exact absurd h33 (by decide)
                        | exact absurd (Classical.not_not.mp h33) (by decide)
                        | skip
                          refine pr_seqT (pc' := 53) 10 rfl ⟨⟨⟨⟨⟨⟨⟨⟨⟨⟨trivial, trivial⟩, trivial⟩, (by first | assumption | decide | (simp (disch := omega) only [c64, c8, c20, nI_div, i_sub, hp, hr2, rI_mul, nI_add, nI_1, nI_clamp, c663, pr_16_663, pr_8_10, pr_8_20, pr_8_64, pr_8_8, pr_8_m4, pr_i_0, pr_i_1, pr_i_m1]; first | assumption | exact ⟨Or.inl (by assumption), rvin (by assumption) (by omega) (by decide)⟩ | exact ⟨by assumption, rvin (by assumption) (by omega) (by decide)⟩ | exact ⟨⟨by omega, by omega⟩, rvin (by assumption) (by omega) (by decide)⟩ | exact ⟨Or.inr (by assumption), rvin (by assumption) (by omega) (by decide)⟩ | exact ⟨Or.inr ⟨by assumption, (by first | exact Or.inl rfl | exact Or.inr rfl | exact pr_b01 _)⟩, rvin (by assumption) (by omega) (by decide)⟩ | exact ⟨by assumption, by assumption⟩ | decide | omega))⟩, trivial⟩, trivial⟩, trivial⟩, (by first | assumption | decide | (simp (disch := omega) only [c64, c8, c20, nI_div, i_sub, hp, hr2, rI_mul, nI_add, nI_1, nI_clamp, c663, pr_16_663, pr_8_10, pr_8_20, pr_8_64, pr_8_8, pr_8_m4, pr_i_0, pr_i_1, pr_i_m1]; first | assumption | exact ⟨Or.inl (by assumption), rvin (by assumption) (by omega) (by decide)⟩ | exact ⟨by assumption, rvin (by assumption) (by omega) (by decide)⟩ | exact ⟨⟨by omega, by omega⟩, rvin (by assumption) (by omega) (by decide)⟩ | exact ⟨Or.inr (by assumption), rvin (by assumption) (by omega) (by decide)⟩ | exact ⟨Or.inr ⟨by assumption, (by first | exact Or.inl rfl | exact Or.inr rfl | exact pr_b01 _)⟩, rvin (by assumption) (by omega) (by decide)⟩ | exact ⟨by assumption, by assumption⟩ | decide | omega))⟩, trivial⟩, (by first | decide | assumption)⟩, trivial⟩ ?_
                          try simp (disch := omega) only [c64, c8, c20, nI_div, i_sub, hp, hr2, rI_mul, nI_add, nI_1, nI_clamp, c663, pr_16_663, pr_8_10, pr_8_20, pr_8_64, pr_8_8, pr_8_m4, pr_i_0, pr_i_1, pr_i_m1]
                          refine pr_cvT [_] rfl rfl rfl rfl rfl (Nat.le_of_ble_eq_true rfl) (by first | assumption | decide | (simp (disch := omega) only [c64, c8, c20, nI_div, i_sub, hp, hr2, rI_mul, nI_add, nI_1, nI_clamp, c663, pr_16_663, pr_8_10, pr_8_20, pr_8_64, pr_8_8, pr_8_m4, pr_i_0, pr_i_1, pr_i_m1]; first | assumption | exact ⟨Or.inl (by assumption), rvin (by assumption) (by omega) (by decide)⟩ | exact ⟨by assumption, rvin (by assumption) (by omega) (by decide)⟩ | exact ⟨⟨by omega, by omega⟩, rvin (by assumption) (by omega) (by decide)⟩ | exact ⟨Or.inr (by assumption), rvin (by assumption) (by omega) (by decide)⟩ | exact ⟨Or.inr ⟨by assumption, (by first | exact Or.inl rfl | exact Or.inr rfl | exact pr_b01 _)⟩, rvin (by assumption) (by omega) (by decide)⟩ | exact ⟨by assumption, by assumption⟩ | decide | omega)) (Nat.le_of_ble_eq_true rfl) (hip) ?_
                          refine pr_ifT rfl (fun h56 => ?_) (fun h56 => ?_)
                          · simp only [ab_cmp, pr_16_663, pr_8_10, pr_8_20, pr_8_64, pr_8_8, pr_8_m4, pr_i_0, pr_i_1, pr_i_m1] at h56
                            exact absurd h56 (by decide)
                          · simp only [ab_cmp, pr_16_663, pr_8_10, pr_8_20, pr_8_64, pr_8_8, pr_8_m4, pr_i_0, pr_i_1, pr_i_m1] at h56
                            first
                            | contradiction
                            | exact absurd trivial h56
                            | exact absurd h56 (by decide)
                            | exact absurd (Classical.not_not.mp h56) (by decide)
                            | skip
                              refine pr_seqT (pc' := 62) 2 rfl ⟨⟨trivial, (by first | decide | assumption)⟩, trivial⟩ ?_
                              try simp (disch := omega) only [c64, c8, c20, nI_div, i_sub, hp, hr2, rI_mul, nI_add, nI_1, nI_clamp, c663, pr_16_663, pr_8_10, pr_8_20, pr_8_64, pr_8_8, pr_8_m4, pr_i_0, pr_i_1, pr_i_m1]
                              refine pr_cvT [_] rfl rfl rfl rfl rfl (Nat.le_of_ble_eq_true rfl) (by first | assumption | decide | (simp (disch := omega) only [c64, c8, c20, nI_div, i_sub, hp, hr2, rI_mul, nI_add, nI_1, nI_clamp, c663, pr_16_663, pr_8_10, pr_8_20, pr_8_64, pr_8_8, pr_8_m4, pr_i_0, pr_i_1, pr_i_m1]; first | assumption | exact ⟨Or.inl (by assumption), rvin (by assumption) (by omega) (by decide)⟩ | exact ⟨by assumption, rvin (by assumption) (by omega) (by decide)⟩ | exact ⟨⟨by omega, by omega⟩, rvin (by assumption) (by omega) (by decide)⟩ | exact ⟨Or.inr (by assumption), rvin (by assumption) (by omega) (by decide)⟩ | exact ⟨Or.inr ⟨by assumption, (by first | exact Or.inl rfl | exact Or.inr rfl | exact pr_b01 _)⟩, rvin (by assumption) (by omega) (by decide)⟩ | exact ⟨by assumption, by assumption⟩ | decide | omega)) (Nat.le_of_ble_eq_true rfl) (hir) ?_
                              refine pr_ifT rfl (fun h65 => ?_) (fun h65 => ?_)
                              · simp only [ab_cmp, pr_16_663, pr_8_10, pr_8_20, pr_8_64, pr_8_8, pr_8_m4, pr_i_0, pr_i_1, pr_i_m1] at h65
                                exact absurd h65 (by decide)
                              · simp only [ab_cmp, pr_16_663, pr_8_10, pr_8_20, pr_8_64, pr_8_8, pr_8_m4, pr_i_0, pr_i_1, pr_i_m1] at h65
                                first
                                | contradiction
                                | exact absurd trivial h65
                                | exact absurd h65 (by decide)
                                | exact absurd (Classical.not_not.mp h65) (by decide)
                                | skip
                                  refine pr_seqT (pc' := 72) 2 rfl ⟨⟨trivial, trivial⟩, trivial⟩ ?_
                                  try simp (disch := omega) only [c64, c8, c20, nI_div, i_sub, hp, hr2, rI_mul, nI_add, nI_1, nI_clamp, c663, pr_16_663, pr_8_10, pr_8_20, pr_8_64, pr_8_8, pr_8_m4, pr_i_0, pr_i_1, pr_i_m1]
                                  refine pr_icT rfl (fun h72 => ?_) (fun h72 => ?_)
                                  · simp only [ab_cmp, pr_16_663, pr_8_10, pr_8_20, pr_8_64, pr_8_8, pr_8_m4, pr_i_0, pr_i_1, pr_i_m1] at h72
                                    exact absurd h72 ez
                                  · simp only [ab_cmp, pr_16_663, pr_8_10, pr_8_20, pr_8_64, pr_8_8, pr_8_m4, pr_i_0, pr_i_1, pr_i_m1] at h72
                                    first
                                    | contradiction
                                    | exact absurd trivial h72
                                    | exact absurd h72 (by decide)
                                    | exact absurd (Classical.not_not.mp h72) (by decide)
                                    | skip
                                      refine pr_seqT (pc' := 78) 2 rfl ⟨⟨trivial, (by first | decide | assumption)⟩, trivial⟩ ?_
                                      try simp (disch := omega) only [c64, c8, c20, nI_div, i_sub, hp, hr2, rI_mul, nI_add, nI_1, nI_clamp, c663, pr_16_663, pr_8_10, pr_8_20, pr_8_64, pr_8_8, pr_8_m4, pr_i_0, pr_i_1, pr_i_m1]
                                      refine pr_cvT [_] rfl rfl rfl rfl rfl (Nat.le_of_ble_eq_true rfl) (by first | assumption | decide | (simp (disch := omega) only [c64, c8, c20, nI_div, i_sub, hp, hr2, rI_mul, nI_add, nI_1, nI_clamp, c663, pr_16_663, pr_8_10, pr_8_20, pr_8_64, pr_8_8, pr_8_m4, pr_i_0, pr_i_1, pr_i_m1]; first | assumption | exact ⟨Or.inl (by assumption), rvin (by assumption) (by omega) (by decide)⟩ | exact ⟨by assumption, rvin (by assumption) (by omega) (by decide)⟩ | exact ⟨⟨by omega, by omega⟩, rvin (by assumption) (by omega) (by decide)⟩ | exact ⟨Or.inr (by assumption), rvin (by assumption) (by omega) (by decide)⟩ | exact ⟨Or.inr ⟨by assumption, (by first | exact Or.inl rfl | exact Or.inr rfl | exact pr_b01 _)⟩, rvin (by assumption) (by omega) (by decide)⟩ | exact ⟨by assumption, by assumption⟩ | decide | omega)) (Nat.le_of_ble_eq_true rfl) (kpr) ?_
                                      refine pr_seqT (pc' := 82) 1 rfl ⟨trivial, trivial⟩ ?_
                                      try simp (disch := omega) only [c64, c8, c20, nI_div, i_sub, hp, hr2, rI_mul, nI_add, nI_1, nI_clamp, c663, pr_16_663, pr_8_10, pr_8_20, pr_8_64, pr_8_8, pr_8_m4, pr_i_0, pr_i_1, pr_i_m1]
                                      refine pr_icT rfl (fun h82 => ?_) (fun h82 => ?_)
                                      · simp only [ab_cmp, pr_16_663, pr_8_10, pr_8_20, pr_8_64, pr_8_8, pr_8_m4, pr_i_0, pr_i_1, pr_i_m1] at h82
                                        exact absurd h82 z1
                                      · simp only [ab_cmp, pr_16_663, pr_8_10, pr_8_20, pr_8_64, pr_8_8, pr_8_m4, pr_i_0, pr_i_1, pr_i_m1] at h82
                                        first
                                        | contradiction
                                        | exact absurd trivial h82
                                        | exact absurd h82 (by decide)
                                        | exact absurd (Classical.not_not.mp h82) (by decide)
                                        | skip
                                          refine pr_seqT (pc' := 88) 2 rfl ⟨⟨trivial, (by first | decide | assumption)⟩, trivial⟩ ?_
                                          try simp (disch := omega) only [c64, c8, c20, nI_div, i_sub, hp, hr2, rI_mul, nI_add, nI_1, nI_clamp, c663, pr_16_663, pr_8_10, pr_8_20, pr_8_64, pr_8_8, pr_8_m4, pr_i_0, pr_i_1, pr_i_m1]
                                          refine pr_cvT [_] rfl rfl rfl rfl rfl (Nat.le_of_ble_eq_true rfl) (by first | assumption | decide | (simp (disch := omega) only [c64, c8, c20, nI_div, i_sub, hp, hr2, rI_mul, nI_add, nI_1, nI_clamp, c663, pr_16_663, pr_8_10, pr_8_20, pr_8_64, pr_8_8, pr_8_m4, pr_i_0, pr_i_1, pr_i_m1]; first | assumption | exact ⟨Or.inl (by assumption), rvin (by assumption) (by omega) (by decide)⟩ | exact ⟨by assumption, rvin (by assumption) (by omega) (by decide)⟩ | exact ⟨⟨by omega, by omega⟩, rvin (by assumption) (by omega) (by decide)⟩ | exact ⟨Or.inr (by assumption), rvin (by assumption) (by omega) (by decide)⟩ | exact ⟨Or.inr ⟨by assumption, (by first | exact Or.inl rfl | exact Or.inr rfl | exact pr_b01 _)⟩, rvin (by assumption) (by omega) (by decide)⟩ | exact ⟨by assumption, by assumption⟩ | decide | omega)) (Nat.le_of_ble_eq_true rfl) (krr) ?_
                                          refine pr_seqT (pc' := 92) 1 rfl ⟨trivial, trivial⟩ ?_
                                          try simp (disch := omega) only [c64, c8, c20, nI_div, i_sub, hp, hr2, rI_mul, nI_add, nI_1, nI_clamp, c663, pr_16_663, pr_8_10, pr_8_20, pr_8_64, pr_8_8, pr_8_m4, pr_i_0, pr_i_1, pr_i_m1]
                                          refine pr_icT rfl (fun h92 => ?_) (fun h92 => ?_)
                                          · simp only [ab_cmp, pr_16_663, pr_8_10, pr_8_20, pr_8_64, pr_8_8, pr_8_m4, pr_i_0, pr_i_1, pr_i_m1] at h92
                                            exact absurd h92 z2
                                          · simp only [ab_cmp, pr_16_663, pr_8_10, pr_8_20, pr_8_64, pr_8_8, pr_8_m4, pr_i_0, pr_i_1, pr_i_m1] at h92
                                            first
                                            | contradiction
                                            | exact absurd trivial h92
                                            | exact absurd h92 (by decide)
                                            | exact absurd (Classical.not_not.mp h92) (by decide)
                                            | skip
                                              refine pr_seqT (pc' := 98) 2 rfl ⟨⟨trivial, (by first | decide | assumption)⟩, trivial⟩ ?_
                                              try simp (disch := omega) only [c64, c8, c20, nI_div, i_sub, hp, hr2, rI_mul, nI_add, nI_1, nI_clamp, c663, pr_16_663, pr_8_10, pr_8_20, pr_8_64, pr_8_8, pr_8_m4, pr_i_0, pr_i_1, pr_i_m1]
                                              refine pr_cvT [_] rfl rfl rfl rfl rfl (Nat.le_of_ble_eq_true rfl) (by first | assumption | decide | (simp (disch := omega) only [c64, c8, c20, nI_div, i_sub, hp, hr2, rI_mul, nI_add, nI_1, nI_clamp, c663, pr_16_663, pr_8_10, pr_8_20, pr_8_64, pr_8_8, pr_8_m4, pr_i_0, pr_i_1, pr_i_m1]; first | assumption | exact ⟨Or.inl (by assumption), rvin (by assumption) (by omega) (by decide)⟩ | exact ⟨by assumption, rvin (by assumption) (by omega) (by decide)⟩ | exact ⟨⟨by omega, by omega⟩, rvin (by assumption) (by omega) (by decide)⟩ | exact ⟨Or.inr (by assumption), rvin (by assumption) (by omega) (by decide)⟩ | exact ⟨Or.inr ⟨by assumption, (by first | exact Or.inl rfl | exact Or.inr rfl | exact pr_b01 _)⟩, rvin (by assumption) (by omega) (by decide)⟩ | exact ⟨by assumption, by assumption⟩ | decide | omega)) (Nat.le_of_ble_eq_true rfl) (lpr) ?_
                                              refine pr_seqT (pc' := 104) 2 rfl ⟨⟨trivial, (by first | decide | assumption)⟩, trivial⟩ ?_
                                              try simp (disch := omega) only [c64, c8, c20, nI_div, i_sub, hp, hr2, rI_mul, nI_add, nI_1, nI_clamp, c663, pr_16_663, pr_8_10, pr_8_20, pr_8_64, pr_8_8, pr_8_m4, pr_i_0, pr_i_1, pr_i_m1]
                                              refine pr_cvT [_] rfl rfl rfl rfl rfl (Nat.le_of_ble_eq_true rfl) (by first | assumption | decide | (simp (disch := omega) only [c64, c8, c20, nI_div, i_sub, hp, hr2, rI_mul, nI_add, nI_1, nI_clamp, c663, pr_16_663, pr_8_10, pr_8_20, pr_8_64, pr_8_8, pr_8_m4, pr_i_0, pr_i_1, pr_i_m1]; first | assumption | exact ⟨Or.inl (by assumption), rvin (by assumption) (by omega) (by decide)⟩ | exact ⟨by assumption, rvin (by assumption) (by omega) (by decide)⟩ | exact ⟨⟨by omega, by omega⟩, rvin (by assumption) (by omega) (by decide)⟩ | exact ⟨Or.inr (by assumption), rvin (by assumption) (by omega) (by decide)⟩ | exact ⟨Or.inr ⟨by assumption, (by first | exact Or.inl rfl | exact Or.inr rfl | exact pr_b01 _)⟩, rvin (by assumption) (by omega) (by decide)⟩ | exact ⟨by assumption, by assumption⟩ | decide | omega)) (Nat.le_of_ble_eq_true rfl) (lrr) ?_
                                              refine pr_seqT (pc' := 110) 2 rfl ⟨⟨trivial, trivial⟩, trivial⟩ ?_
                                              try simp (disch := omega) only [c64, c8, c20, nI_div, i_sub, hp, hr2, rI_mul, nI_add, nI_1, nI_clamp, c663, pr_16_663, pr_8_10, pr_8_20, pr_8_64, pr_8_8, pr_8_m4, pr_i_0, pr_i_1, pr_i_m1]
                                              refine pr_icT rfl (fun h110 => ?_) (fun h110 => ?_)
                                              · simp only [ab_cmp, pr_16_663, pr_8_10, pr_8_20, pr_8_64, pr_8_8, pr_8_m4, pr_i_0, pr_i_1, pr_i_m1] at h110
                                                exact absurd h110 z3
                                              · simp only [ab_cmp, pr_16_663, pr_8_10, pr_8_20, pr_8_64, pr_8_8, pr_8_m4, pr_i_0, pr_i_1, pr_i_m1] at h110
                                                first
                                                | contradiction
                                                | exact absurd trivial h110
                                                | exact absurd h110 (by decide)
                                                | exact absurd (Classical.not_not.mp h110) (by decide)
                                                | skip
                                                  refine pr_seqT (pc' := 118) 3 rfl ⟨⟨⟨trivial, (by first | decide | assumption)⟩, trivial⟩, trivial⟩ ?_
                                                  try simp (disch := omega) only [c64, c8, c20, nI_div, i_sub, hp, hr2, rI_mul, nI_add, nI_1, nI_clamp, c663, pr_16_663, pr_8_10, pr_8_20, pr_8_64, pr_8_8, pr_8_m4, pr_i_0, pr_i_1, pr_i_m1]
                                                  refine pr_cvX [_, _] rfl rfl rfl rfl rfl (Nat.le_of_ble_eq_true rfl) (by first | assumption | decide | (simp (disch := omega) only [c64, c8, c20, nI_div, i_sub, hp, hr2, rI_mul, nI_add, nI_1, nI_clamp, c663, pr_16_663, pr_8_10, pr_8_20, pr_8_64, pr_8_8, pr_8_m4, pr_i_0, pr_i_1, pr_i_m1]; first | assumption | exact ⟨Or.inl (by assumption), rvin (by assumption) (by omega) (by decide)⟩ | exact ⟨by assumption, rvin (by assumption) (by omega) (by decide)⟩ | exact ⟨⟨by omega, by omega⟩, rvin (by assumption) (by omega) (by decide)⟩ | exact ⟨Or.inr (by assumption), rvin (by assumption) (by omega) (by decide)⟩ | exact ⟨Or.inr ⟨by assumption, (by first | exact Or.inl rfl | exact Or.inr rfl | exact pr_b01 _)⟩, rvin (by assumption) (by omega) (by decide)⟩ | exact ⟨by assumption, by assumption⟩ | decide | omega)) (Nat.le_of_ble_eq_true rfl) (hwd) (fun v118 M118 q118 => ?_)
                                                  obtain ⟨rfl, w1, w2, w3, w4⟩ := q118
                                                  obtain ⟨I1, Z1⟩ := M118
                                                  dsimp only at w1 w2 w3 w4
                                                  subst w1
                                                  have hpo := q_personOf h (I1, M.2) hl w2 (by rw [wed_len]; exact cp)
                                                  have hwo := q_worthHaving (f := lal (wedL X.1.1 p r) p) h (I1, M.2) hl w2
                                                  rw [wed_wh cp cr cpr, ← hwv] at hwo
                                                  have hcb2 := hcb I1 w3 w4
                                                  refine pr_seqT (pc' := 125) 3 rfl ⟨⟨⟨trivial, (by first | decide | assumption)⟩, (by first | decide | assumption)⟩, trivial⟩ ?_
                                                  try simp (disch := omega) only [c64, c8, c20, nI_div, i_sub, hp, hr2, rI_mul, nI_add, nI_1, nI_clamp, c663, pr_16_663, pr_8_10, pr_8_20, pr_8_64, pr_8_8, pr_8_m4, pr_i_0, pr_i_1, pr_i_m1]
                                                  refine pr_cvT [_] rfl rfl rfl rfl rfl (Nat.le_of_ble_eq_true rfl) (by first | assumption | decide | (simp (disch := omega) only [c64, c8, c20, nI_div, i_sub, hp, hr2, rI_mul, nI_add, nI_1, nI_clamp, c663, pr_16_663, pr_8_10, pr_8_20, pr_8_64, pr_8_8, pr_8_m4, pr_i_0, pr_i_1, pr_i_m1]; first | assumption | exact ⟨Or.inl (by assumption), rvin (by assumption) (by omega) (by decide)⟩ | exact ⟨by assumption, rvin (by assumption) (by omega) (by decide)⟩ | exact ⟨⟨by omega, by omega⟩, rvin (by assumption) (by omega) (by decide)⟩ | exact ⟨Or.inr (by assumption), rvin (by assumption) (by omega) (by decide)⟩ | exact ⟨Or.inr ⟨by assumption, (by first | exact Or.inl rfl | exact Or.inr rfl | exact pr_b01 _)⟩, rvin (by assumption) (by omega) (by decide)⟩ | exact ⟨by assumption, by assumption⟩ | decide | omega)) (Nat.le_of_ble_eq_true rfl) (hpo) ?_
                                                  refine pr_cvT [_] rfl rfl rfl rfl rfl (Nat.le_of_ble_eq_true rfl) (by first | assumption | decide | (simp (disch := omega) only [c64, c8, c20, nI_div, i_sub, hp, hr2, rI_mul, nI_add, nI_1, nI_clamp, c663, pr_16_663, pr_8_10, pr_8_20, pr_8_64, pr_8_8, pr_8_m4, pr_i_0, pr_i_1, pr_i_m1]; first | assumption | exact ⟨Or.inl (by assumption), rvin (by assumption) (by omega) (by decide)⟩ | exact ⟨by assumption, rvin (by assumption) (by omega) (by decide)⟩ | exact ⟨⟨by omega, by omega⟩, rvin (by assumption) (by omega) (by decide)⟩ | exact ⟨Or.inr (by assumption), rvin (by assumption) (by omega) (by decide)⟩ | exact ⟨Or.inr ⟨by assumption, (by first | exact Or.inl rfl | exact Or.inr rfl | exact pr_b01 _)⟩, rvin (by assumption) (by omega) (by decide)⟩ | exact ⟨by assumption, by assumption⟩ | decide | omega)) (Nat.le_of_ble_eq_true rfl) (hwo) ?_
                                                  refine pr_seqT (pc' := 138) 4 rfl ⟨⟨⟨⟨trivial, trivial⟩, (by first | decide | assumption)⟩, trivial⟩, trivial⟩ ?_
                                                  try simp (disch := omega) only [c64, c8, c20, nI_div, i_sub, hp, hr2, rI_mul, nI_add, nI_1, nI_clamp, c663, pr_16_663, pr_8_10, pr_8_20, pr_8_64, pr_8_8, pr_8_m4, pr_i_0, pr_i_1, pr_i_m1]
                                                  refine pr_cvT [_, _] rfl rfl rfl rfl rfl (Nat.le_of_ble_eq_true rfl) (by first | assumption | decide | (simp (disch := omega) only [c64, c8, c20, nI_div, i_sub, hp, hr2, rI_mul, nI_add, nI_1, nI_clamp, c663, pr_16_663, pr_8_10, pr_8_20, pr_8_64, pr_8_8, pr_8_m4, pr_i_0, pr_i_1, pr_i_m1]; first | assumption | exact ⟨Or.inl (by assumption), rvin (by assumption) (by omega) (by decide)⟩ | exact ⟨by assumption, rvin (by assumption) (by omega) (by decide)⟩ | exact ⟨⟨by omega, by omega⟩, rvin (by assumption) (by omega) (by decide)⟩ | exact ⟨Or.inr (by assumption), rvin (by assumption) (by omega) (by decide)⟩ | exact ⟨Or.inr ⟨by assumption, (by first | exact Or.inl rfl | exact Or.inr rfl | exact pr_b01 _)⟩, rvin (by assumption) (by omega) (by decide)⟩ | exact ⟨by assumption, by assumption⟩ | decide | omega)) (Nat.le_of_ble_eq_true rfl) (hcb2) ?_
                                                  refine pr_seqT (pc' := 144) 2 rfl ⟨⟨trivial, trivial⟩, trivial⟩ ?_
                                                  try simp (disch := omega) only [c64, c8, c20, nI_div, i_sub, hp, hr2, rI_mul, nI_add, nI_1, nI_clamp, c663, pr_16_663, pr_8_10, pr_8_20, pr_8_64, pr_8_8, pr_8_m4, pr_i_0, pr_i_1, pr_i_m1]
                                                  refine pr_icT rfl (fun h144 => ?_) (fun h144 => ?_)
                                                  · simp only [ab_cmp, pr_16_663, pr_8_10, pr_8_20, pr_8_64, pr_8_8, pr_8_m4, pr_i_0, pr_i_1, pr_i_m1] at h144
                                                    first
                                                    | contradiction
                                                    | exact absurd trivial h144
                                                    | exact absurd h144 (by decide)
                                                    | exact absurd (Classical.not_not.mp h144) (by decide)
                                                    | skip
                                                      refine pr_seqT (pc' := 163) 4 rfl ⟨⟨⟨⟨trivial, trivial⟩, trivial⟩, trivial⟩, trivial⟩ ?_
                                                      try simp (disch := omega) only [c64, c8, c20, nI_div, i_sub, hp, hr2, rI_mul, nI_add, nI_1, nI_clamp, c663, pr_16_663, pr_8_10, pr_8_20, pr_8_64, pr_8_8, pr_8_m4, pr_i_0, pr_i_1, pr_i_m1]
                                                      refine pr_icT rfl (fun h163 => ?_) (fun h163 => ?_)
                                                      · simp only [ab_cmp, pr_16_663, pr_8_10, pr_8_20, pr_8_64, pr_8_8, pr_8_m4, pr_i_0, pr_i_1, pr_i_m1] at h163
                                                        first
                                                        | contradiction
                                                        | exact absurd trivial h163
                                                        | exact absurd h163 (by decide)
                                                        | exact absurd (Classical.not_not.mp h163) (by decide)
                                                        | skip
                                                          refine pr_seqT (pc' := 29) 4 rfl ⟨⟨⟨⟨trivial, trivial⟩, trivial⟩, trivial⟩, trivial⟩ ?_
                                                          try simp (disch := omega) only [c64, c8, c20, nI_div, i_sub, hp, hr2, rI_mul, nI_add, nI_1, nI_clamp, c663, pr_16_663, pr_8_10, pr_8_20, pr_8_64, pr_8_8, pr_8_m4, pr_i_0, pr_i_1, pr_i_m1]
                                                          exact hh
                                                      · simp only [ab_cmp, pr_16_663, pr_8_10, pr_8_20, pr_8_64, pr_8_8, pr_8_m4, pr_i_0, pr_i_1, pr_i_m1] at h163
                                                        exact absurd cb' h163
                                                  · simp only [ab_cmp, pr_16_663, pr_8_10, pr_8_20, pr_8_64, pr_8_8, pr_8_m4, pr_i_0, pr_i_1, pr_i_m1] at h144
                                                    exact absurd cb' h144
                  · have z3 : nI 20 < nI ((d_pn X.1.1 p).2.2.2.length + (d_pn X.1.1 r).2.2.2.length) := nI_lt (by omega) (by omega)
                    have hs := skip (fun _ _ => by unfold wv; rw [if_neg (fun q => q.elim cpr (fun q => q.elim dp dr)), if_neg c2])
                    refine pr_seqT (pc' := 33) 2 rfl ⟨⟨trivial, trivial⟩, trivial⟩ ?_
                    try simp (disch := omega) only [c64, c8, c20, nI_div, i_sub, hp, hr2, rI_mul, nI_add, nI_1, nI_clamp, c663, pr_16_663, pr_8_10, pr_8_20, pr_8_64, pr_8_8, pr_8_m4, pr_i_0, pr_i_1, pr_i_m1]
                    refine pr_icT rfl (fun h33 => ?_) (fun h33 => ?_)
                    · simp only [ab_cmp, pr_16_663, pr_8_10, pr_8_20, pr_8_64, pr_8_8, pr_8_m4, pr_i_0, pr_i_1, pr_i_m1] at h33
                      exact absurd h33 e1
                    · simp only [ab_cmp, pr_16_663, pr_8_10, pr_8_20, pr_8_64, pr_8_8, pr_8_m4, pr_i_0, pr_i_1, pr_i_m1] at h33
                      first
                      | contradiction
                      | exact absurd trivial h33
                      | exact absurd h33 (by decide)
                      | exact absurd (Classical.not_not.mp h33) (by decide)
                      | skip
                        refine pr_seqT (pc' := 53) 10 rfl ⟨⟨⟨⟨⟨⟨⟨⟨⟨⟨trivial, trivial⟩, trivial⟩, (by first | assumption | decide | (simp (disch := omega) only [c64, c8, c20, nI_div, i_sub, hp, hr2, rI_mul, nI_add, nI_1, nI_clamp, c663, pr_16_663, pr_8_10, pr_8_20, pr_8_64, pr_8_8, pr_8_m4, pr_i_0, pr_i_1, pr_i_m1]; first | assumption | exact ⟨Or.inl (by assumption), rvin (by assumption) (by omega) (by decide)⟩ | exact ⟨by assumption, rvin (by assumption) (by omega) (by decide)⟩ | exact ⟨⟨by omega, by omega⟩, rvin (by assumption) (by omega) (by decide)⟩ | exact ⟨Or.inr (by assumption), rvin (by assumption) (by omega) (by decide)⟩ | exact ⟨Or.inr ⟨by assumption, (by first | exact Or.inl rfl | exact Or.inr rfl | exact pr_b01 _)⟩, rvin (by assumption) (by omega) (by decide)⟩ | exact ⟨by assumption, by assumption⟩ | decide | omega))⟩, trivial⟩, trivial⟩, trivial⟩, (by first | assumption | decide | (simp (disch := omega) only [c64, c8, c20, nI_div, i_sub, hp, hr2, rI_mul, nI_add, nI_1, nI_clamp, c663, pr_16_663, pr_8_10, pr_8_20, pr_8_64, pr_8_8, pr_8_m4, pr_i_0, pr_i_1, pr_i_m1]; first | assumption | exact ⟨Or.inl (by assumption), rvin (by assumption) (by omega) (by decide)⟩ | exact ⟨by assumption, rvin (by assumption) (by omega) (by decide)⟩ | exact ⟨⟨by omega, by omega⟩, rvin (by assumption) (by omega) (by decide)⟩ | exact ⟨Or.inr (by assumption), rvin (by assumption) (by omega) (by decide)⟩ | exact ⟨Or.inr ⟨by assumption, (by first | exact Or.inl rfl | exact Or.inr rfl | exact pr_b01 _)⟩, rvin (by assumption) (by omega) (by decide)⟩ | exact ⟨by assumption, by assumption⟩ | decide | omega))⟩, trivial⟩, (by first | decide | assumption)⟩, trivial⟩ ?_
                        try simp (disch := omega) only [c64, c8, c20, nI_div, i_sub, hp, hr2, rI_mul, nI_add, nI_1, nI_clamp, c663, pr_16_663, pr_8_10, pr_8_20, pr_8_64, pr_8_8, pr_8_m4, pr_i_0, pr_i_1, pr_i_m1]
                        refine pr_cvT [_] rfl rfl rfl rfl rfl (Nat.le_of_ble_eq_true rfl) (by first | assumption | decide | (simp (disch := omega) only [c64, c8, c20, nI_div, i_sub, hp, hr2, rI_mul, nI_add, nI_1, nI_clamp, c663, pr_16_663, pr_8_10, pr_8_20, pr_8_64, pr_8_8, pr_8_m4, pr_i_0, pr_i_1, pr_i_m1]; first | assumption | exact ⟨Or.inl (by assumption), rvin (by assumption) (by omega) (by decide)⟩ | exact ⟨by assumption, rvin (by assumption) (by omega) (by decide)⟩ | exact ⟨⟨by omega, by omega⟩, rvin (by assumption) (by omega) (by decide)⟩ | exact ⟨Or.inr (by assumption), rvin (by assumption) (by omega) (by decide)⟩ | exact ⟨Or.inr ⟨by assumption, (by first | exact Or.inl rfl | exact Or.inr rfl | exact pr_b01 _)⟩, rvin (by assumption) (by omega) (by decide)⟩ | exact ⟨by assumption, by assumption⟩ | decide | omega)) (Nat.le_of_ble_eq_true rfl) (hip) ?_
                        refine pr_ifT rfl (fun h56 => ?_) (fun h56 => ?_)
                        · simp only [ab_cmp, pr_16_663, pr_8_10, pr_8_20, pr_8_64, pr_8_8, pr_8_m4, pr_i_0, pr_i_1, pr_i_m1] at h56
                          exact absurd h56 (by decide)
                        · simp only [ab_cmp, pr_16_663, pr_8_10, pr_8_20, pr_8_64, pr_8_8, pr_8_m4, pr_i_0, pr_i_1, pr_i_m1] at h56
                          first
                          | contradiction
                          | exact absurd trivial h56
                          | exact absurd h56 (by decide)
                          | exact absurd (Classical.not_not.mp h56) (by decide)
                          | skip
                            refine pr_seqT (pc' := 62) 2 rfl ⟨⟨trivial, (by first | decide | assumption)⟩, trivial⟩ ?_
                            try simp (disch := omega) only [c64, c8, c20, nI_div, i_sub, hp, hr2, rI_mul, nI_add, nI_1, nI_clamp, c663, pr_16_663, pr_8_10, pr_8_20, pr_8_64, pr_8_8, pr_8_m4, pr_i_0, pr_i_1, pr_i_m1]
                            refine pr_cvT [_] rfl rfl rfl rfl rfl (Nat.le_of_ble_eq_true rfl) (by first | assumption | decide | (simp (disch := omega) only [c64, c8, c20, nI_div, i_sub, hp, hr2, rI_mul, nI_add, nI_1, nI_clamp, c663, pr_16_663, pr_8_10, pr_8_20, pr_8_64, pr_8_8, pr_8_m4, pr_i_0, pr_i_1, pr_i_m1]; first | assumption | exact ⟨Or.inl (by assumption), rvin (by assumption) (by omega) (by decide)⟩ | exact ⟨by assumption, rvin (by assumption) (by omega) (by decide)⟩ | exact ⟨⟨by omega, by omega⟩, rvin (by assumption) (by omega) (by decide)⟩ | exact ⟨Or.inr (by assumption), rvin (by assumption) (by omega) (by decide)⟩ | exact ⟨Or.inr ⟨by assumption, (by first | exact Or.inl rfl | exact Or.inr rfl | exact pr_b01 _)⟩, rvin (by assumption) (by omega) (by decide)⟩ | exact ⟨by assumption, by assumption⟩ | decide | omega)) (Nat.le_of_ble_eq_true rfl) (hir) ?_
                            refine pr_ifT rfl (fun h65 => ?_) (fun h65 => ?_)
                            · simp only [ab_cmp, pr_16_663, pr_8_10, pr_8_20, pr_8_64, pr_8_8, pr_8_m4, pr_i_0, pr_i_1, pr_i_m1] at h65
                              exact absurd h65 (by decide)
                            · simp only [ab_cmp, pr_16_663, pr_8_10, pr_8_20, pr_8_64, pr_8_8, pr_8_m4, pr_i_0, pr_i_1, pr_i_m1] at h65
                              first
                              | contradiction
                              | exact absurd trivial h65
                              | exact absurd h65 (by decide)
                              | exact absurd (Classical.not_not.mp h65) (by decide)
                              | skip
                                refine pr_seqT (pc' := 72) 2 rfl ⟨⟨trivial, trivial⟩, trivial⟩ ?_
                                try simp (disch := omega) only [c64, c8, c20, nI_div, i_sub, hp, hr2, rI_mul, nI_add, nI_1, nI_clamp, c663, pr_16_663, pr_8_10, pr_8_20, pr_8_64, pr_8_8, pr_8_m4, pr_i_0, pr_i_1, pr_i_m1]
                                refine pr_icT rfl (fun h72 => ?_) (fun h72 => ?_)
                                · simp only [ab_cmp, pr_16_663, pr_8_10, pr_8_20, pr_8_64, pr_8_8, pr_8_m4, pr_i_0, pr_i_1, pr_i_m1] at h72
                                  exact absurd h72 ez
                                · simp only [ab_cmp, pr_16_663, pr_8_10, pr_8_20, pr_8_64, pr_8_8, pr_8_m4, pr_i_0, pr_i_1, pr_i_m1] at h72
                                  first
                                  | contradiction
                                  | exact absurd trivial h72
                                  | exact absurd h72 (by decide)
                                  | exact absurd (Classical.not_not.mp h72) (by decide)
                                  | skip
                                    refine pr_seqT (pc' := 78) 2 rfl ⟨⟨trivial, (by first | decide | assumption)⟩, trivial⟩ ?_
                                    try simp (disch := omega) only [c64, c8, c20, nI_div, i_sub, hp, hr2, rI_mul, nI_add, nI_1, nI_clamp, c663, pr_16_663, pr_8_10, pr_8_20, pr_8_64, pr_8_8, pr_8_m4, pr_i_0, pr_i_1, pr_i_m1]
                                    refine pr_cvT [_] rfl rfl rfl rfl rfl (Nat.le_of_ble_eq_true rfl) (by first | assumption | decide | (simp (disch := omega) only [c64, c8, c20, nI_div, i_sub, hp, hr2, rI_mul, nI_add, nI_1, nI_clamp, c663, pr_16_663, pr_8_10, pr_8_20, pr_8_64, pr_8_8, pr_8_m4, pr_i_0, pr_i_1, pr_i_m1]; first | assumption | exact ⟨Or.inl (by assumption), rvin (by assumption) (by omega) (by decide)⟩ | exact ⟨by assumption, rvin (by assumption) (by omega) (by decide)⟩ | exact ⟨⟨by omega, by omega⟩, rvin (by assumption) (by omega) (by decide)⟩ | exact ⟨Or.inr (by assumption), rvin (by assumption) (by omega) (by decide)⟩ | exact ⟨Or.inr ⟨by assumption, (by first | exact Or.inl rfl | exact Or.inr rfl | exact pr_b01 _)⟩, rvin (by assumption) (by omega) (by decide)⟩ | exact ⟨by assumption, by assumption⟩ | decide | omega)) (Nat.le_of_ble_eq_true rfl) (kpr) ?_
                                    refine pr_seqT (pc' := 82) 1 rfl ⟨trivial, trivial⟩ ?_
                                    try simp (disch := omega) only [c64, c8, c20, nI_div, i_sub, hp, hr2, rI_mul, nI_add, nI_1, nI_clamp, c663, pr_16_663, pr_8_10, pr_8_20, pr_8_64, pr_8_8, pr_8_m4, pr_i_0, pr_i_1, pr_i_m1]
                                    refine pr_icT rfl (fun h82 => ?_) (fun h82 => ?_)
                                    · simp only [ab_cmp, pr_16_663, pr_8_10, pr_8_20, pr_8_64, pr_8_8, pr_8_m4, pr_i_0, pr_i_1, pr_i_m1] at h82
                                      exact absurd h82 z1
                                    · simp only [ab_cmp, pr_16_663, pr_8_10, pr_8_20, pr_8_64, pr_8_8, pr_8_m4, pr_i_0, pr_i_1, pr_i_m1] at h82
                                      first
                                      | contradiction
                                      | exact absurd trivial h82
                                      | exact absurd h82 (by decide)
                                      | exact absurd (Classical.not_not.mp h82) (by decide)
                                      | skip
                                        refine pr_seqT (pc' := 88) 2 rfl ⟨⟨trivial, (by first | decide | assumption)⟩, trivial⟩ ?_
                                        try simp (disch := omega) only [c64, c8, c20, nI_div, i_sub, hp, hr2, rI_mul, nI_add, nI_1, nI_clamp, c663, pr_16_663, pr_8_10, pr_8_20, pr_8_64, pr_8_8, pr_8_m4, pr_i_0, pr_i_1, pr_i_m1]
                                        refine pr_cvT [_] rfl rfl rfl rfl rfl (Nat.le_of_ble_eq_true rfl) (by first | assumption | decide | (simp (disch := omega) only [c64, c8, c20, nI_div, i_sub, hp, hr2, rI_mul, nI_add, nI_1, nI_clamp, c663, pr_16_663, pr_8_10, pr_8_20, pr_8_64, pr_8_8, pr_8_m4, pr_i_0, pr_i_1, pr_i_m1]; first | assumption | exact ⟨Or.inl (by assumption), rvin (by assumption) (by omega) (by decide)⟩ | exact ⟨by assumption, rvin (by assumption) (by omega) (by decide)⟩ | exact ⟨⟨by omega, by omega⟩, rvin (by assumption) (by omega) (by decide)⟩ | exact ⟨Or.inr (by assumption), rvin (by assumption) (by omega) (by decide)⟩ | exact ⟨Or.inr ⟨by assumption, (by first | exact Or.inl rfl | exact Or.inr rfl | exact pr_b01 _)⟩, rvin (by assumption) (by omega) (by decide)⟩ | exact ⟨by assumption, by assumption⟩ | decide | omega)) (Nat.le_of_ble_eq_true rfl) (krr) ?_
                                        refine pr_seqT (pc' := 92) 1 rfl ⟨trivial, trivial⟩ ?_
                                        try simp (disch := omega) only [c64, c8, c20, nI_div, i_sub, hp, hr2, rI_mul, nI_add, nI_1, nI_clamp, c663, pr_16_663, pr_8_10, pr_8_20, pr_8_64, pr_8_8, pr_8_m4, pr_i_0, pr_i_1, pr_i_m1]
                                        refine pr_icT rfl (fun h92 => ?_) (fun h92 => ?_)
                                        · simp only [ab_cmp, pr_16_663, pr_8_10, pr_8_20, pr_8_64, pr_8_8, pr_8_m4, pr_i_0, pr_i_1, pr_i_m1] at h92
                                          exact absurd h92 z2
                                        · simp only [ab_cmp, pr_16_663, pr_8_10, pr_8_20, pr_8_64, pr_8_8, pr_8_m4, pr_i_0, pr_i_1, pr_i_m1] at h92
                                          first
                                          | contradiction
                                          | exact absurd trivial h92
                                          | exact absurd h92 (by decide)
                                          | exact absurd (Classical.not_not.mp h92) (by decide)
                                          | skip
                                            refine pr_seqT (pc' := 98) 2 rfl ⟨⟨trivial, (by first | decide | assumption)⟩, trivial⟩ ?_
                                            try simp (disch := omega) only [c64, c8, c20, nI_div, i_sub, hp, hr2, rI_mul, nI_add, nI_1, nI_clamp, c663, pr_16_663, pr_8_10, pr_8_20, pr_8_64, pr_8_8, pr_8_m4, pr_i_0, pr_i_1, pr_i_m1]
                                            refine pr_cvT [_] rfl rfl rfl rfl rfl (Nat.le_of_ble_eq_true rfl) (by first | assumption | decide | (simp (disch := omega) only [c64, c8, c20, nI_div, i_sub, hp, hr2, rI_mul, nI_add, nI_1, nI_clamp, c663, pr_16_663, pr_8_10, pr_8_20, pr_8_64, pr_8_8, pr_8_m4, pr_i_0, pr_i_1, pr_i_m1]; first | assumption | exact ⟨Or.inl (by assumption), rvin (by assumption) (by omega) (by decide)⟩ | exact ⟨by assumption, rvin (by assumption) (by omega) (by decide)⟩ | exact ⟨⟨by omega, by omega⟩, rvin (by assumption) (by omega) (by decide)⟩ | exact ⟨Or.inr (by assumption), rvin (by assumption) (by omega) (by decide)⟩ | exact ⟨Or.inr ⟨by assumption, (by first | exact Or.inl rfl | exact Or.inr rfl | exact pr_b01 _)⟩, rvin (by assumption) (by omega) (by decide)⟩ | exact ⟨by assumption, by assumption⟩ | decide | omega)) (Nat.le_of_ble_eq_true rfl) (lpr) ?_
                                            refine pr_seqT (pc' := 104) 2 rfl ⟨⟨trivial, (by first | decide | assumption)⟩, trivial⟩ ?_
                                            try simp (disch := omega) only [c64, c8, c20, nI_div, i_sub, hp, hr2, rI_mul, nI_add, nI_1, nI_clamp, c663, pr_16_663, pr_8_10, pr_8_20, pr_8_64, pr_8_8, pr_8_m4, pr_i_0, pr_i_1, pr_i_m1]
                                            refine pr_cvT [_] rfl rfl rfl rfl rfl (Nat.le_of_ble_eq_true rfl) (by first | assumption | decide | (simp (disch := omega) only [c64, c8, c20, nI_div, i_sub, hp, hr2, rI_mul, nI_add, nI_1, nI_clamp, c663, pr_16_663, pr_8_10, pr_8_20, pr_8_64, pr_8_8, pr_8_m4, pr_i_0, pr_i_1, pr_i_m1]; first | assumption | exact ⟨Or.inl (by assumption), rvin (by assumption) (by omega) (by decide)⟩ | exact ⟨by assumption, rvin (by assumption) (by omega) (by decide)⟩ | exact ⟨⟨by omega, by omega⟩, rvin (by assumption) (by omega) (by decide)⟩ | exact ⟨Or.inr (by assumption), rvin (by assumption) (by omega) (by decide)⟩ | exact ⟨Or.inr ⟨by assumption, (by first | exact Or.inl rfl | exact Or.inr rfl | exact pr_b01 _)⟩, rvin (by assumption) (by omega) (by decide)⟩ | exact ⟨by assumption, by assumption⟩ | decide | omega)) (Nat.le_of_ble_eq_true rfl) (lrr) ?_
                                            refine pr_seqT (pc' := 110) 2 rfl ⟨⟨trivial, trivial⟩, trivial⟩ ?_
                                            try simp (disch := omega) only [c64, c8, c20, nI_div, i_sub, hp, hr2, rI_mul, nI_add, nI_1, nI_clamp, c663, pr_16_663, pr_8_10, pr_8_20, pr_8_64, pr_8_8, pr_8_m4, pr_i_0, pr_i_1, pr_i_m1]
                                            refine pr_icT rfl (fun h110 => ?_) (fun h110 => ?_)
                                            · simp only [ab_cmp, pr_16_663, pr_8_10, pr_8_20, pr_8_64, pr_8_8, pr_8_m4, pr_i_0, pr_i_1, pr_i_m1] at h110
                                              first
                                              | contradiction
                                              | exact absurd trivial h110
                                              | exact absurd h110 (by decide)
                                              | exact absurd (Classical.not_not.mp h110) (by decide)
                                              | skip
                                                refine pr_seqT (pc' := 29) 2 rfl ⟨⟨trivial, trivial⟩, trivial⟩ ?_
                                                try simp (disch := omega) only [c64, c8, c20, nI_div, i_sub, hp, hr2, rI_mul, nI_add, nI_1, nI_clamp, c663, pr_16_663, pr_8_10, pr_8_20, pr_8_64, pr_8_8, pr_8_m4, pr_i_0, pr_i_1, pr_i_m1]
                                                rw [← hs]; exact ih (k + 1) (by omega) _ _ _
                                            · simp only [ab_cmp, pr_16_663, pr_8_10, pr_8_20, pr_8_64, pr_8_8, pr_8_m4, pr_i_0, pr_i_1, pr_i_m1] at h110
                                              exact absurd z3 h110
          · rw [decide_eq_false cr] at hir
            have hs := skip (fun _ q => absurd q cr)
            refine pr_seqT (pc' := 33) 2 rfl ⟨⟨trivial, trivial⟩, trivial⟩ ?_
            try simp (disch := omega) only [c64, c8, nI_div, i_sub, hp, hr2, rI_mul, nI_add, nI_1, nI_clamp, c663, pr_16_663, pr_8_10, pr_8_20, pr_8_64, pr_8_8, pr_8_m4, pr_i_0, pr_i_1, pr_i_m1]
            refine pr_icT rfl (fun h33 => ?_) (fun h33 => ?_)
            · simp only [ab_cmp, pr_16_663, pr_8_10, pr_8_20, pr_8_64, pr_8_8, pr_8_m4, pr_i_0, pr_i_1, pr_i_m1] at h33
              exact absurd h33 e1
            · simp only [ab_cmp, pr_16_663, pr_8_10, pr_8_20, pr_8_64, pr_8_8, pr_8_m4, pr_i_0, pr_i_1, pr_i_m1] at h33
              first
              | contradiction
              | exact absurd trivial h33
              | exact absurd h33 (by decide)
              | exact absurd (Classical.not_not.mp h33) (by decide)
              | skip
                refine pr_seqT (pc' := 53) 10 rfl ⟨⟨⟨⟨⟨⟨⟨⟨⟨⟨trivial, trivial⟩, trivial⟩, (by first | assumption | decide | (simp (disch := omega) only [c64, c8, nI_div, i_sub, hp, hr2, rI_mul, nI_add, nI_1, nI_clamp, c663, pr_16_663, pr_8_10, pr_8_20, pr_8_64, pr_8_8, pr_8_m4, pr_i_0, pr_i_1, pr_i_m1]; first | assumption | exact ⟨Or.inl (by assumption), rvin (by assumption) (by omega) (by decide)⟩ | exact ⟨by assumption, rvin (by assumption) (by omega) (by decide)⟩ | exact ⟨⟨by omega, by omega⟩, rvin (by assumption) (by omega) (by decide)⟩ | exact ⟨Or.inr (by assumption), rvin (by assumption) (by omega) (by decide)⟩ | exact ⟨Or.inr ⟨by assumption, (by first | exact Or.inl rfl | exact Or.inr rfl | exact pr_b01 _)⟩, rvin (by assumption) (by omega) (by decide)⟩ | exact ⟨by assumption, by assumption⟩ | decide | omega))⟩, trivial⟩, trivial⟩, trivial⟩, (by first | assumption | decide | (simp (disch := omega) only [c64, c8, nI_div, i_sub, hp, hr2, rI_mul, nI_add, nI_1, nI_clamp, c663, pr_16_663, pr_8_10, pr_8_20, pr_8_64, pr_8_8, pr_8_m4, pr_i_0, pr_i_1, pr_i_m1]; first | assumption | exact ⟨Or.inl (by assumption), rvin (by assumption) (by omega) (by decide)⟩ | exact ⟨by assumption, rvin (by assumption) (by omega) (by decide)⟩ | exact ⟨⟨by omega, by omega⟩, rvin (by assumption) (by omega) (by decide)⟩ | exact ⟨Or.inr (by assumption), rvin (by assumption) (by omega) (by decide)⟩ | exact ⟨Or.inr ⟨by assumption, (by first | exact Or.inl rfl | exact Or.inr rfl | exact pr_b01 _)⟩, rvin (by assumption) (by omega) (by decide)⟩ | exact ⟨by assumption, by assumption⟩ | decide | omega))⟩, trivial⟩, (by first | decide | assumption)⟩, trivial⟩ ?_
                try simp (disch := omega) only [c64, c8, nI_div, i_sub, hp, hr2, rI_mul, nI_add, nI_1, nI_clamp, c663, pr_16_663, pr_8_10, pr_8_20, pr_8_64, pr_8_8, pr_8_m4, pr_i_0, pr_i_1, pr_i_m1]
                refine pr_cvT [_] rfl rfl rfl rfl rfl (Nat.le_of_ble_eq_true rfl) (by first | assumption | decide | (simp (disch := omega) only [c64, c8, nI_div, i_sub, hp, hr2, rI_mul, nI_add, nI_1, nI_clamp, c663, pr_16_663, pr_8_10, pr_8_20, pr_8_64, pr_8_8, pr_8_m4, pr_i_0, pr_i_1, pr_i_m1]; first | assumption | exact ⟨Or.inl (by assumption), rvin (by assumption) (by omega) (by decide)⟩ | exact ⟨by assumption, rvin (by assumption) (by omega) (by decide)⟩ | exact ⟨⟨by omega, by omega⟩, rvin (by assumption) (by omega) (by decide)⟩ | exact ⟨Or.inr (by assumption), rvin (by assumption) (by omega) (by decide)⟩ | exact ⟨Or.inr ⟨by assumption, (by first | exact Or.inl rfl | exact Or.inr rfl | exact pr_b01 _)⟩, rvin (by assumption) (by omega) (by decide)⟩ | exact ⟨by assumption, by assumption⟩ | decide | omega)) (Nat.le_of_ble_eq_true rfl) (hip) ?_
                refine pr_ifT rfl (fun h56 => ?_) (fun h56 => ?_)
                · simp only [ab_cmp, pr_16_663, pr_8_10, pr_8_20, pr_8_64, pr_8_8, pr_8_m4, pr_i_0, pr_i_1, pr_i_m1] at h56
                  exact absurd h56 (by decide)
                · simp only [ab_cmp, pr_16_663, pr_8_10, pr_8_20, pr_8_64, pr_8_8, pr_8_m4, pr_i_0, pr_i_1, pr_i_m1] at h56
                  first
                  | contradiction
                  | exact absurd trivial h56
                  | exact absurd h56 (by decide)
                  | exact absurd (Classical.not_not.mp h56) (by decide)
                  | skip
                    refine pr_seqT (pc' := 62) 2 rfl ⟨⟨trivial, (by first | decide | assumption)⟩, trivial⟩ ?_
                    try simp (disch := omega) only [c64, c8, nI_div, i_sub, hp, hr2, rI_mul, nI_add, nI_1, nI_clamp, c663, pr_16_663, pr_8_10, pr_8_20, pr_8_64, pr_8_8, pr_8_m4, pr_i_0, pr_i_1, pr_i_m1]
                    refine pr_cvT [_] rfl rfl rfl rfl rfl (Nat.le_of_ble_eq_true rfl) (by first | assumption | decide | (simp (disch := omega) only [c64, c8, nI_div, i_sub, hp, hr2, rI_mul, nI_add, nI_1, nI_clamp, c663, pr_16_663, pr_8_10, pr_8_20, pr_8_64, pr_8_8, pr_8_m4, pr_i_0, pr_i_1, pr_i_m1]; first | assumption | exact ⟨Or.inl (by assumption), rvin (by assumption) (by omega) (by decide)⟩ | exact ⟨by assumption, rvin (by assumption) (by omega) (by decide)⟩ | exact ⟨⟨by omega, by omega⟩, rvin (by assumption) (by omega) (by decide)⟩ | exact ⟨Or.inr (by assumption), rvin (by assumption) (by omega) (by decide)⟩ | exact ⟨Or.inr ⟨by assumption, (by first | exact Or.inl rfl | exact Or.inr rfl | exact pr_b01 _)⟩, rvin (by assumption) (by omega) (by decide)⟩ | exact ⟨by assumption, by assumption⟩ | decide | omega)) (Nat.le_of_ble_eq_true rfl) (hir) ?_
                    refine pr_ifT rfl (fun h65 => ?_) (fun h65 => ?_)
                    · simp only [ab_cmp, pr_16_663, pr_8_10, pr_8_20, pr_8_64, pr_8_8, pr_8_m4, pr_i_0, pr_i_1, pr_i_m1] at h65
                      first
                      | contradiction
                      | exact absurd trivial h65
                      | exact absurd h65 (by decide)
                      | exact absurd (Classical.not_not.mp h65) (by decide)
                      | skip
                        refine pr_seqT (pc' := 29) 2 rfl ⟨⟨trivial, trivial⟩, trivial⟩ ?_
                        try simp (disch := omega) only [c64, c8, nI_div, i_sub, hp, hr2, rI_mul, nI_add, nI_1, nI_clamp, c663, pr_16_663, pr_8_10, pr_8_20, pr_8_64, pr_8_8, pr_8_m4, pr_i_0, pr_i_1, pr_i_m1]
                        rw [← hs]; exact ih (k + 1) (by omega) _ _ _
                    · simp only [ab_cmp, pr_16_663, pr_8_10, pr_8_20, pr_8_64, pr_8_8, pr_8_m4, pr_i_0, pr_i_1, pr_i_m1] at h65
                      exact absurd rfl h65
        · rw [decide_eq_false cp] at hip
          have hs := skip (fun q _ => absurd q cp)
          refine pr_seqT (pc' := 33) 2 rfl ⟨⟨trivial, trivial⟩, trivial⟩ ?_
          try simp (disch := omega) only [c64, c8, nI_div, i_sub, hp, hr2, rI_mul, nI_add, nI_1, nI_clamp, c663, pr_16_663, pr_8_10, pr_8_20, pr_8_64, pr_8_8, pr_8_m4, pr_i_0, pr_i_1, pr_i_m1]
          refine pr_icT rfl (fun h33 => ?_) (fun h33 => ?_)
          · simp only [ab_cmp, pr_16_663, pr_8_10, pr_8_20, pr_8_64, pr_8_8, pr_8_m4, pr_i_0, pr_i_1, pr_i_m1] at h33
            exact absurd h33 e1
          · simp only [ab_cmp, pr_16_663, pr_8_10, pr_8_20, pr_8_64, pr_8_8, pr_8_m4, pr_i_0, pr_i_1, pr_i_m1] at h33
            first
            | contradiction
            | exact absurd trivial h33
            | exact absurd h33 (by decide)
            | exact absurd (Classical.not_not.mp h33) (by decide)
            | skip
              refine pr_seqT (pc' := 53) 10 rfl ⟨⟨⟨⟨⟨⟨⟨⟨⟨⟨trivial, trivial⟩, trivial⟩, (by first | assumption | decide | (simp (disch := omega) only [c64, c8, nI_div, i_sub, hp, hr2, rI_mul, nI_add, nI_1, nI_clamp, c663, pr_16_663, pr_8_10, pr_8_20, pr_8_64, pr_8_8, pr_8_m4, pr_i_0, pr_i_1, pr_i_m1]; first | assumption | exact ⟨Or.inl (by assumption), rvin (by assumption) (by omega) (by decide)⟩ | exact ⟨by assumption, rvin (by assumption) (by omega) (by decide)⟩ | exact ⟨⟨by omega, by omega⟩, rvin (by assumption) (by omega) (by decide)⟩ | exact ⟨Or.inr (by assumption), rvin (by assumption) (by omega) (by decide)⟩ | exact ⟨Or.inr ⟨by assumption, (by first | exact Or.inl rfl | exact Or.inr rfl | exact pr_b01 _)⟩, rvin (by assumption) (by omega) (by decide)⟩ | exact ⟨by assumption, by assumption⟩ | decide | omega))⟩, trivial⟩, trivial⟩, trivial⟩, (by first | assumption | decide | (simp (disch := omega) only [c64, c8, nI_div, i_sub, hp, hr2, rI_mul, nI_add, nI_1, nI_clamp, c663, pr_16_663, pr_8_10, pr_8_20, pr_8_64, pr_8_8, pr_8_m4, pr_i_0, pr_i_1, pr_i_m1]; first | assumption | exact ⟨Or.inl (by assumption), rvin (by assumption) (by omega) (by decide)⟩ | exact ⟨by assumption, rvin (by assumption) (by omega) (by decide)⟩ | exact ⟨⟨by omega, by omega⟩, rvin (by assumption) (by omega) (by decide)⟩ | exact ⟨Or.inr (by assumption), rvin (by assumption) (by omega) (by decide)⟩ | exact ⟨Or.inr ⟨by assumption, (by first | exact Or.inl rfl | exact Or.inr rfl | exact pr_b01 _)⟩, rvin (by assumption) (by omega) (by decide)⟩ | exact ⟨by assumption, by assumption⟩ | decide | omega))⟩, trivial⟩, (by first | decide | assumption)⟩, trivial⟩ ?_
              try simp (disch := omega) only [c64, c8, nI_div, i_sub, hp, hr2, rI_mul, nI_add, nI_1, nI_clamp, c663, pr_16_663, pr_8_10, pr_8_20, pr_8_64, pr_8_8, pr_8_m4, pr_i_0, pr_i_1, pr_i_m1]
              refine pr_cvT [_] rfl rfl rfl rfl rfl (Nat.le_of_ble_eq_true rfl) (by first | assumption | decide | (simp (disch := omega) only [c64, c8, nI_div, i_sub, hp, hr2, rI_mul, nI_add, nI_1, nI_clamp, c663, pr_16_663, pr_8_10, pr_8_20, pr_8_64, pr_8_8, pr_8_m4, pr_i_0, pr_i_1, pr_i_m1]; first | assumption | exact ⟨Or.inl (by assumption), rvin (by assumption) (by omega) (by decide)⟩ | exact ⟨by assumption, rvin (by assumption) (by omega) (by decide)⟩ | exact ⟨⟨by omega, by omega⟩, rvin (by assumption) (by omega) (by decide)⟩ | exact ⟨Or.inr (by assumption), rvin (by assumption) (by omega) (by decide)⟩ | exact ⟨Or.inr ⟨by assumption, (by first | exact Or.inl rfl | exact Or.inr rfl | exact pr_b01 _)⟩, rvin (by assumption) (by omega) (by decide)⟩ | exact ⟨by assumption, by assumption⟩ | decide | omega)) (Nat.le_of_ble_eq_true rfl) (hip) ?_
              refine pr_ifT rfl (fun h56 => ?_) (fun h56 => ?_)
              · simp only [ab_cmp, pr_16_663, pr_8_10, pr_8_20, pr_8_64, pr_8_8, pr_8_m4, pr_i_0, pr_i_1, pr_i_m1] at h56
                first
                | contradiction
                | exact absurd trivial h56
                | exact absurd h56 (by decide)
                | exact absurd (Classical.not_not.mp h56) (by decide)
                | skip
                  refine pr_seqT (pc' := 29) 2 rfl ⟨⟨trivial, trivial⟩, trivial⟩ ?_
                  try simp (disch := omega) only [c64, c8, nI_div, i_sub, hp, hr2, rI_mul, nI_add, nI_1, nI_clamp, c663, pr_16_663, pr_8_10, pr_8_20, pr_8_64, pr_8_8, pr_8_m4, pr_i_0, pr_i_1, pr_i_m1]
                  rw [← hs]; exact ih (k + 1) (by omega) _ _ _
              · simp only [ab_cmp, pr_16_663, pr_8_10, pr_8_20, pr_8_64, pr_8_8, pr_8_m4, pr_i_0, pr_i_1, pr_i_m1] at h56
                exact absurd rfl h56
    refine pr_seqT (pc' := 4) 4 rfl ⟨⟨⟨⟨trivial, trivial⟩, trivial⟩, trivial⟩, trivial⟩ ?_
    try simp (disch := omega) only [rI_mul, nI_add, nI_1, nI_clamp, c663, pr_16_663, pr_8_10, pr_8_20, pr_8_64, pr_8_8, pr_8_m4, pr_i_0, pr_i_1, pr_i_m1]
    refine pr_csT [_, _, _] rfl rfl rfl rfl rfl (Nat.le_of_ble_eq_true rfl) (Nat.le_of_ble_eq_true rfl) (h1) ?_
    refine pr_ifT rfl (fun h7 => ?_) (fun h7 => ?_)
    · simp only [ab_cmp, pr_16_663, pr_8_10, pr_8_20, pr_8_64, pr_8_8, pr_8_m4, pr_i_0, pr_i_1, pr_i_m1] at h7
      first
      | contradiction
      | exact absurd trivial h7
      | exact absurd h7 (by decide)
      | exact absurd (Classical.not_not.mp h7) (by decide)
      | skip
        refine pr_seqT (pc' := 23) 7 rfl ⟨⟨⟨⟨⟨⟨⟨trivial, trivial⟩, trivial⟩, trivial⟩, trivial⟩, (by first | decide | assumption)⟩, trivial⟩, trivial⟩ ?_
        try simp (disch := omega) only [rI_mul, nI_add, nI_1, nI_clamp, c663, pr_16_663, pr_8_10, pr_8_20, pr_8_64, pr_8_8, pr_8_m4, pr_i_0, pr_i_1, pr_i_m1]
        refine pr_cvT [_, _] rfl rfl rfl rfl rfl (Nat.le_of_ble_eq_true rfl) (by first | assumption | decide | (simp (disch := omega) only [rI_mul, nI_add, nI_1, nI_clamp, c663, pr_16_663, pr_8_10, pr_8_20, pr_8_64, pr_8_8, pr_8_m4, pr_i_0, pr_i_1, pr_i_m1]; first | assumption | exact ⟨Or.inl (by assumption), rvin (by assumption) (by omega) (by decide)⟩ | exact ⟨by assumption, rvin (by assumption) (by omega) (by decide)⟩ | exact ⟨⟨by omega, by omega⟩, rvin (by assumption) (by omega) (by decide)⟩ | exact ⟨Or.inr (by assumption), rvin (by assumption) (by omega) (by decide)⟩ | exact ⟨Or.inr ⟨by assumption, (by first | exact Or.inl rfl | exact Or.inr rfl | exact pr_b01 _)⟩, rvin (by assumption) (by omega) (by decide)⟩ | exact ⟨by assumption, by assumption⟩ | decide | omega)) (Nat.le_of_ble_eq_true rfl) (hcp) ?_
        refine pr_seqT (pc' := 29) 2 rfl ⟨⟨trivial, trivial⟩, trivial⟩ ?_
        try simp (disch := omega) only [rI_mul, nI_add, nI_1, nI_clamp, c663, pr_16_663, pr_8_10, pr_8_20, pr_8_64, pr_8_8, pr_8_m4, pr_i_0, pr_i_1, pr_i_m1]
        exact loop 64 0 (by omega) _ _ _
    · simp only [ab_cmp, pr_16_663, pr_8_10, pr_8_20, pr_8_64, pr_8_8, pr_8_m4, pr_i_0, pr_i_1, pr_i_m1] at h7
      exact absurd (Classical.not_not.mp h7) (by decide)
