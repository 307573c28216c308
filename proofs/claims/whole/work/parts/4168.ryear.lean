
/-! ===== the reference: births by a seed ===== -/
theorem yK_lt {X : St} {p : Nat} (h : p < x_n X) : yK X p = x_K X p := xc_lt h
theorem yK_at {X : St} {i : Nat} : yK X (x_n X + i) = 0 := xc_at
theorem yS_lt {X : St} {s : Int32} {p : Nat} (h : p < x_n X) : yS X s p = x_S X p := xc_lt h
theorem yS_at {X : St} {s : Int32} {i : Nat} : yS X s (x_n X + i) = nI (x_ls X (yx X s i)) := xc_at
theorem tw_more {X : St} : ∀ i, tw (yK X) (x_n X + i) = tw (yK X) (x_n X)
  | 0 => rfl
  | i + 1 => by
    rw [show x_n X + (i + 1) = x_n X + i + 1 by omega, (nt_1 (show yK X (x_n X + i) ≠ 4 by rw [yK_at]; decide)).2]
    exact tw_more i
/-- what the year keeps: the row of sums up to place k -/
def yr_i (M : ab_M) (X : St) (s : Int32) (k : Nat) (I : Nat → Nat → Int32) : Prop := (∀ a, a ≠ 183 → I a = M.1 a) ∧ ∀ p, p < k → yK X p ≠ 4 → I 183 (nt (yK X) p) = yS X s p
theorem yr_s1 {M : ab_M} {X : St} {s : Int32} {k : Nat} {I : Nat → Nat → Int32} {v : Int32} (hi : yr_i M X s k I) (hk : yK X k ≠ 4) (hvv : v = yS X s k) : yr_i M X s (k + 1) (ab_u I 183 (nt (yK X) k) v) := by
  refine ⟨fun a ha => by rw [ab_u_ne ha]; exact hi.1 a ha, fun p hp hpk => ?_⟩
  by_cases e : p = k
  · rw [e, ab_u_at, hvv]
  · rw [ab_u_j (by have := nt_lt (K := yK X) (q := p) (p := k) (by omega) hpk; omega)]
    exact hi.2 p (by omega) hpk
theorem yr_s0 {M : ab_M} {X : St} {s : Int32} {k : Nat} {I : Nat → Nat → Int32} (hi : yr_i M X s k I) (hk : yK X k = 4) : yr_i M X s (k + 1) I := ⟨hi.1, fun p hp hpk => hi.2 p (by
  rcases Nat.lt_or_ge p k with z | z
  · exact z
  · exact absurd (by rw [show p = k by omega]; exact hk) hpk) hpk⟩
set_option maxHeartbeats 8000000 in
theorem r_year {X : St} (s x w : Int32) (h : ab_H) (M : ab_M) (hl : rL h M.2.2) (hv : rv M.1 X) : pr_X pX11_year [.ref 172, .int s, .int x, .int w] h M (rp M (f_year X s x w, X)) := by
  obtain ⟨k172, rS, rLs, rKn, rPg, rRl, rRk, rTp, rCu, rLe, rLt, rSm, rIk, rLn, rLg, rCe, ⟨kS, nS⟩, ⟨kLs, nLs⟩, ⟨kKn, nKn⟩, ⟨kPg, nPg⟩, ⟨kRl, nRl⟩, ⟨kRk, nRk⟩, ⟨kTp, nTp⟩, ⟨kCu, nCu⟩, ⟨kLe, nLe⟩, ⟨kLt, nLt⟩, ⟨kSm, nSm⟩, ⟨kIk, nIk⟩, ⟨kLn, nLn⟩, ⟨kLg, nLg⟩, kCe, nCe⟩ := id hl
  obtain ⟨l1, l2, l3⟩ := hv.2.1
  have g2 : x_n X ≤ 8 := hv.1.2.1
  have h1 := q_in (a := x.toInt64) (b := Int64.ofNat 1) (c := Int64.ofNat 20) x 1 20 h M rfl rfl rfl
  have h2 := q_in (a := w.toInt64) (b := Int64.ofNat 0) (c := Int64.ofNat 1) w 0 1 h M rfl rfl rfl
  unfold f_year
  rcases pr_rg1 x 20 20 rfl (by decide) with q | ⟨n, hn1, hn, rfl, q⟩
  · rw [q] at h1 ⊢
    refine pr_ofC ?_ (rp_s hv)
    refine pr_seq (pc' := 6) 4 rfl ⟨⟨⟨⟨trivial, trivial⟩, trivial⟩, trivial⟩, trivial⟩ ?_
    refine pr_cs [_, _, _] rfl rfl rfl rfl rfl (Nat.le_of_ble_eq_true rfl) (Nat.le_of_ble_eq_true rfl) (h1) ?_
    refine pr_if rfl (fun h9 => ?_) (fun h9 => ?_)
    · simp only [ab_cmp, pr_16_12345, pr_16_32767, pr_8_16, pr_8_m2, pr_i_0, pr_i_1, pr_i_4, pr_i_m1] at h9
      first
      | contradiction
      | exact absurd trivial h9
      | exact absurd h9 (by decide)
      | exact absurd (Classical.not_not.mp h9) (by decide)
      | skip
        refine pr_seq (pc' := 23) 1 rfl ⟨trivial, trivial⟩ ?_
        exact pr_irM rfl (by first | rfl | (simp [pr_b, pr_16_12345, pr_16_32767, pr_8_16, pr_8_m2, pr_i_0, pr_i_1, pr_i_4, pr_i_m1, *]; done) | (simp_all [pr_b, pr_16_12345, pr_16_32767, pr_8_16, pr_8_m2, pr_i_0, pr_i_1, pr_i_4, pr_i_m1]; done)) trivial (by rfl)
    · simp only [ab_cmp, pr_16_12345, pr_16_32767, pr_8_16, pr_8_m2, pr_i_0, pr_i_1, pr_i_4, pr_i_m1] at h9
      exact absurd rfl h9
  · rw [q] at h1 ⊢
    cases q2 : pr_in w 0 1 with
    | false =>
      rw [q2] at h2
      refine pr_ofC ?_ (rp_s hv)
      refine pr_seq (pc' := 6) 4 rfl ⟨⟨⟨⟨trivial, trivial⟩, trivial⟩, trivial⟩, trivial⟩ ?_
      refine pr_cs [_, _, _] rfl rfl rfl rfl rfl (Nat.le_of_ble_eq_true rfl) (Nat.le_of_ble_eq_true rfl) (h1) ?_
      refine pr_if rfl (fun h9 => ?_) (fun h9 => ?_)
      · simp only [ab_cmp, pr_16_12345, pr_16_32767, pr_8_16, pr_8_m2, pr_i_0, pr_i_1, pr_i_4, pr_i_m1] at h9
        exact absurd h9 (by decide)
      · simp only [ab_cmp, pr_16_12345, pr_16_32767, pr_8_16, pr_8_m2, pr_i_0, pr_i_1, pr_i_4, pr_i_m1] at h9
        first
        | contradiction
        | exact absurd trivial h9
        | exact absurd h9 (by decide)
        | exact absurd (Classical.not_not.mp h9) (by decide)
        | skip
          refine pr_seq (pc' := 16) 4 rfl ⟨⟨⟨⟨trivial, trivial⟩, trivial⟩, trivial⟩, trivial⟩ ?_
          refine pr_cs [_, _, _] rfl rfl rfl rfl rfl (Nat.le_of_ble_eq_true rfl) (Nat.le_of_ble_eq_true rfl) (h2) ?_
          refine pr_if rfl (fun h19 => ?_) (fun h19 => ?_)
          · simp only [ab_cmp, pr_16_12345, pr_16_32767, pr_8_16, pr_8_m2, pr_i_0, pr_i_1, pr_i_4, pr_i_m1] at h19
            exact absurd rfl h19
          · simp only [ab_cmp, pr_16_12345, pr_16_32767, pr_8_16, pr_8_m2, pr_i_0, pr_i_1, pr_i_4, pr_i_m1] at h19
            first
            | contradiction
            | exact absurd trivial h19
            | exact absurd h19 (by decide)
            | exact absurd (Classical.not_not.mp h19) (by decide)
            | skip
              refine pr_seq (pc' := 23) 1 rfl ⟨trivial, trivial⟩ ?_
              exact pr_irM rfl (by first | rfl | (simp [pr_b, pr_16_12345, pr_16_32767, pr_8_16, pr_8_m2, pr_i_0, pr_i_1, pr_i_4, pr_i_m1, *]; done) | (simp_all [pr_b, pr_16_12345, pr_16_32767, pr_8_16, pr_8_m2, pr_i_0, pr_i_1, pr_i_4, pr_i_m1]; done)) trivial (by rfl)
    | true =>
      rw [q2] at h2
      rw [if_pos (show (true && true) = true from rfl), nI_clamp (by omega)]
      by_cases c0 : X.1.2.1.length = 0
      · rw [if_pos c0]
        have e0 : M.1 172 2 = 0 := by rw [l1, c0]; rfl
        refine pr_ofC ?_ (rp_s hv)
        refine pr_seq (pc' := 6) 4 rfl ⟨⟨⟨⟨trivial, trivial⟩, trivial⟩, trivial⟩, trivial⟩ ?_
        try simp (disch := omega) only [e0, rSm, rI_mul, nI_add, nI_1, nI_clamp, pr_16_12345, pr_16_32767, pr_8_16, pr_8_m2, pr_i_0, pr_i_1, pr_i_4, pr_i_m1]
        refine pr_cs [_, _, _] rfl rfl rfl rfl rfl (Nat.le_of_ble_eq_true rfl) (Nat.le_of_ble_eq_true rfl) (h1) ?_
        refine pr_if rfl (fun h9 => ?_) (fun h9 => ?_)
        · simp only [ab_cmp, pr_16_12345, pr_16_32767, pr_8_16, pr_8_m2, pr_i_0, pr_i_1, pr_i_4, pr_i_m1] at h9
          exact absurd h9 (by decide)
        · simp only [ab_cmp, pr_16_12345, pr_16_32767, pr_8_16, pr_8_m2, pr_i_0, pr_i_1, pr_i_4, pr_i_m1] at h9
          first
          | contradiction
          | exact absurd trivial h9
          | exact absurd h9 (by decide)
          | exact absurd (Classical.not_not.mp h9) (by decide)
          | skip
            refine pr_seq (pc' := 16) 4 rfl ⟨⟨⟨⟨trivial, trivial⟩, trivial⟩, trivial⟩, trivial⟩ ?_
            try simp (disch := omega) only [e0, rSm, rI_mul, nI_add, nI_1, nI_clamp, pr_16_12345, pr_16_32767, pr_8_16, pr_8_m2, pr_i_0, pr_i_1, pr_i_4, pr_i_m1]
            refine pr_cs [_, _, _] rfl rfl rfl rfl rfl (Nat.le_of_ble_eq_true rfl) (Nat.le_of_ble_eq_true rfl) (h2) ?_
            refine pr_if rfl (fun h19 => ?_) (fun h19 => ?_)
            · simp only [ab_cmp, pr_16_12345, pr_16_32767, pr_8_16, pr_8_m2, pr_i_0, pr_i_1, pr_i_4, pr_i_m1] at h19
              first
              | contradiction
              | exact absurd trivial h19
              | exact absurd h19 (by decide)
              | exact absurd (Classical.not_not.mp h19) (by decide)
              | skip
                refine pr_seq (pc' := 28) 2 rfl ⟨⟨trivial, (by first | decide | assumption)⟩, (by assumption)⟩ ?_
                try simp (disch := omega) only [e0, rSm, rI_mul, nI_add, nI_1, nI_clamp, pr_16_12345, pr_16_32767, pr_8_16, pr_8_m2, pr_i_0, pr_i_1, pr_i_4, pr_i_m1]
                refine pr_if rfl (fun h28 => ?_) (fun h28 => ?_)
                · simp only [ab_cmp, pr_16_12345, pr_16_32767, pr_8_16, pr_8_m2, pr_i_0, pr_i_1, pr_i_4, pr_i_m1] at h28
                  exact absurd trivial h28
                · simp only [ab_cmp, pr_16_12345, pr_16_32767, pr_8_16, pr_8_m2, pr_i_0, pr_i_1, pr_i_4, pr_i_m1] at h28
                  first
                  | contradiction
                  | exact absurd trivial h28
                  | exact absurd h28 (by decide)
                  | exact absurd (Classical.not_not.mp h28) (by decide)
                  | skip
                    refine pr_seq (pc' := 33) 1 rfl ⟨trivial, trivial⟩ ?_
                    try simp (disch := omega) only [e0, rSm, rI_mul, nI_add, nI_1, nI_clamp, pr_16_12345, pr_16_32767, pr_8_16, pr_8_m2, pr_i_0, pr_i_1, pr_i_4, pr_i_m1]
                    exact pr_irM rfl (by first | rfl | (simp (disch := omega) only [e0, rSm, rI_mul, nI_add, nI_1, nI_clamp, pr_16_12345, pr_16_32767, pr_8_16, pr_8_m2, pr_i_0, pr_i_1, pr_i_4, pr_i_m1]; done) | (simp [pr_b, pr_16_12345, pr_16_32767, pr_8_16, pr_8_m2, pr_i_0, pr_i_1, pr_i_4, pr_i_m1, *]; done) | (simp_all [pr_b, pr_16_12345, pr_16_32767, pr_8_16, pr_8_m2, pr_i_0, pr_i_1, pr_i_4, pr_i_m1]; done)) trivial (by rfl)
            · simp only [ab_cmp, pr_16_12345, pr_16_32767, pr_8_16, pr_8_m2, pr_i_0, pr_i_1, pr_i_4, pr_i_m1] at h19
              exact absurd (Classical.not_not.mp h19) (by decide)
      · rw [if_neg c0]
        have e0 : ¬ nI X.1.2.1.length = 0 := nI_ne0 (by omega) (by omega)
        have lt0 : 0 < X.1.2.1.length := by omega
        have hnt := nt_tw (yK X)
        have hm28 : nt (yK X) (x_n X + n) ≤ 28 := by have := hnt (x_n X + n); omega
        have htw := tw_more (X := X) n
        have fin : ∀ (I : Nat → Nat → Int32), yr_i M X s (x_n X + n) I → ∀ dd k, k + dd = nt (yK X) (x_n X + n) → ∀ z6 z10 z11 z12, pr_T pX11_year 158 [some (.ref 172), some (.int s), some (.int (nI n)), some (.int w), some (.int (nI (tw (yK X) (x_n X)))), some (.int (nI (nt (yK X) (x_n X + n)))), some (.int z6), some (.int (nI (tw (yK X) (x_n X) + cnt (fun k => nb (yF (I 183) k) (nt (yK X) (x_n X + n))) k))), some (.int (nI (tw (yK X) (x_n X) + cnt (fun k => nb (yO (I 183) k) (nt (yK X) (x_n X + n))) k))), some (.int (nI k)), z10, z11, z12] [] h (I, M.2) (rp M (if w = 0 then nI (cnt (fun p => nb (al (yS X s) (yK X) p) p) (x_n X + n)) else nI (cnt (fun p => decide (mk (al (yS X s) (yK X) p) (x_n X + n) = bt1 p)) (x_n X + n)), X)) := by
          intro I hI
          have hrp : ∀ v, rp M (v, X) (some (.int v)) (I, M.2.1, M.2.2) := fun v => rp_I (rv_same hv (fun a _ a1 => hI.1 a a1)) (fun a ha => hI.1 a (by omega))
          rw [yr_p (L := I 183) hI.2, yr_a (L := I 183) (by omega) hI.2, htw]
          generalize hmm : nt (yK X) (x_n X + n) = m at *
          generalize tw (yK X) (x_n X) = T at *
          generalize hL : I 183 = L at *
          intro dd
          induction dd with
          | zero =>
            intro k hk z6 z10 z11 z12
            obtain rfl : k = m := by omega
            have e1 : nI k ≤ nI k := nI_le (Nat.le_refl _) (by omega)
            by_cases w0 : w = 0
            · rw [if_pos w0]
              refine pr_seqT (pc' := 162) 2 rfl ⟨⟨trivial, trivial⟩, trivial⟩ ?_
              try simp (disch := omega) only [rSm, rI_mul, nI_add, nI_1, nI_clamp, pr_16_12345, pr_16_32767, pr_8_16, pr_8_m2, pr_i_0, pr_i_1, pr_i_4, pr_i_m1]
              refine pr_icT rfl (fun h162 => ?_) (fun h162 => ?_)
              · simp only [ab_cmp, pr_16_12345, pr_16_32767, pr_8_16, pr_8_m2, pr_i_0, pr_i_1, pr_i_4, pr_i_m1] at h162
                first
                | contradiction
                | exact absurd trivial h162
                | exact absurd h162 (by decide)
                | exact absurd (Classical.not_not.mp h162) (by decide)
                | skip
                  refine pr_seqT (pc' := 296) 1 rfl ⟨trivial, trivial⟩ ?_
                  try simp (disch := omega) only [rSm, rI_mul, nI_add, nI_1, nI_clamp, pr_16_12345, pr_16_32767, pr_8_16, pr_8_m2, pr_i_0, pr_i_1, pr_i_4, pr_i_m1]
                  refine pr_ifT rfl (fun h296 => ?_) (fun h296 => ?_)
                  · simp only [ab_cmp, pr_16_12345, pr_16_32767, pr_8_16, pr_8_m2, pr_i_0, pr_i_1, pr_i_4, pr_i_m1] at h296
                    exact absurd w0 h296
                  · simp only [ab_cmp, pr_16_12345, pr_16_32767, pr_8_16, pr_8_m2, pr_i_0, pr_i_1, pr_i_4, pr_i_m1] at h296
                    first
                    | contradiction
                    | exact absurd trivial h296
                    | exact absurd h296 (by decide)
                    | exact absurd (Classical.not_not.mp h296) (by decide)
                    | skip
                      refine pr_seqT (pc' := 306) 2 rfl ⟨⟨trivial, trivial⟩, trivial⟩ ?_
                      try simp (disch := omega) only [rSm, rI_mul, nI_add, nI_1, nI_clamp, pr_16_12345, pr_16_32767, pr_8_16, pr_8_m2, pr_i_0, pr_i_1, pr_i_4, pr_i_m1]
                      exact pr_irT rfl trivial (by exact hrp _)
              · simp only [ab_cmp, pr_16_12345, pr_16_32767, pr_8_16, pr_8_m2, pr_i_0, pr_i_1, pr_i_4, pr_i_m1] at h162
                exact absurd e1 h162
            · rw [if_neg w0]
              refine pr_seqT (pc' := 162) 2 rfl ⟨⟨trivial, trivial⟩, trivial⟩ ?_
              try simp (disch := omega) only [rSm, rI_mul, nI_add, nI_1, nI_clamp, pr_16_12345, pr_16_32767, pr_8_16, pr_8_m2, pr_i_0, pr_i_1, pr_i_4, pr_i_m1]
              refine pr_icT rfl (fun h162 => ?_) (fun h162 => ?_)
              · simp only [ab_cmp, pr_16_12345, pr_16_32767, pr_8_16, pr_8_m2, pr_i_0, pr_i_1, pr_i_4, pr_i_m1] at h162
                first
                | contradiction
                | exact absurd trivial h162
                | exact absurd h162 (by decide)
                | exact absurd (Classical.not_not.mp h162) (by decide)
                | skip
                  refine pr_seqT (pc' := 296) 1 rfl ⟨trivial, trivial⟩ ?_
                  try simp (disch := omega) only [rSm, rI_mul, nI_add, nI_1, nI_clamp, pr_16_12345, pr_16_32767, pr_8_16, pr_8_m2, pr_i_0, pr_i_1, pr_i_4, pr_i_m1]
                  refine pr_ifT rfl (fun h296 => ?_) (fun h296 => ?_)
                  · simp only [ab_cmp, pr_16_12345, pr_16_32767, pr_8_16, pr_8_m2, pr_i_0, pr_i_1, pr_i_4, pr_i_m1] at h296
                    first
                    | contradiction
                    | exact absurd trivial h296
                    | exact absurd h296 (by decide)
                    | exact absurd (Classical.not_not.mp h296) (by decide)
                    | skip
                      refine pr_seqT (pc' := 306) 1 rfl ⟨trivial, trivial⟩ ?_
                      try simp (disch := omega) only [rSm, rI_mul, nI_add, nI_1, nI_clamp, pr_16_12345, pr_16_32767, pr_8_16, pr_8_m2, pr_i_0, pr_i_1, pr_i_4, pr_i_m1]
                      exact pr_irT rfl trivial (by exact hrp _)
                  · simp only [ab_cmp, pr_16_12345, pr_16_32767, pr_8_16, pr_8_m2, pr_i_0, pr_i_1, pr_i_4, pr_i_m1] at h296
                    exact absurd (Classical.not_not.mp h296) w0
              · simp only [ab_cmp, pr_16_12345, pr_16_32767, pr_8_16, pr_8_m2, pr_i_0, pr_i_1, pr_i_4, pr_i_m1] at h162
                exact absurd e1 h162
          | succ dd ih =>
            intro k hk z6 z10 z11 z12
            have hkm : k < m := by omega
            have e1 : ¬ nI m ≤ nI k := nI_ge hkm (by omega)
            have inner : ∀ ee i, i + ee = m → pr_T pX11_year 174 [some (.ref 172), some (.int s), some (.int (nI n)), some (.int w), some (.int (nI T)), some (.int (nI m)), some (.int z6), some (.int (nI (T + cnt (fun k => nb (yF L k) m) k))), some (.int (nI (T + cnt (fun k => nb (yO L k) m) k))), some (.int (nI k)), some (.int (pr_b (nb (yF L k) i))), some (.int (pr_b (nb (yO L k) i))), some (.int (nI i))] [] h (I, M.2) (rp M (if w = 0 then nI (T + cnt (fun k => nb (yF L k) m) m) else nI (T + cnt (fun k => nb (yO L k) m) m), X)) := by
              intro ee
              induction ee with
              | zero =>
                intro i hi
                obtain rfl : i = m := by omega
                have e2 : nI i ≤ nI i := nI_le (Nat.le_refl _) (by omega)
                have hh := ih (k + 1) (by omega) z6 (some (.int (pr_b (nb (yF L k) i)))) (some (.int (pr_b (nb (yO L k) i)))) (some (.int (nI i)))
                have p0 : nI (T + cnt (fun k => nb (yF L k) i) k) + 0 = nI (T + cnt (fun k => nb (yF L k) i) k) := Int32.add_zero _
                have p1 : nI (T + cnt (fun k => nb (yO L k) i) k) + 0 = nI (T + cnt (fun k => nb (yO L k) i) k) := Int32.add_zero _
                cases cF : nb (yF L k) i <;> cases cO : nb (yO L k) i
                · rw [cnt_s0 (f := fun k => nb (yF L k) i) cF, cnt_s0 (f := fun k => nb (yO L k) i) cO, cF, cO] at hh
                  refine pr_seqT (pc' := 178) 2 rfl ⟨⟨trivial, trivial⟩, trivial⟩ ?_
                  try simp (disch := omega) only [p0, p1, rSm, rI_mul, nI_add, nI_1, nI_clamp, pr_16_12345, pr_16_32767, pr_8_16, pr_8_m2, pr_i_0, pr_i_1, pr_i_4, pr_i_m1]
                  refine pr_icT rfl (fun h178 => ?_) (fun h178 => ?_)
                  · simp only [ab_cmp, pr_16_12345, pr_16_32767, pr_8_16, pr_8_m2, pr_i_0, pr_i_1, pr_i_4, pr_i_m1] at h178
                    first
                    | contradiction
                    | exact absurd trivial h178
                    | exact absurd h178 (by decide)
                    | exact absurd (Classical.not_not.mp h178) (by decide)
                    | skip
                      refine pr_seqT (pc' := 263) 2 rfl ⟨⟨trivial, trivial⟩, trivial⟩ ?_
                      try simp (disch := omega) only [p0, p1, rSm, rI_mul, nI_add, nI_1, nI_clamp, pr_16_12345, pr_16_32767, pr_8_16, pr_8_m2, pr_i_0, pr_i_1, pr_i_4, pr_i_m1]
                      refine pr_ifT rfl (fun h263 => ?_) (fun h263 => ?_)
                      · simp only [ab_cmp, pr_16_12345, pr_16_32767, pr_8_16, pr_8_m2, pr_i_0, pr_i_1, pr_i_4, pr_i_m1] at h263
                        first
                        | contradiction
                        | exact absurd trivial h263
                        | exact absurd h263 (by decide)
                        | exact absurd (Classical.not_not.mp h263) (by decide)
                        | skip
                          refine pr_seqT (pc' := 278) 5 rfl ⟨⟨⟨⟨⟨trivial, trivial⟩, trivial⟩, trivial⟩, trivial⟩, trivial⟩ ?_
                          try simp (disch := omega) only [p0, p1, rSm, rI_mul, nI_add, nI_1, nI_clamp, pr_16_12345, pr_16_32767, pr_8_16, pr_8_m2, pr_i_0, pr_i_1, pr_i_4, pr_i_m1]
                          refine pr_ifT rfl (fun h278 => ?_) (fun h278 => ?_)
                          · simp only [ab_cmp, pr_16_12345, pr_16_32767, pr_8_16, pr_8_m2, pr_i_0, pr_i_1, pr_i_4, pr_i_m1] at h278
                            first
                            | contradiction
                            | exact absurd trivial h278
                            | exact absurd h278 (by decide)
                            | exact absurd (Classical.not_not.mp h278) (by decide)
                            | skip
                              refine pr_seqT (pc' := 158) 5 rfl ⟨⟨⟨⟨⟨trivial, trivial⟩, trivial⟩, trivial⟩, trivial⟩, trivial⟩ ?_
                              try simp (disch := omega) only [p0, p1, rSm, rI_mul, nI_add, nI_1, nI_clamp, pr_16_12345, pr_16_32767, pr_8_16, pr_8_m2, pr_i_0, pr_i_1, pr_i_4, pr_i_m1]
                              exact hh
                          · simp only [ab_cmp, pr_16_12345, pr_16_32767, pr_8_16, pr_8_m2, pr_i_0, pr_i_1, pr_i_4, pr_i_m1] at h278
                            exact absurd rfl h278
                      · simp only [ab_cmp, pr_16_12345, pr_16_32767, pr_8_16, pr_8_m2, pr_i_0, pr_i_1, pr_i_4, pr_i_m1] at h263
                        exact absurd rfl h263
                  · simp only [ab_cmp, pr_16_12345, pr_16_32767, pr_8_16, pr_8_m2, pr_i_0, pr_i_1, pr_i_4, pr_i_m1] at h178
                    exact absurd e2 h178
                · rw [cnt_s0 (f := fun k => nb (yF L k) i) cF, cnt_s1 (f := fun k => nb (yO L k) i) cO, cF, cO] at hh
                  refine pr_seqT (pc' := 178) 2 rfl ⟨⟨trivial, trivial⟩, trivial⟩ ?_
                  try simp (disch := omega) only [p0, p1, rSm, rI_mul, nI_add, nI_1, nI_clamp, pr_16_12345, pr_16_32767, pr_8_16, pr_8_m2, pr_i_0, pr_i_1, pr_i_4, pr_i_m1]
                  refine pr_icT rfl (fun h178 => ?_) (fun h178 => ?_)
                  · simp only [ab_cmp, pr_16_12345, pr_16_32767, pr_8_16, pr_8_m2, pr_i_0, pr_i_1, pr_i_4, pr_i_m1] at h178
                    first
                    | contradiction
                    | exact absurd trivial h178
                    | exact absurd h178 (by decide)
                    | exact absurd (Classical.not_not.mp h178) (by decide)
                    | skip
                      refine pr_seqT (pc' := 263) 2 rfl ⟨⟨trivial, trivial⟩, trivial⟩ ?_
                      try simp (disch := omega) only [p0, p1, rSm, rI_mul, nI_add, nI_1, nI_clamp, pr_16_12345, pr_16_32767, pr_8_16, pr_8_m2, pr_i_0, pr_i_1, pr_i_4, pr_i_m1]
                      refine pr_ifT rfl (fun h263 => ?_) (fun h263 => ?_)
                      · simp only [ab_cmp, pr_16_12345, pr_16_32767, pr_8_16, pr_8_m2, pr_i_0, pr_i_1, pr_i_4, pr_i_m1] at h263
                        first
                        | contradiction
                        | exact absurd trivial h263
                        | exact absurd h263 (by decide)
                        | exact absurd (Classical.not_not.mp h263) (by decide)
                        | skip
                          refine pr_seqT (pc' := 278) 5 rfl ⟨⟨⟨⟨⟨trivial, trivial⟩, trivial⟩, trivial⟩, trivial⟩, trivial⟩ ?_
                          try simp (disch := omega) only [p0, p1, rSm, rI_mul, nI_add, nI_1, nI_clamp, pr_16_12345, pr_16_32767, pr_8_16, pr_8_m2, pr_i_0, pr_i_1, pr_i_4, pr_i_m1]
                          refine pr_ifT rfl (fun h278 => ?_) (fun h278 => ?_)
                          · simp only [ab_cmp, pr_16_12345, pr_16_32767, pr_8_16, pr_8_m2, pr_i_0, pr_i_1, pr_i_4, pr_i_m1] at h278
                            exact absurd h278 (by decide)
                          · simp only [ab_cmp, pr_16_12345, pr_16_32767, pr_8_16, pr_8_m2, pr_i_0, pr_i_1, pr_i_4, pr_i_m1] at h278
                            first
                            | contradiction
                            | exact absurd trivial h278
                            | exact absurd h278 (by decide)
                            | exact absurd (Classical.not_not.mp h278) (by decide)
                            | skip
                              refine pr_seqT (pc' := 158) 6 rfl ⟨⟨⟨⟨⟨⟨trivial, trivial⟩, trivial⟩, trivial⟩, trivial⟩, trivial⟩, trivial⟩ ?_
                              try simp (disch := omega) only [p0, p1, rSm, rI_mul, nI_add, nI_1, nI_clamp, pr_16_12345, pr_16_32767, pr_8_16, pr_8_m2, pr_i_0, pr_i_1, pr_i_4, pr_i_m1]
                              exact hh
                      · simp only [ab_cmp, pr_16_12345, pr_16_32767, pr_8_16, pr_8_m2, pr_i_0, pr_i_1, pr_i_4, pr_i_m1] at h263
                        exact absurd rfl h263
                  · simp only [ab_cmp, pr_16_12345, pr_16_32767, pr_8_16, pr_8_m2, pr_i_0, pr_i_1, pr_i_4, pr_i_m1] at h178
                    exact absurd e2 h178
                · rw [cnt_s1 (f := fun k => nb (yF L k) i) cF, cnt_s0 (f := fun k => nb (yO L k) i) cO, cF, cO] at hh
                  refine pr_seqT (pc' := 178) 2 rfl ⟨⟨trivial, trivial⟩, trivial⟩ ?_
                  try simp (disch := omega) only [p0, p1, rSm, rI_mul, nI_add, nI_1, nI_clamp, pr_16_12345, pr_16_32767, pr_8_16, pr_8_m2, pr_i_0, pr_i_1, pr_i_4, pr_i_m1]
                  refine pr_icT rfl (fun h178 => ?_) (fun h178 => ?_)
                  · simp only [ab_cmp, pr_16_12345, pr_16_32767, pr_8_16, pr_8_m2, pr_i_0, pr_i_1, pr_i_4, pr_i_m1] at h178
                    first
                    | contradiction
                    | exact absurd trivial h178
                    | exact absurd h178 (by decide)
                    | exact absurd (Classical.not_not.mp h178) (by decide)
                    | skip
                      refine pr_seqT (pc' := 263) 2 rfl ⟨⟨trivial, trivial⟩, trivial⟩ ?_
                      try simp (disch := omega) only [p0, p1, rSm, rI_mul, nI_add, nI_1, nI_clamp, pr_16_12345, pr_16_32767, pr_8_16, pr_8_m2, pr_i_0, pr_i_1, pr_i_4, pr_i_m1]
                      refine pr_ifT rfl (fun h263 => ?_) (fun h263 => ?_)
                      · simp only [ab_cmp, pr_16_12345, pr_16_32767, pr_8_16, pr_8_m2, pr_i_0, pr_i_1, pr_i_4, pr_i_m1] at h263
                        exact absurd h263 (by decide)
                      · simp only [ab_cmp, pr_16_12345, pr_16_32767, pr_8_16, pr_8_m2, pr_i_0, pr_i_1, pr_i_4, pr_i_m1] at h263
                        first
                        | contradiction
                        | exact absurd trivial h263
                        | exact absurd h263 (by decide)
                        | exact absurd (Classical.not_not.mp h263) (by decide)
                        | skip
                          refine pr_seqT (pc' := 278) 6 rfl ⟨⟨⟨⟨⟨⟨trivial, trivial⟩, trivial⟩, trivial⟩, trivial⟩, trivial⟩, trivial⟩ ?_
                          try simp (disch := omega) only [p0, p1, rSm, rI_mul, nI_add, nI_1, nI_clamp, pr_16_12345, pr_16_32767, pr_8_16, pr_8_m2, pr_i_0, pr_i_1, pr_i_4, pr_i_m1]
                          refine pr_ifT rfl (fun h278 => ?_) (fun h278 => ?_)
                          · simp only [ab_cmp, pr_16_12345, pr_16_32767, pr_8_16, pr_8_m2, pr_i_0, pr_i_1, pr_i_4, pr_i_m1] at h278
                            first
                            | contradiction
                            | exact absurd trivial h278
                            | exact absurd h278 (by decide)
                            | exact absurd (Classical.not_not.mp h278) (by decide)
                            | skip
                              refine pr_seqT (pc' := 158) 5 rfl ⟨⟨⟨⟨⟨trivial, trivial⟩, trivial⟩, trivial⟩, trivial⟩, trivial⟩ ?_
                              try simp (disch := omega) only [p0, p1, rSm, rI_mul, nI_add, nI_1, nI_clamp, pr_16_12345, pr_16_32767, pr_8_16, pr_8_m2, pr_i_0, pr_i_1, pr_i_4, pr_i_m1]
                              exact hh
                          · simp only [ab_cmp, pr_16_12345, pr_16_32767, pr_8_16, pr_8_m2, pr_i_0, pr_i_1, pr_i_4, pr_i_m1] at h278
                            exact absurd rfl h278
                  · simp only [ab_cmp, pr_16_12345, pr_16_32767, pr_8_16, pr_8_m2, pr_i_0, pr_i_1, pr_i_4, pr_i_m1] at h178
                    exact absurd e2 h178
                · rw [cnt_s1 (f := fun k => nb (yF L k) i) cF, cnt_s1 (f := fun k => nb (yO L k) i) cO, cF, cO] at hh
                  refine pr_seqT (pc' := 178) 2 rfl ⟨⟨trivial, trivial⟩, trivial⟩ ?_
                  try simp (disch := omega) only [p0, p1, rSm, rI_mul, nI_add, nI_1, nI_clamp, pr_16_12345, pr_16_32767, pr_8_16, pr_8_m2, pr_i_0, pr_i_1, pr_i_4, pr_i_m1]
                  refine pr_icT rfl (fun h178 => ?_) (fun h178 => ?_)
                  · simp only [ab_cmp, pr_16_12345, pr_16_32767, pr_8_16, pr_8_m2, pr_i_0, pr_i_1, pr_i_4, pr_i_m1] at h178
                    first
                    | contradiction
                    | exact absurd trivial h178
                    | exact absurd h178 (by decide)
                    | exact absurd (Classical.not_not.mp h178) (by decide)
                    | skip
                      refine pr_seqT (pc' := 263) 2 rfl ⟨⟨trivial, trivial⟩, trivial⟩ ?_
                      try simp (disch := omega) only [p0, p1, rSm, rI_mul, nI_add, nI_1, nI_clamp, pr_16_12345, pr_16_32767, pr_8_16, pr_8_m2, pr_i_0, pr_i_1, pr_i_4, pr_i_m1]
                      refine pr_ifT rfl (fun h263 => ?_) (fun h263 => ?_)
                      · simp only [ab_cmp, pr_16_12345, pr_16_32767, pr_8_16, pr_8_m2, pr_i_0, pr_i_1, pr_i_4, pr_i_m1] at h263
                        exact absurd h263 (by decide)
                      · simp only [ab_cmp, pr_16_12345, pr_16_32767, pr_8_16, pr_8_m2, pr_i_0, pr_i_1, pr_i_4, pr_i_m1] at h263
                        first
                        | contradiction
                        | exact absurd trivial h263
                        | exact absurd h263 (by decide)
                        | exact absurd (Classical.not_not.mp h263) (by decide)
                        | skip
                          refine pr_seqT (pc' := 278) 6 rfl ⟨⟨⟨⟨⟨⟨trivial, trivial⟩, trivial⟩, trivial⟩, trivial⟩, trivial⟩, trivial⟩ ?_
                          try simp (disch := omega) only [p0, p1, rSm, rI_mul, nI_add, nI_1, nI_clamp, pr_16_12345, pr_16_32767, pr_8_16, pr_8_m2, pr_i_0, pr_i_1, pr_i_4, pr_i_m1]
                          refine pr_ifT rfl (fun h278 => ?_) (fun h278 => ?_)
                          · simp only [ab_cmp, pr_16_12345, pr_16_32767, pr_8_16, pr_8_m2, pr_i_0, pr_i_1, pr_i_4, pr_i_m1] at h278
                            exact absurd h278 (by decide)
                          · simp only [ab_cmp, pr_16_12345, pr_16_32767, pr_8_16, pr_8_m2, pr_i_0, pr_i_1, pr_i_4, pr_i_m1] at h278
                            first
                            | contradiction
                            | exact absurd trivial h278
                            | exact absurd h278 (by decide)
                            | exact absurd (Classical.not_not.mp h278) (by decide)
                            | skip
                              refine pr_seqT (pc' := 158) 6 rfl ⟨⟨⟨⟨⟨⟨trivial, trivial⟩, trivial⟩, trivial⟩, trivial⟩, trivial⟩, trivial⟩ ?_
                              try simp (disch := omega) only [p0, p1, rSm, rI_mul, nI_add, nI_1, nI_clamp, pr_16_12345, pr_16_32767, pr_8_16, pr_8_m2, pr_i_0, pr_i_1, pr_i_4, pr_i_m1]
                              exact hh
                  · simp only [ab_cmp, pr_16_12345, pr_16_32767, pr_8_16, pr_8_m2, pr_i_0, pr_i_1, pr_i_4, pr_i_m1] at h178
                    exact absurd e2 h178
              | succ ee ih2 =>
                intro i hi
                have e2 : ¬ nI m ≤ nI i := nI_ge (by omega) (by omega)
                have hh := ih2 (i + 1) (by omega)
                have u1 : nb (yF L k) (i + 1) = (nb (yF L k) i && !(decide (i < k) && decide (L i = L k))) := rfl
                have u2 : nb (yO L k) (i + 1) = (nb (yO L k) i && !(decide (i ≠ k) && decide (L i = L k))) := rfl
                have lv : ∀ j, I 183 j = L j := fun j => by rw [hL]
                have i28 : i < 28 := by omega
                have k28 : k < 28 := by omega
                have second : ∀ bF bO : Bool, bO = nb (yO L k) i → (∀ bO', bO' = nb (yO L k) (i + 1) → pr_T pX11_year 174 [some (.ref 172), some (.int s), some (.int (nI n)), some (.int w), some (.int (nI T)), some (.int (nI m)), some (.int z6), some (.int (nI (T + cnt (fun k => nb (yF L k) m) k))), some (.int (nI (T + cnt (fun k => nb (yO L k) m) k))), some (.int (nI k)), some (.int (pr_b bF)), some (.int (pr_b bO')), some (.int (nI (i + 1)))] [] h (I, M.2) (rp M (if w = 0 then nI (T + cnt (fun k => nb (yF L k) m) m) else nI (T + cnt (fun k => nb (yO L k) m) m), X))) → pr_T pX11_year 217 [some (.ref 172), some (.int s), some (.int (nI n)), some (.int w), some (.int (nI T)), some (.int (nI m)), some (.int z6), some (.int (nI (T + cnt (fun k => nb (yF L k) m) k))), some (.int (nI (T + cnt (fun k => nb (yO L k) m) k))), some (.int (nI k)), some (.int (pr_b bF)), some (.int (pr_b bO)), some (.int (nI i))] [] h (I, M.2) (rp M (if w = 0 then nI (T + cnt (fun k => nb (yF L k) m) m) else nI (T + cnt (fun k => nb (yO L k) m) m), X)) := by
                  intro bF bO hbO K0
                  cases bO with
                  | false =>
                    have K1 := K0 false (by rw [u2, ← hbO, Bool.false_and])
                    refine pr_seqT (pc' := 219) 1 rfl ⟨trivial, trivial⟩ ?_
                    try simp (disch := omega) only [lv, rSm, rI_mul, nI_add, nI_1, nI_clamp, pr_16_12345, pr_16_32767, pr_8_16, pr_8_m2, pr_i_0, pr_i_1, pr_i_4, pr_i_m1]
                    refine pr_ifT rfl (fun h219 => ?_) (fun h219 => ?_)
                    · simp only [ab_cmp, pr_16_12345, pr_16_32767, pr_8_16, pr_8_m2, pr_i_0, pr_i_1, pr_i_4, pr_i_m1] at h219
                      first
                      | contradiction
                      | exact absurd trivial h219
                      | exact absurd h219 (by decide)
                      | exact absurd (Classical.not_not.mp h219) (by decide)
                      | skip
                        refine pr_seqT (pc' := 174) 4 rfl ⟨⟨⟨⟨trivial, trivial⟩, trivial⟩, trivial⟩, trivial⟩ ?_
                        try simp (disch := omega) only [lv, rSm, rI_mul, nI_add, nI_1, nI_clamp, pr_16_12345, pr_16_32767, pr_8_16, pr_8_m2, pr_i_0, pr_i_1, pr_i_4, pr_i_m1]
                        exact K1
                    · simp only [ab_cmp, pr_16_12345, pr_16_32767, pr_8_16, pr_8_m2, pr_i_0, pr_i_1, pr_i_4, pr_i_m1] at h219
                      exact absurd rfl h219
                  | true =>
                    by_cases cik : i = k
                    · have z : nI i = nI k := by rw [cik]
                      have K1 := K0 true (by rw [u2, ← hbO, decide_eq_false (fun q => q cik)]; rfl)
                      refine pr_seqT (pc' := 219) 1 rfl ⟨trivial, trivial⟩ ?_
                      try simp (disch := omega) only [lv, rSm, rI_mul, nI_add, nI_1, nI_clamp, pr_16_12345, pr_16_32767, pr_8_16, pr_8_m2, pr_i_0, pr_i_1, pr_i_4, pr_i_m1]
                      refine pr_ifT rfl (fun h219 => ?_) (fun h219 => ?_)
                      · simp only [ab_cmp, pr_16_12345, pr_16_32767, pr_8_16, pr_8_m2, pr_i_0, pr_i_1, pr_i_4, pr_i_m1] at h219
                        exact absurd h219 (by decide)
                      · simp only [ab_cmp, pr_16_12345, pr_16_32767, pr_8_16, pr_8_m2, pr_i_0, pr_i_1, pr_i_4, pr_i_m1] at h219
                        first
                        | contradiction
                        | exact absurd trivial h219
                        | exact absurd h219 (by decide)
                        | exact absurd (Classical.not_not.mp h219) (by decide)
                        | skip
                          refine pr_seqT (pc' := 226) 2 rfl ⟨⟨trivial, trivial⟩, trivial⟩ ?_
                          try simp (disch := omega) only [lv, rSm, rI_mul, nI_add, nI_1, nI_clamp, pr_16_12345, pr_16_32767, pr_8_16, pr_8_m2, pr_i_0, pr_i_1, pr_i_4, pr_i_m1]
                          refine pr_icT rfl (fun h226 => ?_) (fun h226 => ?_)
                          · simp only [ab_cmp, pr_16_12345, pr_16_32767, pr_8_16, pr_8_m2, pr_i_0, pr_i_1, pr_i_4, pr_i_m1] at h226
                            first
                            | contradiction
                            | exact absurd trivial h226
                            | exact absurd h226 (by decide)
                            | exact absurd (Classical.not_not.mp h226) (by decide)
                            | skip
                              refine pr_seqT (pc' := 174) 5 rfl ⟨⟨⟨⟨⟨trivial, trivial⟩, trivial⟩, trivial⟩, trivial⟩, trivial⟩ ?_
                              try simp (disch := omega) only [lv, rSm, rI_mul, nI_add, nI_1, nI_clamp, pr_16_12345, pr_16_32767, pr_8_16, pr_8_m2, pr_i_0, pr_i_1, pr_i_4, pr_i_m1]
                              exact K1
                          · simp only [ab_cmp, pr_16_12345, pr_16_32767, pr_8_16, pr_8_m2, pr_i_0, pr_i_1, pr_i_4, pr_i_m1] at h226
                            exact absurd z h226
                    · have z : ¬ nI i = nI k := nI_ne cik (by omega) (by omega)
                      by_cases cl : L i = L k
                      · have K1 := K0 false (by rw [u2, ← hbO, decide_eq_true cik, decide_eq_true cl]; rfl)
                        refine pr_seqT (pc' := 219) 1 rfl ⟨trivial, trivial⟩ ?_
                        try simp (disch := omega) only [lv, rSm, rI_mul, nI_add, nI_1, nI_clamp, pr_16_12345, pr_16_32767, pr_8_16, pr_8_m2, pr_i_0, pr_i_1, pr_i_4, pr_i_m1]
                        refine pr_ifT rfl (fun h219 => ?_) (fun h219 => ?_)
                        · simp only [ab_cmp, pr_16_12345, pr_16_32767, pr_8_16, pr_8_m2, pr_i_0, pr_i_1, pr_i_4, pr_i_m1] at h219
                          exact absurd h219 (by decide)
                        · simp only [ab_cmp, pr_16_12345, pr_16_32767, pr_8_16, pr_8_m2, pr_i_0, pr_i_1, pr_i_4, pr_i_m1] at h219
                          first
                          | contradiction
                          | exact absurd trivial h219
                          | exact absurd h219 (by decide)
                          | exact absurd (Classical.not_not.mp h219) (by decide)
                          | skip
                            refine pr_seqT (pc' := 226) 2 rfl ⟨⟨trivial, trivial⟩, trivial⟩ ?_
                            try simp (disch := omega) only [lv, rSm, rI_mul, nI_add, nI_1, nI_clamp, pr_16_12345, pr_16_32767, pr_8_16, pr_8_m2, pr_i_0, pr_i_1, pr_i_4, pr_i_m1]
                            refine pr_icT rfl (fun h226 => ?_) (fun h226 => ?_)
                            · simp only [ab_cmp, pr_16_12345, pr_16_32767, pr_8_16, pr_8_m2, pr_i_0, pr_i_1, pr_i_4, pr_i_m1] at h226
                              exact absurd h226 z
                            · simp only [ab_cmp, pr_16_12345, pr_16_32767, pr_8_16, pr_8_m2, pr_i_0, pr_i_1, pr_i_4, pr_i_m1] at h226
                              first
                              | contradiction
                              | exact absurd trivial h226
                              | exact absurd h226 (by decide)
                              | exact absurd (Classical.not_not.mp h226) (by decide)
                              | skip
                                refine pr_seqT (pc' := 243) 8 rfl ⟨⟨⟨⟨⟨⟨⟨⟨trivial, (by first | decide | assumption)⟩, (by assumption)⟩, trivial⟩, (by (try simp (disch := omega) only [lv, rSm, rI_mul, nI_add, nI_1, nI_clamp, pr_16_12345, pr_16_32767, pr_8_16, pr_8_m2, pr_i_0, pr_i_1, pr_i_4, pr_i_m1]); exact ⟨Or.inl (by assumption), rvin (by assumption) (by omega) (by decide)⟩)⟩, (by first | decide | assumption)⟩, (by assumption)⟩, trivial⟩, (by (try simp (disch := omega) only [lv, rSm, rI_mul, nI_add, nI_1, nI_clamp, pr_16_12345, pr_16_32767, pr_8_16, pr_8_m2, pr_i_0, pr_i_1, pr_i_4, pr_i_m1]); exact ⟨Or.inl (by assumption), rvin (by assumption) (by omega) (by decide)⟩)⟩ ?_
                                try simp (disch := omega) only [lv, rSm, rI_mul, nI_add, nI_1, nI_clamp, pr_16_12345, pr_16_32767, pr_8_16, pr_8_m2, pr_i_0, pr_i_1, pr_i_4, pr_i_m1]
                                refine pr_icT rfl (fun h243 => ?_) (fun h243 => ?_)
                                · simp only [ab_cmp, pr_16_12345, pr_16_32767, pr_8_16, pr_8_m2, pr_i_0, pr_i_1, pr_i_4, pr_i_m1] at h243
                                  first
                                  | contradiction
                                  | exact absurd trivial h243
                                  | exact absurd h243 (by decide)
                                  | exact absurd (Classical.not_not.mp h243) (by decide)
                                  | skip
                                    refine pr_seqT (pc' := 174) 4 rfl ⟨⟨⟨⟨trivial, trivial⟩, trivial⟩, trivial⟩, trivial⟩ ?_
                                    try simp (disch := omega) only [lv, rSm, rI_mul, nI_add, nI_1, nI_clamp, pr_16_12345, pr_16_32767, pr_8_16, pr_8_m2, pr_i_0, pr_i_1, pr_i_4, pr_i_m1]
                                    exact K1
                                · simp only [ab_cmp, pr_16_12345, pr_16_32767, pr_8_16, pr_8_m2, pr_i_0, pr_i_1, pr_i_4, pr_i_m1] at h243
                                  exact absurd cl h243
                      · have K1 := K0 true (by rw [u2, ← hbO, decide_eq_true cik, decide_eq_false cl]; rfl)
                        refine pr_seqT (pc' := 219) 1 rfl ⟨trivial, trivial⟩ ?_
                        try simp (disch := omega) only [lv, rSm, rI_mul, nI_add, nI_1, nI_clamp, pr_16_12345, pr_16_32767, pr_8_16, pr_8_m2, pr_i_0, pr_i_1, pr_i_4, pr_i_m1]
                        refine pr_ifT rfl (fun h219 => ?_) (fun h219 => ?_)
                        · simp only [ab_cmp, pr_16_12345, pr_16_32767, pr_8_16, pr_8_m2, pr_i_0, pr_i_1, pr_i_4, pr_i_m1] at h219
                          exact absurd h219 (by decide)
                        · simp only [ab_cmp, pr_16_12345, pr_16_32767, pr_8_16, pr_8_m2, pr_i_0, pr_i_1, pr_i_4, pr_i_m1] at h219
                          first
                          | contradiction
                          | exact absurd trivial h219
                          | exact absurd h219 (by decide)
                          | exact absurd (Classical.not_not.mp h219) (by decide)
                          | skip
                            refine pr_seqT (pc' := 226) 2 rfl ⟨⟨trivial, trivial⟩, trivial⟩ ?_
                            try simp (disch := omega) only [lv, rSm, rI_mul, nI_add, nI_1, nI_clamp, pr_16_12345, pr_16_32767, pr_8_16, pr_8_m2, pr_i_0, pr_i_1, pr_i_4, pr_i_m1]
                            refine pr_icT rfl (fun h226 => ?_) (fun h226 => ?_)
                            · simp only [ab_cmp, pr_16_12345, pr_16_32767, pr_8_16, pr_8_m2, pr_i_0, pr_i_1, pr_i_4, pr_i_m1] at h226
                              exact absurd h226 z
                            · simp only [ab_cmp, pr_16_12345, pr_16_32767, pr_8_16, pr_8_m2, pr_i_0, pr_i_1, pr_i_4, pr_i_m1] at h226
                              first
                              | contradiction
                              | exact absurd trivial h226
                              | exact absurd h226 (by decide)
                              | exact absurd (Classical.not_not.mp h226) (by decide)
                              | skip
                                refine pr_seqT (pc' := 243) 8 rfl ⟨⟨⟨⟨⟨⟨⟨⟨trivial, (by first | decide | assumption)⟩, (by assumption)⟩, trivial⟩, (by (try simp (disch := omega) only [lv, rSm, rI_mul, nI_add, nI_1, nI_clamp, pr_16_12345, pr_16_32767, pr_8_16, pr_8_m2, pr_i_0, pr_i_1, pr_i_4, pr_i_m1]); exact ⟨Or.inl (by assumption), rvin (by assumption) (by omega) (by decide)⟩)⟩, (by first | decide | assumption)⟩, (by assumption)⟩, trivial⟩, (by (try simp (disch := omega) only [lv, rSm, rI_mul, nI_add, nI_1, nI_clamp, pr_16_12345, pr_16_32767, pr_8_16, pr_8_m2, pr_i_0, pr_i_1, pr_i_4, pr_i_m1]); exact ⟨Or.inl (by assumption), rvin (by assumption) (by omega) (by decide)⟩)⟩ ?_
                                try simp (disch := omega) only [lv, rSm, rI_mul, nI_add, nI_1, nI_clamp, pr_16_12345, pr_16_32767, pr_8_16, pr_8_m2, pr_i_0, pr_i_1, pr_i_4, pr_i_m1]
                                refine pr_icT rfl (fun h243 => ?_) (fun h243 => ?_)
                                · simp only [ab_cmp, pr_16_12345, pr_16_32767, pr_8_16, pr_8_m2, pr_i_0, pr_i_1, pr_i_4, pr_i_m1] at h243
                                  exact absurd h243 cl
                                · simp only [ab_cmp, pr_16_12345, pr_16_32767, pr_8_16, pr_8_m2, pr_i_0, pr_i_1, pr_i_4, pr_i_m1] at h243
                                  first
                                  | contradiction
                                  | exact absurd trivial h243
                                  | exact absurd h243 (by decide)
                                  | exact absurd (Classical.not_not.mp h243) (by decide)
                                  | skip
                                    refine pr_seqT (pc' := 174) 5 rfl ⟨⟨⟨⟨⟨trivial, trivial⟩, trivial⟩, trivial⟩, trivial⟩, trivial⟩ ?_
                                    try simp (disch := omega) only [lv, rSm, rI_mul, nI_add, nI_1, nI_clamp, pr_16_12345, pr_16_32767, pr_8_16, pr_8_m2, pr_i_0, pr_i_1, pr_i_4, pr_i_m1]
                                    exact K1
                have K2 : ∀ bF, bF = nb (yF L k) (i + 1) → pr_T pX11_year 217 [some (.ref 172), some (.int s), some (.int (nI n)), some (.int w), some (.int (nI T)), some (.int (nI m)), some (.int z6), some (.int (nI (T + cnt (fun k => nb (yF L k) m) k))), some (.int (nI (T + cnt (fun k => nb (yO L k) m) k))), some (.int (nI k)), some (.int (pr_b bF)), some (.int (pr_b (nb (yO L k) i))), some (.int (nI i))] [] h (I, M.2) (rp M (if w = 0 then nI (T + cnt (fun k => nb (yF L k) m) m) else nI (T + cnt (fun k => nb (yO L k) m) m), X)) := fun bF hbF => second bF _ rfl (fun bO' hbO' => by rw [hbF, hbO']; exact hh)
                cases cF : nb (yF L k) i with
                | false =>
                  have K1 := K2 false (by rw [u1, cF, Bool.false_and])
                  refine pr_seqT (pc' := 178) 2 rfl ⟨⟨trivial, trivial⟩, trivial⟩ ?_
                  try simp (disch := omega) only [lv, rSm, rI_mul, nI_add, nI_1, nI_clamp, pr_16_12345, pr_16_32767, pr_8_16, pr_8_m2, pr_i_0, pr_i_1, pr_i_4, pr_i_m1]
                  refine pr_icT rfl (fun h178 => ?_) (fun h178 => ?_)
                  · simp only [ab_cmp, pr_16_12345, pr_16_32767, pr_8_16, pr_8_m2, pr_i_0, pr_i_1, pr_i_4, pr_i_m1] at h178
                    exact absurd h178 e2
                  · simp only [ab_cmp, pr_16_12345, pr_16_32767, pr_8_16, pr_8_m2, pr_i_0, pr_i_1, pr_i_4, pr_i_m1] at h178
                    first
                    | contradiction
                    | exact absurd trivial h178
                    | exact absurd h178 (by decide)
                    | exact absurd (Classical.not_not.mp h178) (by decide)
                    | skip
                      refine pr_seqT (pc' := 183) 1 rfl ⟨trivial, trivial⟩ ?_
                      try simp (disch := omega) only [lv, rSm, rI_mul, nI_add, nI_1, nI_clamp, pr_16_12345, pr_16_32767, pr_8_16, pr_8_m2, pr_i_0, pr_i_1, pr_i_4, pr_i_m1]
                      refine pr_ifT rfl (fun h183 => ?_) (fun h183 => ?_)
                      · simp only [ab_cmp, pr_16_12345, pr_16_32767, pr_8_16, pr_8_m2, pr_i_0, pr_i_1, pr_i_4, pr_i_m1] at h183
                        first
                        | contradiction
                        | exact absurd trivial h183
                        | exact absurd h183 (by decide)
                        | exact absurd (Classical.not_not.mp h183) (by decide)
                        | skip
                          refine pr_seqT (pc' := 217) 2 rfl ⟨⟨trivial, trivial⟩, trivial⟩ ?_
                          try simp (disch := omega) only [lv, rSm, rI_mul, nI_add, nI_1, nI_clamp, pr_16_12345, pr_16_32767, pr_8_16, pr_8_m2, pr_i_0, pr_i_1, pr_i_4, pr_i_m1]
                          exact K1
                      · simp only [ab_cmp, pr_16_12345, pr_16_32767, pr_8_16, pr_8_m2, pr_i_0, pr_i_1, pr_i_4, pr_i_m1] at h183
                        exact absurd rfl h183
                | true =>
                  by_cases cik : i < k
                  · have z : ¬ nI k ≤ nI i := nI_ge cik (by omega)
                    by_cases cl : L i = L k
                    · have K1 := K2 false (by rw [u1, cF, decide_eq_true cik, decide_eq_true cl]; rfl)
                      refine pr_seqT (pc' := 178) 2 rfl ⟨⟨trivial, trivial⟩, trivial⟩ ?_
                      try simp (disch := omega) only [lv, rSm, rI_mul, nI_add, nI_1, nI_clamp, pr_16_12345, pr_16_32767, pr_8_16, pr_8_m2, pr_i_0, pr_i_1, pr_i_4, pr_i_m1]
                      refine pr_icT rfl (fun h178 => ?_) (fun h178 => ?_)
                      · simp only [ab_cmp, pr_16_12345, pr_16_32767, pr_8_16, pr_8_m2, pr_i_0, pr_i_1, pr_i_4, pr_i_m1] at h178
                        exact absurd h178 e2
                      · simp only [ab_cmp, pr_16_12345, pr_16_32767, pr_8_16, pr_8_m2, pr_i_0, pr_i_1, pr_i_4, pr_i_m1] at h178
                        first
                        | contradiction
                        | exact absurd trivial h178
                        | exact absurd h178 (by decide)
                        | exact absurd (Classical.not_not.mp h178) (by decide)
                        | skip
                          refine pr_seqT (pc' := 183) 1 rfl ⟨trivial, trivial⟩ ?_
                          try simp (disch := omega) only [lv, rSm, rI_mul, nI_add, nI_1, nI_clamp, pr_16_12345, pr_16_32767, pr_8_16, pr_8_m2, pr_i_0, pr_i_1, pr_i_4, pr_i_m1]
                          refine pr_ifT rfl (fun h183 => ?_) (fun h183 => ?_)
                          · simp only [ab_cmp, pr_16_12345, pr_16_32767, pr_8_16, pr_8_m2, pr_i_0, pr_i_1, pr_i_4, pr_i_m1] at h183
                            exact absurd h183 (by decide)
                          · simp only [ab_cmp, pr_16_12345, pr_16_32767, pr_8_16, pr_8_m2, pr_i_0, pr_i_1, pr_i_4, pr_i_m1] at h183
                            first
                            | contradiction
                            | exact absurd trivial h183
                            | exact absurd h183 (by decide)
                            | exact absurd (Classical.not_not.mp h183) (by decide)
                            | skip
                              refine pr_seqT (pc' := 190) 2 rfl ⟨⟨trivial, trivial⟩, trivial⟩ ?_
                              try simp (disch := omega) only [lv, rSm, rI_mul, nI_add, nI_1, nI_clamp, pr_16_12345, pr_16_32767, pr_8_16, pr_8_m2, pr_i_0, pr_i_1, pr_i_4, pr_i_m1]
                              refine pr_icT rfl (fun h190 => ?_) (fun h190 => ?_)
                              · simp only [ab_cmp, pr_16_12345, pr_16_32767, pr_8_16, pr_8_m2, pr_i_0, pr_i_1, pr_i_4, pr_i_m1] at h190
                                exact absurd h190 z
                              · simp only [ab_cmp, pr_16_12345, pr_16_32767, pr_8_16, pr_8_m2, pr_i_0, pr_i_1, pr_i_4, pr_i_m1] at h190
                                first
                                | contradiction
                                | exact absurd trivial h190
                                | exact absurd h190 (by decide)
                                | exact absurd (Classical.not_not.mp h190) (by decide)
                                | skip
                                  refine pr_seqT (pc' := 207) 8 rfl ⟨⟨⟨⟨⟨⟨⟨⟨trivial, (by first | decide | assumption)⟩, (by assumption)⟩, trivial⟩, (by (try simp (disch := omega) only [lv, rSm, rI_mul, nI_add, nI_1, nI_clamp, pr_16_12345, pr_16_32767, pr_8_16, pr_8_m2, pr_i_0, pr_i_1, pr_i_4, pr_i_m1]); exact ⟨Or.inl (by assumption), rvin (by assumption) (by omega) (by decide)⟩)⟩, (by first | decide | assumption)⟩, (by assumption)⟩, trivial⟩, (by (try simp (disch := omega) only [lv, rSm, rI_mul, nI_add, nI_1, nI_clamp, pr_16_12345, pr_16_32767, pr_8_16, pr_8_m2, pr_i_0, pr_i_1, pr_i_4, pr_i_m1]); exact ⟨Or.inl (by assumption), rvin (by assumption) (by omega) (by decide)⟩)⟩ ?_
                                  try simp (disch := omega) only [lv, rSm, rI_mul, nI_add, nI_1, nI_clamp, pr_16_12345, pr_16_32767, pr_8_16, pr_8_m2, pr_i_0, pr_i_1, pr_i_4, pr_i_m1]
                                  refine pr_icT rfl (fun h207 => ?_) (fun h207 => ?_)
                                  · simp only [ab_cmp, pr_16_12345, pr_16_32767, pr_8_16, pr_8_m2, pr_i_0, pr_i_1, pr_i_4, pr_i_m1] at h207
                                    first
                                    | contradiction
                                    | exact absurd trivial h207
                                    | exact absurd h207 (by decide)
                                    | exact absurd (Classical.not_not.mp h207) (by decide)
                                    | skip
                                      refine pr_seqT (pc' := 217) 2 rfl ⟨⟨trivial, trivial⟩, trivial⟩ ?_
                                      try simp (disch := omega) only [lv, rSm, rI_mul, nI_add, nI_1, nI_clamp, pr_16_12345, pr_16_32767, pr_8_16, pr_8_m2, pr_i_0, pr_i_1, pr_i_4, pr_i_m1]
                                      exact K1
                                  · simp only [ab_cmp, pr_16_12345, pr_16_32767, pr_8_16, pr_8_m2, pr_i_0, pr_i_1, pr_i_4, pr_i_m1] at h207
                                    exact absurd cl h207
                    · have K1 := K2 true (by rw [u1, cF, decide_eq_true cik, decide_eq_false cl]; rfl)
                      refine pr_seqT (pc' := 178) 2 rfl ⟨⟨trivial, trivial⟩, trivial⟩ ?_
                      try simp (disch := omega) only [lv, rSm, rI_mul, nI_add, nI_1, nI_clamp, pr_16_12345, pr_16_32767, pr_8_16, pr_8_m2, pr_i_0, pr_i_1, pr_i_4, pr_i_m1]
                      refine pr_icT rfl (fun h178 => ?_) (fun h178 => ?_)
                      · simp only [ab_cmp, pr_16_12345, pr_16_32767, pr_8_16, pr_8_m2, pr_i_0, pr_i_1, pr_i_4, pr_i_m1] at h178
                        exact absurd h178 e2
                      · simp only [ab_cmp, pr_16_12345, pr_16_32767, pr_8_16, pr_8_m2, pr_i_0, pr_i_1, pr_i_4, pr_i_m1] at h178
                        first
                        | contradiction
                        | exact absurd trivial h178
                        | exact absurd h178 (by decide)
                        | exact absurd (Classical.not_not.mp h178) (by decide)
                        | skip
                          refine pr_seqT (pc' := 183) 1 rfl ⟨trivial, trivial⟩ ?_
                          try simp (disch := omega) only [lv, rSm, rI_mul, nI_add, nI_1, nI_clamp, pr_16_12345, pr_16_32767, pr_8_16, pr_8_m2, pr_i_0, pr_i_1, pr_i_4, pr_i_m1]
                          refine pr_ifT rfl (fun h183 => ?_) (fun h183 => ?_)
                          · simp only [ab_cmp, pr_16_12345, pr_16_32767, pr_8_16, pr_8_m2, pr_i_0, pr_i_1, pr_i_4, pr_i_m1] at h183
                            exact absurd h183 (by decide)
                          · simp only [ab_cmp, pr_16_12345, pr_16_32767, pr_8_16, pr_8_m2, pr_i_0, pr_i_1, pr_i_4, pr_i_m1] at h183
                            first
                            | contradiction
                            | exact absurd trivial h183
                            | exact absurd h183 (by decide)
                            | exact absurd (Classical.not_not.mp h183) (by decide)
                            | skip
                              refine pr_seqT (pc' := 190) 2 rfl ⟨⟨trivial, trivial⟩, trivial⟩ ?_
                              try simp (disch := omega) only [lv, rSm, rI_mul, nI_add, nI_1, nI_clamp, pr_16_12345, pr_16_32767, pr_8_16, pr_8_m2, pr_i_0, pr_i_1, pr_i_4, pr_i_m1]
                              refine pr_icT rfl (fun h190 => ?_) (fun h190 => ?_)
                              · simp only [ab_cmp, pr_16_12345, pr_16_32767, pr_8_16, pr_8_m2, pr_i_0, pr_i_1, pr_i_4, pr_i_m1] at h190
                                exact absurd h190 z
                              · simp only [ab_cmp, pr_16_12345, pr_16_32767, pr_8_16, pr_8_m2, pr_i_0, pr_i_1, pr_i_4, pr_i_m1] at h190
                                first
                                | contradiction
                                | exact absurd trivial h190
                                | exact absurd h190 (by decide)
                                | exact absurd (Classical.not_not.mp h190) (by decide)
                                | skip
                                  refine pr_seqT (pc' := 207) 8 rfl ⟨⟨⟨⟨⟨⟨⟨⟨trivial, (by first | decide | assumption)⟩, (by assumption)⟩, trivial⟩, (by (try simp (disch := omega) only [lv, rSm, rI_mul, nI_add, nI_1, nI_clamp, pr_16_12345, pr_16_32767, pr_8_16, pr_8_m2, pr_i_0, pr_i_1, pr_i_4, pr_i_m1]); exact ⟨Or.inl (by assumption), rvin (by assumption) (by omega) (by decide)⟩)⟩, (by first | decide | assumption)⟩, (by assumption)⟩, trivial⟩, (by (try simp (disch := omega) only [lv, rSm, rI_mul, nI_add, nI_1, nI_clamp, pr_16_12345, pr_16_32767, pr_8_16, pr_8_m2, pr_i_0, pr_i_1, pr_i_4, pr_i_m1]); exact ⟨Or.inl (by assumption), rvin (by assumption) (by omega) (by decide)⟩)⟩ ?_
                                  try simp (disch := omega) only [lv, rSm, rI_mul, nI_add, nI_1, nI_clamp, pr_16_12345, pr_16_32767, pr_8_16, pr_8_m2, pr_i_0, pr_i_1, pr_i_4, pr_i_m1]
                                  refine pr_icT rfl (fun h207 => ?_) (fun h207 => ?_)
                                  · simp only [ab_cmp, pr_16_12345, pr_16_32767, pr_8_16, pr_8_m2, pr_i_0, pr_i_1, pr_i_4, pr_i_m1] at h207
                                    exact absurd h207 cl
                                  · simp only [ab_cmp, pr_16_12345, pr_16_32767, pr_8_16, pr_8_m2, pr_i_0, pr_i_1, pr_i_4, pr_i_m1] at h207
                                    first
                                    | contradiction
                                    | exact absurd trivial h207
                                    | exact absurd h207 (by decide)
                                    | exact absurd (Classical.not_not.mp h207) (by decide)
                                    | skip
                                      refine pr_seqT (pc' := 217) 3 rfl ⟨⟨⟨trivial, trivial⟩, trivial⟩, trivial⟩ ?_
                                      try simp (disch := omega) only [lv, rSm, rI_mul, nI_add, nI_1, nI_clamp, pr_16_12345, pr_16_32767, pr_8_16, pr_8_m2, pr_i_0, pr_i_1, pr_i_4, pr_i_m1]
                                      exact K1
                  · have z : nI k ≤ nI i := nI_le (by omega) (by omega)
                    have K1 := K2 true (by rw [u1, cF, decide_eq_false cik]; rfl)
                    refine pr_seqT (pc' := 178) 2 rfl ⟨⟨trivial, trivial⟩, trivial⟩ ?_
                    try simp (disch := omega) only [lv, rSm, rI_mul, nI_add, nI_1, nI_clamp, pr_16_12345, pr_16_32767, pr_8_16, pr_8_m2, pr_i_0, pr_i_1, pr_i_4, pr_i_m1]
                    refine pr_icT rfl (fun h178 => ?_) (fun h178 => ?_)
                    · simp only [ab_cmp, pr_16_12345, pr_16_32767, pr_8_16, pr_8_m2, pr_i_0, pr_i_1, pr_i_4, pr_i_m1] at h178
                      exact absurd h178 e2
                    · simp only [ab_cmp, pr_16_12345, pr_16_32767, pr_8_16, pr_8_m2, pr_i_0, pr_i_1, pr_i_4, pr_i_m1] at h178
                      first
                      | contradiction
                      | exact absurd trivial h178
                      | exact absurd h178 (by decide)
                      | exact absurd (Classical.not_not.mp h178) (by decide)
                      | skip
                        refine pr_seqT (pc' := 183) 1 rfl ⟨trivial, trivial⟩ ?_
                        try simp (disch := omega) only [lv, rSm, rI_mul, nI_add, nI_1, nI_clamp, pr_16_12345, pr_16_32767, pr_8_16, pr_8_m2, pr_i_0, pr_i_1, pr_i_4, pr_i_m1]
                        refine pr_ifT rfl (fun h183 => ?_) (fun h183 => ?_)
                        · simp only [ab_cmp, pr_16_12345, pr_16_32767, pr_8_16, pr_8_m2, pr_i_0, pr_i_1, pr_i_4, pr_i_m1] at h183
                          exact absurd h183 (by decide)
                        · simp only [ab_cmp, pr_16_12345, pr_16_32767, pr_8_16, pr_8_m2, pr_i_0, pr_i_1, pr_i_4, pr_i_m1] at h183
                          first
                          | contradiction
                          | exact absurd trivial h183
                          | exact absurd h183 (by decide)
                          | exact absurd (Classical.not_not.mp h183) (by decide)
                          | skip
                            refine pr_seqT (pc' := 190) 2 rfl ⟨⟨trivial, trivial⟩, trivial⟩ ?_
                            try simp (disch := omega) only [lv, rSm, rI_mul, nI_add, nI_1, nI_clamp, pr_16_12345, pr_16_32767, pr_8_16, pr_8_m2, pr_i_0, pr_i_1, pr_i_4, pr_i_m1]
                            refine pr_icT rfl (fun h190 => ?_) (fun h190 => ?_)
                            · simp only [ab_cmp, pr_16_12345, pr_16_32767, pr_8_16, pr_8_m2, pr_i_0, pr_i_1, pr_i_4, pr_i_m1] at h190
                              first
                              | contradiction
                              | exact absurd trivial h190
                              | exact absurd h190 (by decide)
                              | exact absurd (Classical.not_not.mp h190) (by decide)
                              | skip
                                refine pr_seqT (pc' := 217) 3 rfl ⟨⟨⟨trivial, trivial⟩, trivial⟩, trivial⟩ ?_
                                try simp (disch := omega) only [lv, rSm, rI_mul, nI_add, nI_1, nI_clamp, pr_16_12345, pr_16_32767, pr_8_16, pr_8_m2, pr_i_0, pr_i_1, pr_i_4, pr_i_m1]
                                exact K1
                            · simp only [ab_cmp, pr_16_12345, pr_16_32767, pr_8_16, pr_8_m2, pr_i_0, pr_i_1, pr_i_4, pr_i_m1] at h190
                              exact absurd z h190
            have h0 := inner m 0 (by omega)
            refine pr_seqT (pc' := 162) 2 rfl ⟨⟨trivial, trivial⟩, trivial⟩ ?_
            try simp (disch := omega) only [rSm, rI_mul, nI_add, nI_1, nI_clamp, pr_16_12345, pr_16_32767, pr_8_16, pr_8_m2, pr_i_0, pr_i_1, pr_i_4, pr_i_m1]
            refine pr_icT rfl (fun h162 => ?_) (fun h162 => ?_)
            · simp only [ab_cmp, pr_16_12345, pr_16_32767, pr_8_16, pr_8_m2, pr_i_0, pr_i_1, pr_i_4, pr_i_m1] at h162
              exact absurd h162 e1
            · simp only [ab_cmp, pr_16_12345, pr_16_32767, pr_8_16, pr_8_m2, pr_i_0, pr_i_1, pr_i_4, pr_i_m1] at h162
              first
              | contradiction
              | exact absurd trivial h162
              | exact absurd h162 (by decide)
              | exact absurd (Classical.not_not.mp h162) (by decide)
              | skip
                refine pr_seqT (pc' := 174) 6 rfl ⟨⟨⟨⟨⟨⟨trivial, trivial⟩, trivial⟩, trivial⟩, trivial⟩, trivial⟩, trivial⟩ ?_
                try simp (disch := omega) only [rSm, rI_mul, nI_add, nI_1, nI_clamp, pr_16_12345, pr_16_32767, pr_8_16, pr_8_m2, pr_i_0, pr_i_1, pr_i_4, pr_i_m1]
                exact h0
        have loop2 : ∀ dd i, i + dd = n → ∀ (I : Nat → Nat → Int32) z8 z9 z10 z11 z12, yr_i M X s (x_n X + i) I → pr_T pX11_year 96 [some (.ref 172), some (.int s), some (.int (nI n)), some (.int w), some (.int (nI (tw (yK X) (x_n X)))), some (.int (nI (nt (yK X) (x_n X + i)))), some (.int (yd s i)), some (.int (nI i)), z8, z9, z10, z11, z12] [] h (I, M.2) (rp M (if w = 0 then nI (cnt (fun p => nb (al (yS X s) (yK X) p) p) (x_n X + n)) else nI (cnt (fun p => decide (mk (al (yS X s) (yK X) p) (x_n X + n) = bt1 p)) (x_n X + n)), X)) := by
          intro dd
          induction dd with
          | zero =>
            intro i hi I z8 z9 z10 z11 z12 hI
            obtain rfl : i = n := by omega
            have e1 : nI i ≤ nI i := nI_le (Nat.le_refl _) (by omega)
            have f0 := fin I hI (nt (yK X) (x_n X + i)) 0 (by omega) (yd s i) z10 z11 z12
            refine pr_seqT (pc' := 99) 2 rfl ⟨⟨trivial, trivial⟩, trivial⟩ ?_
            try simp (disch := omega) only [rSm, rI_mul, nI_add, nI_1, nI_clamp, pr_16_12345, pr_16_32767, pr_8_16, pr_8_m2, pr_i_0, pr_i_1, pr_i_4, pr_i_m1]
            refine pr_icT rfl (fun h99 => ?_) (fun h99 => ?_)
            · simp only [ab_cmp, pr_16_12345, pr_16_32767, pr_8_16, pr_8_m2, pr_i_0, pr_i_1, pr_i_4, pr_i_m1] at h99
              first
              | contradiction
              | exact absurd trivial h99
              | exact absurd h99 (by decide)
              | exact absurd (Classical.not_not.mp h99) (by decide)
              | skip
                refine pr_seqT (pc' := 158) 6 rfl ⟨⟨⟨⟨⟨⟨trivial, trivial⟩, trivial⟩, trivial⟩, trivial⟩, trivial⟩, trivial⟩ ?_
                try simp (disch := omega) only [rSm, rI_mul, nI_add, nI_1, nI_clamp, pr_16_12345, pr_16_32767, pr_8_16, pr_8_m2, pr_i_0, pr_i_1, pr_i_4, pr_i_m1]
                exact f0
            · simp only [ab_cmp, pr_16_12345, pr_16_32767, pr_8_16, pr_8_m2, pr_i_0, pr_i_1, pr_i_4, pr_i_m1] at h99
              exact absurd e1 h99
          | succ dd ih =>
            intro i hi I z8 z9 z10 z11 z12 hI
            have e1 : ¬ nI n ≤ nI i := nI_ge (by omega) (by omega)
            have hkc : yK X (x_n X + i) ≠ 4 := by rw [yK_at]; decide
            have l1' : I 172 2 = nI X.1.2.1.length := by rw [hI.1 172 (by decide)]; exact l1
            have hx : yx X s i < X.1.2.1.length := Nat.mod_lt _ lt0
            have yvb : yv (yd s (i + 1)) < 2 ^ 31 := by unfold yv; omega
            have er : nI (yv (yd s (i + 1))) - nI (yv (yd s (i + 1))) / nI X.1.2.1.length * nI X.1.2.1.length = nI (yx X s i) := nI_rem yvb (by omega)
            have hpg : pg_r (I 173) X.1.1 := by rw [hI.1 173 (by decide)]; exact hv.1
            have hls := q_listSum (X := X) h (I, M.2) hl hpg (by show ls_r (I 174) X.1.2.1; rw [hI.1 174 (by decide)]; exact l3) l2 hx
            have hi2 := yr_s1 (v := nI (x_ls X (yx X s i))) hI hkc yS_at.symm
            have hnb : nt (yK X) (x_n X + i) < 28 := by have := hnt (x_n X + i); omega
            have hh := ih (i + 1) (by omega) _ z8 z9 z10 z11 z12 hi2
            rw [show x_n X + (i + 1) = x_n X + i + 1 by omega, (nt_1 hkc).1] at hh
            have eyd : yd s i * Int32.ofNat 1103515245 + 12345 = yd s (i + 1) := rfl
            have c16 : yd s (i + 1) >>> ((16 : Int32) &&& 31) &&& 32767 = nI (yv (yd s (i + 1))) := yv_s _
            refine pr_seqT (pc' := 99) 2 rfl ⟨⟨trivial, trivial⟩, trivial⟩ ?_
            try simp (disch := omega) only [eyd, c16, l1', er, rSm, rI_mul, nI_add, nI_1, nI_clamp, pr_16_12345, pr_16_32767, pr_8_16, pr_8_m2, pr_i_0, pr_i_1, pr_i_4, pr_i_m1]
            refine pr_icT rfl (fun h99 => ?_) (fun h99 => ?_)
            · simp only [ab_cmp, pr_16_12345, pr_16_32767, pr_8_16, pr_8_m2, pr_i_0, pr_i_1, pr_i_4, pr_i_m1] at h99
              exact absurd h99 e1
            · simp only [ab_cmp, pr_16_12345, pr_16_32767, pr_8_16, pr_8_m2, pr_i_0, pr_i_1, pr_i_4, pr_i_m1] at h99
              skip
              refine pr_seqT (pc' := 134) 18 rfl ⟨⟨⟨⟨⟨⟨⟨⟨⟨⟨⟨⟨⟨⟨⟨⟨⟨⟨trivial, trivial⟩, trivial⟩, trivial⟩, trivial⟩, trivial⟩, trivial⟩, (by first | decide | assumption)⟩, (by assumption)⟩, trivial⟩, (by first | decide | assumption)⟩, trivial⟩, trivial⟩, trivial⟩, trivial⟩, trivial⟩, (by first | decide | assumption)⟩, (by assumption)⟩, (by first | assumption | decide | (simp (disch := omega) only [eyd, c16, l1', er, rSm, rI_mul, nI_add, nI_1, nI_clamp, pr_16_12345, pr_16_32767, pr_8_16, pr_8_m2, pr_i_0, pr_i_1, pr_i_4, pr_i_m1]; first | assumption | exact ⟨Or.inl (by assumption), rvin (by assumption) (by omega) (by decide)⟩ | exact ⟨by assumption, rvin (by assumption) (by omega) (by decide)⟩ | exact ⟨⟨by omega, by omega⟩, rvin (by assumption) (by omega) (by decide)⟩ | exact ⟨Or.inr (by assumption), rvin (by assumption) (by omega) (by decide)⟩ | exact ⟨Or.inr ⟨by assumption, (by first | exact Or.inl rfl | exact Or.inr rfl | exact pr_b01 _)⟩, rvin (by assumption) (by omega) (by decide)⟩ | exact ⟨by assumption, by assumption⟩ | decide | omega))⟩ ?_
              try simp (disch := omega) only [eyd, c16, l1', er, rSm, rI_mul, nI_add, nI_1, nI_clamp, pr_16_12345, pr_16_32767, pr_8_16, pr_8_m2, pr_i_0, pr_i_1, pr_i_4, pr_i_m1]
              refine pr_cvT [_] rfl rfl rfl rfl rfl (Nat.le_of_ble_eq_true rfl) (by first | assumption | decide | (simp (disch := omega) only [eyd, c16, l1', er, rSm, rI_mul, nI_add, nI_1, nI_clamp, pr_16_12345, pr_16_32767, pr_8_16, pr_8_m2, pr_i_0, pr_i_1, pr_i_4, pr_i_m1]; first | assumption | exact ⟨Or.inl (by assumption), rvin (by assumption) (by omega) (by decide)⟩ | exact ⟨by assumption, rvin (by assumption) (by omega) (by decide)⟩ | exact ⟨⟨by omega, by omega⟩, rvin (by assumption) (by omega) (by decide)⟩ | exact ⟨Or.inr (by assumption), rvin (by assumption) (by omega) (by decide)⟩ | exact ⟨Or.inr ⟨by assumption, (by first | exact Or.inl rfl | exact Or.inr rfl | exact pr_b01 _)⟩, rvin (by assumption) (by omega) (by decide)⟩ | exact ⟨by assumption, by assumption⟩ | decide | omega)) (Nat.le_of_ble_eq_true rfl) (hls) ?_
              refine pr_seqT (pc' := 96) 4 rfl ⟨⟨⟨⟨trivial, (by (try simp (disch := omega) only [eyd, c16, l1', er, rSm, rI_mul, nI_add, nI_1, nI_clamp, pr_16_12345, pr_16_32767, pr_8_16, pr_8_m2, pr_i_0, pr_i_1, pr_i_4, pr_i_m1]); exact ⟨by assumption, rvin (by assumption) (by omega) (by decide)⟩)⟩, trivial⟩, trivial⟩, trivial⟩ ?_
              try simp (disch := omega) only [eyd, c16, l1', er, rSm, rI_mul, nI_add, nI_1, nI_clamp, pr_16_12345, pr_16_32767, pr_8_16, pr_8_m2, pr_i_0, pr_i_1, pr_i_4, pr_i_m1]
              exact hh
        have loop1 : ∀ dd p, p + dd = x_n X → ∀ (I : Nat → Nat → Int32) z7 z8 z9 z10 z11 z12, yr_i M X s p I → pr_T pX11_year 43 [some (.ref 172), some (.int s), some (.int (nI n)), some (.int w), some (.int (nI (tw (yK X) p))), some (.int (nI (nt (yK X) p))), some (.int (nI p)), z7, z8, z9, z10, z11, z12] [] h (I, M.2) (rp M (if w = 0 then nI (cnt (fun p => nb (al (yS X s) (yK X) p) p) (x_n X + n)) else nI (cnt (fun p => decide (mk (al (yS X s) (yK X) p) (x_n X + n) = bt1 p)) (x_n X + n)), X)) := by
          intro dd
          induction dd with
          | zero =>
            intro p hp I z7 z8 z9 z10 z11 z12 hI
            obtain rfl : p = x_n X := by omega
            have hpg : pg_r (I 173) X.1.1 := by rw [hI.1 173 (by decide)]; exact hv.1
            have hpe := q_people h (I, M.2) hl hpg
            have e1 : nI X.1.1.2.1.length ≤ nI (x_n X) := nI_le (Nat.le_refl _) (by omega)
            have f0 := loop2 n 0 (by omega) I z8 z9 z10 z11 z12 hI
            refine pr_seqT (pc' := 46) 2 rfl ⟨⟨trivial, trivial⟩, (by first | decide | assumption)⟩ ?_
            try simp (disch := omega) only [rSm, rI_mul, nI_add, nI_1, nI_clamp, pr_16_12345, pr_16_32767, pr_8_16, pr_8_m2, pr_i_0, pr_i_1, pr_i_4, pr_i_m1]
            refine pr_cvT [] rfl rfl rfl rfl rfl (Nat.le_of_ble_eq_true rfl) (by first | assumption | decide | (simp (disch := omega) only [rSm, rI_mul, nI_add, nI_1, nI_clamp, pr_16_12345, pr_16_32767, pr_8_16, pr_8_m2, pr_i_0, pr_i_1, pr_i_4, pr_i_m1]; first | assumption | exact ⟨Or.inl (by assumption), rvin (by assumption) (by omega) (by decide)⟩ | exact ⟨by assumption, rvin (by assumption) (by omega) (by decide)⟩ | exact ⟨⟨by omega, by omega⟩, rvin (by assumption) (by omega) (by decide)⟩ | exact ⟨Or.inr (by assumption), rvin (by assumption) (by omega) (by decide)⟩ | exact ⟨Or.inr ⟨by assumption, (by first | exact Or.inl rfl | exact Or.inr rfl | exact pr_b01 _)⟩, rvin (by assumption) (by omega) (by decide)⟩ | exact ⟨by assumption, by assumption⟩ | decide | omega)) (Nat.le_of_ble_eq_true rfl) (hpe) ?_
            refine pr_icT rfl (fun h49 => ?_) (fun h49 => ?_)
            · simp only [ab_cmp, pr_16_12345, pr_16_32767, pr_8_16, pr_8_m2, pr_i_0, pr_i_1, pr_i_4, pr_i_m1] at h49
              first
              | contradiction
              | exact absurd trivial h49
              | exact absurd h49 (by decide)
              | exact absurd (Classical.not_not.mp h49) (by decide)
              | skip
                refine pr_seqT (pc' := 96) 4 rfl ⟨⟨⟨⟨trivial, trivial⟩, trivial⟩, trivial⟩, trivial⟩ ?_
                try simp (disch := omega) only [rSm, rI_mul, nI_add, nI_1, nI_clamp, pr_16_12345, pr_16_32767, pr_8_16, pr_8_m2, pr_i_0, pr_i_1, pr_i_4, pr_i_m1]
                exact f0
            · simp only [ab_cmp, pr_16_12345, pr_16_32767, pr_8_16, pr_8_m2, pr_i_0, pr_i_1, pr_i_4, pr_i_m1] at h49
              exact absurd e1 h49
          | succ dd ih =>
            intro p hp I z7 z8 z9 z10 z11 z12 hI
            have hpn : p < x_n X := by omega
            have hpn' : p < X.1.1.2.1.length := hpn
            have hpg : pg_r (I 173) X.1.1 := by rw [hI.1 173 (by decide)]; exact hv.1
            have hpe := q_people h (I, M.2) hl hpg
            have hki := q_kindOf h (I, M.2) hl hpg hpn'
            have hsu := q_sumOf h (I, M.2) hl hpg hpn'
            have e1 : ¬ nI X.1.1.2.1.length ≤ nI p := nI_ge hpn' (by have : X.1.1.2.1.length ≤ 8 := g2; omega)
            have hnb : nt (yK X) p < 28 := by have := hnt p; omega
            have hKp := yK_lt hpn
            by_cases c4' : x_K X p = 4
            · have z : nI (d_pn X.1.1 p).1 = nI 4 := by rw [show (d_pn X.1.1 p).1 = 4 from c4']
              have hk4 : yK X p = 4 := by rw [hKp]; exact c4'
              have hh := ih (p + 1) (by omega) I z7 z8 z9 z10 z11 z12 (yr_s0 hI hk4)
              rw [(nt_0 hk4).1, (nt_0 hk4).2] at hh
              refine pr_seqT (pc' := 46) 2 rfl ⟨⟨trivial, trivial⟩, (by first | decide | assumption)⟩ ?_
              try simp (disch := omega) only [c4, rSm, rI_mul, nI_add, nI_1, nI_clamp, pr_16_12345, pr_16_32767, pr_8_16, pr_8_m2, pr_i_0, pr_i_1, pr_i_4, pr_i_m1]
              refine pr_cvT [] rfl rfl rfl rfl rfl (Nat.le_of_ble_eq_true rfl) (by first | assumption | decide | (simp (disch := omega) only [c4, rSm, rI_mul, nI_add, nI_1, nI_clamp, pr_16_12345, pr_16_32767, pr_8_16, pr_8_m2, pr_i_0, pr_i_1, pr_i_4, pr_i_m1]; first | assumption | exact ⟨Or.inl (by assumption), rvin (by assumption) (by omega) (by decide)⟩ | exact ⟨by assumption, rvin (by assumption) (by omega) (by decide)⟩ | exact ⟨⟨by omega, by omega⟩, rvin (by assumption) (by omega) (by decide)⟩ | exact ⟨Or.inr (by assumption), rvin (by assumption) (by omega) (by decide)⟩ | exact ⟨Or.inr ⟨by assumption, (by first | exact Or.inl rfl | exact Or.inr rfl | exact pr_b01 _)⟩, rvin (by assumption) (by omega) (by decide)⟩ | exact ⟨by assumption, by assumption⟩ | decide | omega)) (Nat.le_of_ble_eq_true rfl) (hpe) ?_
              refine pr_icT rfl (fun h49 => ?_) (fun h49 => ?_)
              · simp only [ab_cmp, pr_16_12345, pr_16_32767, pr_8_16, pr_8_m2, pr_i_0, pr_i_1, pr_i_4, pr_i_m1] at h49
                exact absurd h49 e1
              · simp only [ab_cmp, pr_16_12345, pr_16_32767, pr_8_16, pr_8_m2, pr_i_0, pr_i_1, pr_i_4, pr_i_m1] at h49
                first
                | contradiction
                | exact absurd trivial h49
                | exact absurd h49 (by decide)
                | exact absurd (Classical.not_not.mp h49) (by decide)
                | skip
                  refine pr_seqT (pc' := 55) 2 rfl ⟨⟨trivial, (by first | decide | assumption)⟩, trivial⟩ ?_
                  try simp (disch := omega) only [c4, rSm, rI_mul, nI_add, nI_1, nI_clamp, pr_16_12345, pr_16_32767, pr_8_16, pr_8_m2, pr_i_0, pr_i_1, pr_i_4, pr_i_m1]
                  refine pr_cvT [_] rfl rfl rfl rfl rfl (Nat.le_of_ble_eq_true rfl) (by first | assumption | decide | (simp (disch := omega) only [c4, rSm, rI_mul, nI_add, nI_1, nI_clamp, pr_16_12345, pr_16_32767, pr_8_16, pr_8_m2, pr_i_0, pr_i_1, pr_i_4, pr_i_m1]; first | assumption | exact ⟨Or.inl (by assumption), rvin (by assumption) (by omega) (by decide)⟩ | exact ⟨by assumption, rvin (by assumption) (by omega) (by decide)⟩ | exact ⟨⟨by omega, by omega⟩, rvin (by assumption) (by omega) (by decide)⟩ | exact ⟨Or.inr (by assumption), rvin (by assumption) (by omega) (by decide)⟩ | exact ⟨Or.inr ⟨by assumption, (by first | exact Or.inl rfl | exact Or.inr rfl | exact pr_b01 _)⟩, rvin (by assumption) (by omega) (by decide)⟩ | exact ⟨by assumption, by assumption⟩ | decide | omega)) (Nat.le_of_ble_eq_true rfl) (hki) ?_
                  refine pr_seqT (pc' := 59) 1 rfl ⟨trivial, trivial⟩ ?_
                  try simp (disch := omega) only [c4, rSm, rI_mul, nI_add, nI_1, nI_clamp, pr_16_12345, pr_16_32767, pr_8_16, pr_8_m2, pr_i_0, pr_i_1, pr_i_4, pr_i_m1]
                  refine pr_icT rfl (fun h59 => ?_) (fun h59 => ?_)
                  · simp only [ab_cmp, pr_16_12345, pr_16_32767, pr_8_16, pr_8_m2, pr_i_0, pr_i_1, pr_i_4, pr_i_m1] at h59
                    exact absurd z h59
                  · simp only [ab_cmp, pr_16_12345, pr_16_32767, pr_8_16, pr_8_m2, pr_i_0, pr_i_1, pr_i_4, pr_i_m1] at h59
                    first
                    | contradiction
                    | exact absurd trivial h59
                    | exact absurd h59 (by decide)
                    | exact absurd (Classical.not_not.mp h59) (by decide)
                    | skip
                      refine pr_seqT (pc' := 43) 4 rfl ⟨⟨⟨⟨trivial, trivial⟩, trivial⟩, trivial⟩, trivial⟩ ?_
                      try simp (disch := omega) only [c4, rSm, rI_mul, nI_add, nI_1, nI_clamp, pr_16_12345, pr_16_32767, pr_8_16, pr_8_m2, pr_i_0, pr_i_1, pr_i_4, pr_i_m1]
                      exact hh
            · have z : ¬ nI (d_pn X.1.1 p).1 = nI 4 := nI_ne c4' (by have := (hv.1.2.2.2.2.2.2.2 p hpn').2.1; omega) (by decide)
              have hk4 : yK X p ≠ 4 := by rw [hKp]; exact c4'
              have hh := ih (p + 1) (by omega) _ z7 z8 z9 z10 z11 z12 (yr_s1 (v := nI (d_S X.1.1 p)) hI hk4 (yS_lt hpn).symm)
              rw [(nt_1 hk4).1, (nt_1 hk4).2] at hh
              refine pr_seqT (pc' := 46) 2 rfl ⟨⟨trivial, trivial⟩, (by first | decide | assumption)⟩ ?_
              try simp (disch := omega) only [c4, rSm, rI_mul, nI_add, nI_1, nI_clamp, pr_16_12345, pr_16_32767, pr_8_16, pr_8_m2, pr_i_0, pr_i_1, pr_i_4, pr_i_m1]
              refine pr_cvT [] rfl rfl rfl rfl rfl (Nat.le_of_ble_eq_true rfl) (by first | assumption | decide | (simp (disch := omega) only [c4, rSm, rI_mul, nI_add, nI_1, nI_clamp, pr_16_12345, pr_16_32767, pr_8_16, pr_8_m2, pr_i_0, pr_i_1, pr_i_4, pr_i_m1]; first | assumption | exact ⟨Or.inl (by assumption), rvin (by assumption) (by omega) (by decide)⟩ | exact ⟨by assumption, rvin (by assumption) (by omega) (by decide)⟩ | exact ⟨⟨by omega, by omega⟩, rvin (by assumption) (by omega) (by decide)⟩ | exact ⟨Or.inr (by assumption), rvin (by assumption) (by omega) (by decide)⟩ | exact ⟨Or.inr ⟨by assumption, (by first | exact Or.inl rfl | exact Or.inr rfl | exact pr_b01 _)⟩, rvin (by assumption) (by omega) (by decide)⟩ | exact ⟨by assumption, by assumption⟩ | decide | omega)) (Nat.le_of_ble_eq_true rfl) (hpe) ?_
              refine pr_icT rfl (fun h49 => ?_) (fun h49 => ?_)
              · simp only [ab_cmp, pr_16_12345, pr_16_32767, pr_8_16, pr_8_m2, pr_i_0, pr_i_1, pr_i_4, pr_i_m1] at h49
                exact absurd h49 e1
              · simp only [ab_cmp, pr_16_12345, pr_16_32767, pr_8_16, pr_8_m2, pr_i_0, pr_i_1, pr_i_4, pr_i_m1] at h49
                first
                | contradiction
                | exact absurd trivial h49
                | exact absurd h49 (by decide)
                | exact absurd (Classical.not_not.mp h49) (by decide)
                | skip
                  refine pr_seqT (pc' := 55) 2 rfl ⟨⟨trivial, (by first | decide | assumption)⟩, trivial⟩ ?_
                  try simp (disch := omega) only [c4, rSm, rI_mul, nI_add, nI_1, nI_clamp, pr_16_12345, pr_16_32767, pr_8_16, pr_8_m2, pr_i_0, pr_i_1, pr_i_4, pr_i_m1]
                  refine pr_cvT [_] rfl rfl rfl rfl rfl (Nat.le_of_ble_eq_true rfl) (by first | assumption | decide | (simp (disch := omega) only [c4, rSm, rI_mul, nI_add, nI_1, nI_clamp, pr_16_12345, pr_16_32767, pr_8_16, pr_8_m2, pr_i_0, pr_i_1, pr_i_4, pr_i_m1]; first | assumption | exact ⟨Or.inl (by assumption), rvin (by assumption) (by omega) (by decide)⟩ | exact ⟨by assumption, rvin (by assumption) (by omega) (by decide)⟩ | exact ⟨⟨by omega, by omega⟩, rvin (by assumption) (by omega) (by decide)⟩ | exact ⟨Or.inr (by assumption), rvin (by assumption) (by omega) (by decide)⟩ | exact ⟨Or.inr ⟨by assumption, (by first | exact Or.inl rfl | exact Or.inr rfl | exact pr_b01 _)⟩, rvin (by assumption) (by omega) (by decide)⟩ | exact ⟨by assumption, by assumption⟩ | decide | omega)) (Nat.le_of_ble_eq_true rfl) (hki) ?_
                  refine pr_seqT (pc' := 59) 1 rfl ⟨trivial, trivial⟩ ?_
                  try simp (disch := omega) only [c4, rSm, rI_mul, nI_add, nI_1, nI_clamp, pr_16_12345, pr_16_32767, pr_8_16, pr_8_m2, pr_i_0, pr_i_1, pr_i_4, pr_i_m1]
                  refine pr_icT rfl (fun h59 => ?_) (fun h59 => ?_)
                  · simp only [ab_cmp, pr_16_12345, pr_16_32767, pr_8_16, pr_8_m2, pr_i_0, pr_i_1, pr_i_4, pr_i_m1] at h59
                    first
                    | contradiction
                    | exact absurd trivial h59
                    | exact absurd h59 (by decide)
                    | exact absurd (Classical.not_not.mp h59) (by decide)
                    | skip
                      refine pr_seqT (pc' := 77) 5 rfl ⟨⟨⟨⟨⟨trivial, (by first | decide | assumption)⟩, (by assumption)⟩, trivial⟩, (by first | decide | assumption)⟩, trivial⟩ ?_
                      try simp (disch := omega) only [c4, rSm, rI_mul, nI_add, nI_1, nI_clamp, pr_16_12345, pr_16_32767, pr_8_16, pr_8_m2, pr_i_0, pr_i_1, pr_i_4, pr_i_m1]
                      refine pr_cvT [_] rfl rfl rfl rfl rfl (Nat.le_of_ble_eq_true rfl) (by first | assumption | decide | (simp (disch := omega) only [c4, rSm, rI_mul, nI_add, nI_1, nI_clamp, pr_16_12345, pr_16_32767, pr_8_16, pr_8_m2, pr_i_0, pr_i_1, pr_i_4, pr_i_m1]; first | assumption | exact ⟨Or.inl (by assumption), rvin (by assumption) (by omega) (by decide)⟩ | exact ⟨by assumption, rvin (by assumption) (by omega) (by decide)⟩ | exact ⟨⟨by omega, by omega⟩, rvin (by assumption) (by omega) (by decide)⟩ | exact ⟨Or.inr (by assumption), rvin (by assumption) (by omega) (by decide)⟩ | exact ⟨Or.inr ⟨by assumption, (by first | exact Or.inl rfl | exact Or.inr rfl | exact pr_b01 _)⟩, rvin (by assumption) (by omega) (by decide)⟩ | exact ⟨by assumption, by assumption⟩ | decide | omega)) (Nat.le_of_ble_eq_true rfl) (hsu) ?_
                      refine pr_seqT (pc' := 43) 4 rfl ⟨⟨⟨⟨trivial, (by (try simp (disch := omega) only [c4, rSm, rI_mul, nI_add, nI_1, nI_clamp, pr_16_12345, pr_16_32767, pr_8_16, pr_8_m2, pr_i_0, pr_i_1, pr_i_4, pr_i_m1]); exact ⟨by assumption, rvin (by assumption) (by omega) (by decide)⟩)⟩, trivial⟩, trivial⟩, trivial⟩ ?_
                      try simp (disch := omega) only [c4, rSm, rI_mul, nI_add, nI_1, nI_clamp, pr_16_12345, pr_16_32767, pr_8_16, pr_8_m2, pr_i_0, pr_i_1, pr_i_4, pr_i_m1]
                      exact hh
                  · simp only [ab_cmp, pr_16_12345, pr_16_32767, pr_8_16, pr_8_m2, pr_i_0, pr_i_1, pr_i_4, pr_i_m1] at h59
                    exact absurd (Classical.not_not.mp h59) z
        have h0 := loop1 (x_n X) 0 (by omega) M.1 none none none none none none ⟨fun _ _ => rfl, fun p hp => absurd hp (by omega)⟩
        refine pr_seqT (pc' := 6) 4 rfl ⟨⟨⟨⟨trivial, trivial⟩, trivial⟩, trivial⟩, trivial⟩ ?_
        try simp (disch := omega) only [l1, rSm, rI_mul, nI_add, nI_1, nI_clamp, pr_16_12345, pr_16_32767, pr_8_16, pr_8_m2, pr_i_0, pr_i_1, pr_i_4, pr_i_m1]
        refine pr_csT [_, _, _] rfl rfl rfl rfl rfl (Nat.le_of_ble_eq_true rfl) (Nat.le_of_ble_eq_true rfl) (h1) ?_
        refine pr_ifT rfl (fun h9 => ?_) (fun h9 => ?_)
        · simp only [ab_cmp, pr_16_12345, pr_16_32767, pr_8_16, pr_8_m2, pr_i_0, pr_i_1, pr_i_4, pr_i_m1] at h9
          exact absurd h9 (by decide)
        · simp only [ab_cmp, pr_16_12345, pr_16_32767, pr_8_16, pr_8_m2, pr_i_0, pr_i_1, pr_i_4, pr_i_m1] at h9
          first
          | contradiction
          | exact absurd trivial h9
          | exact absurd h9 (by decide)
          | exact absurd (Classical.not_not.mp h9) (by decide)
          | skip
            refine pr_seqT (pc' := 16) 4 rfl ⟨⟨⟨⟨trivial, trivial⟩, trivial⟩, trivial⟩, trivial⟩ ?_
            try simp (disch := omega) only [l1, rSm, rI_mul, nI_add, nI_1, nI_clamp, pr_16_12345, pr_16_32767, pr_8_16, pr_8_m2, pr_i_0, pr_i_1, pr_i_4, pr_i_m1]
            refine pr_csT [_, _, _] rfl rfl rfl rfl rfl (Nat.le_of_ble_eq_true rfl) (Nat.le_of_ble_eq_true rfl) (h2) ?_
            refine pr_ifT rfl (fun h19 => ?_) (fun h19 => ?_)
            · simp only [ab_cmp, pr_16_12345, pr_16_32767, pr_8_16, pr_8_m2, pr_i_0, pr_i_1, pr_i_4, pr_i_m1] at h19
              first
              | contradiction
              | exact absurd trivial h19
              | exact absurd h19 (by decide)
              | exact absurd (Classical.not_not.mp h19) (by decide)
              | skip
                refine pr_seqT (pc' := 28) 2 rfl ⟨⟨trivial, (by first | decide | assumption)⟩, (by assumption)⟩ ?_
                try simp (disch := omega) only [l1, rSm, rI_mul, nI_add, nI_1, nI_clamp, pr_16_12345, pr_16_32767, pr_8_16, pr_8_m2, pr_i_0, pr_i_1, pr_i_4, pr_i_m1]
                refine pr_ifT rfl (fun h28 => ?_) (fun h28 => ?_)
                · simp only [ab_cmp, pr_16_12345, pr_16_32767, pr_8_16, pr_8_m2, pr_i_0, pr_i_1, pr_i_4, pr_i_m1] at h28
                  first
                  | contradiction
                  | exact absurd trivial h28
                  | exact absurd h28 (by decide)
                  | exact absurd (Classical.not_not.mp h28) (by decide)
                  | skip
                    refine pr_seqT (pc' := 43) 6 rfl ⟨⟨⟨⟨⟨⟨trivial, trivial⟩, trivial⟩, trivial⟩, trivial⟩, trivial⟩, trivial⟩ ?_
                    try simp (disch := omega) only [l1, rSm, rI_mul, nI_add, nI_1, nI_clamp, pr_16_12345, pr_16_32767, pr_8_16, pr_8_m2, pr_i_0, pr_i_1, pr_i_4, pr_i_m1]
                    exact h0
                · simp only [ab_cmp, pr_16_12345, pr_16_32767, pr_8_16, pr_8_m2, pr_i_0, pr_i_1, pr_i_4, pr_i_m1] at h28
                  exact absurd (Classical.not_not.mp h28) e0
            · simp only [ab_cmp, pr_16_12345, pr_16_32767, pr_8_16, pr_8_m2, pr_i_0, pr_i_1, pr_i_4, pr_i_m1] at h19
              exact absurd (Classical.not_not.mp h19) (by decide)
