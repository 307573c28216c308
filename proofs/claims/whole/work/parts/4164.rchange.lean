
/-! ===== the reference: change, rid ===== -/
theorem sfA_b (f : Nat → Nat) : ∀ d, (∀ j, j < d → f j ≤ 40 * (j + 1)) → sfA f d 0 ≤ 20 * (d * (d + 1))
  | 0, _ => by show 0 ≤ _; omega
  | d + 1, h => by
    have ih := sfA_b f d (fun j hj => h j (by omega))
    have h1 := h d (by omega)
    rw [sfA_last, Nat.zero_add]
    have : (d + 1) * (d + 1 + 1) = d * (d + 1) + 2 * (d + 1) := by
      rw [Nat.add_mul, Nat.mul_add]
      omega
    omega
theorem sq_le {d : Nat} (h : d ≤ 20) : 20 * (d * (d + 1)) ≤ 8400 := by
  have : d * (d + 1) ≤ 20 * 21 := Nat.mul_le_mul h (by omega)
  omega
theorem x_sh_b {X : St} {F : Nat → Int32} {p : Nat} (hv : pg_r F X.1.1) (hp : p < X.1.1.2.1.length) (r : Nat → Nat) {d : Nat} (hd : d ≤ (x_nm X p).length) (hr : vr (x_c X p) r 0 d) : sfA (fun j => x_sh X p j (r j)) d 0 ≤ 8400 := by
  obtain ⟨y1, y2, y3, y4, y5, y6, y7, y8, y9⟩ := hv.2.2.2.2.2.2.2 p hp
  refine Nat.le_trans (sfA_b _ d (fun j hj => ?_)) (sq_le (Nat.le_trans hd y8))
  have h1 := hr j (Nat.zero_le _) (by omega)
  have h2 : (x_nm X p).getD j 0 < 26 := (y9 j (by show j < (x_nm X p).length; omega)).2
  have h3 : x_c X p j ≤ 4 := by
    show (if 25 - (x_nm X p).getD j 0 < 3 then 25 - (x_nm X p).getD j 0 else 3) + 1 ≤ 4
    split <;> omega
  exact rS_b (kind := (d_pn X.1.1 p).1) (w := x_nm X p) hv ((rC_m h2 (by omega)).mp h1) (by have : (x_nm X p).length ≤ 20 := y8; omega)
theorem dl_hi {X : St} {F : Nat → Int32} {p s : Nat} (hv : pg_r F X.1.1) (hp : p < X.1.1.2.1.length) (h : x_dl X p s < 100000) : s < 8401 := by
  obtain ⟨e1, e2, e3⟩ := gEnd (c := x_c X p) (sh := x_sh X p) (n := (x_nm X p).length) (s := s) h
  have := x_sh_b hv hp _ (Nat.le_refl _) e3
  omega
theorem rv_same {I I' : Nat → Nat → Int32} {X : St} (hv : rv I X) (h : ∀ a, a ≠ 182 → a ≠ 183 → I' a = I a) : rv I' X := by
  rw [← wLd_id X]
  exact rv_land hv (fun a _ _ a3 a4 => h a a3 a4) (by rw [h 173 (by decide) (by decide)]; exact hv.1) (fun j _ _ => by rw [h 173 (by decide) (by decide)])
theorem chg_w0 {X : St} {M : ab_M} {I : Nat → Nat → Int32} {p s : Nat} {z4 z5 z6 z7 : Option Value} (h : ab_H) (hl : rL h M.2.2) (hv : rv M.1 X) (hp : p < X.1.1.2.1.length) (hs : s ≤ 9999) (cd : x_dl X p s < 100000) (f1 : ∀ a, a ≠ 182 → I a = M.1 a) (f2 : ∀ j, j ≤ (x_nm X p).length → lv_r I (x_c X p) (x_sh X p) (x_nm X p).length j) : pr_T pX11_change 51 [some (.ref 172), some (.int (nI p)), some (.int (nI s)), some (.int 0), z4, z5, z6, z7] [] h (I, M.2) (rp M (nI (X.1.1.2.2.2 * x_dl X p s), X)) := by
  obtain ⟨k172, rS, rLs, rKn, rPg, rRl, rRk, rTp, rCu, rLe, rLt, rSm, rIk, rLn, rLg, rCe, ⟨kS, nS⟩, ⟨kLs, nLs⟩, ⟨kKn, nKn⟩, ⟨kPg, nPg⟩, ⟨kRl, nRl⟩, ⟨kRk, nRk⟩, ⟨kTp, nTp⟩, ⟨kCu, nCu⟩, ⟨kLe, nLe⟩, ⟨kLt, nLt⟩, ⟨kSm, nSm⟩, ⟨kIk, nIk⟩, ⟨kLn, nLn⟩, ⟨kLg, nLg⟩, kCe, nCe⟩ := id hl
  have c8401 : (8401 : Int32) = nI 8401 := rfl
  have n100 : Int32.ofNat 100000 = nI 100000 := rfl
  have g2 : X.1.1.2.1.length ≤ 8 := hv.1.2.1
  have c := dl_hi hv.1 hp cd
  have e1 : ¬ nI 8401 ≤ nI s := nI_ge c (by decide)
  have e2 : nI (x_dl X p s) < nI 100000 := nI_lt cd (by decide)
  have z : I 182 s = nI (x_dl X p s) := by
    have := f2 0 (Nat.zero_le _) s c
    rw [show 8401 * 0 + s = s by omega] at this
    exact this
  have hfe := q_feeNow h (I, M.2) hl (show pg_r (I 173) X.1.1 by rw [f1 173 (by decide)]; exact hv.1)
  have fin : rp M (nI (X.1.1.2.2.2 * x_dl X p s), X) (some (.int (nI (X.1.1.2.2.2 * x_dl X p s)))) (I, M.2.1, M.2.2) := rp_I (rv_same hv (fun a a1 _ => f1 a a1)) (fun a ha => f1 a (by omega))
  have ec : nI (x_dl X p s) * nI X.1.1.2.2.2 = nI (X.1.1.2.2.2 * x_dl X p s) := by rw [rI_mul, Nat.mul_comm]
  refine pr_seqT (pc' := 55) 2 rfl ⟨⟨trivial, trivial⟩, trivial⟩ ?_
  try simp (disch := omega) only [c8401, n100, z, rLt, rS, rI_mul, nI_add, nI_1, nI_clamp, c24, pr_16_8401, pr_8_10, pr_8_24, pr_8_9, pr_8_m4, pr_i_0, pr_i_1, pr_i_4, pr_i_m1]
  refine pr_icT rfl (fun h55 => ?_) (fun h55 => ?_)
  · simp only [ab_cmp, pr_16_8401, pr_8_10, pr_8_24, pr_8_9, pr_8_m4, pr_i_0, pr_i_1, pr_i_4, pr_i_m1] at h55
    exact absurd h55 e1
  · simp only [ab_cmp, pr_16_8401, pr_8_10, pr_8_24, pr_8_9, pr_8_m4, pr_i_0, pr_i_1, pr_i_4, pr_i_m1] at h55
    first
    | contradiction
    | exact absurd trivial h55
    | exact absurd h55 (by decide)
    | exact absurd (Classical.not_not.mp h55) (by decide)
    | skip
      refine pr_seqT (pc' := 66) 5 rfl ⟨⟨⟨⟨⟨trivial, (by first | decide | assumption)⟩, (by assumption)⟩, trivial⟩, (by (try simp (disch := omega) only [c8401, n100, z, rLt, rS, rI_mul, nI_add, nI_1, nI_clamp, c24, pr_16_8401, pr_8_10, pr_8_24, pr_8_9, pr_8_m4, pr_i_0, pr_i_1, pr_i_4, pr_i_m1]); exact ⟨Or.inl (by assumption), rvin (by assumption) (by omega) (by decide)⟩)⟩, trivial⟩ ?_
      try simp (disch := omega) only [c8401, n100, z, rLt, rS, rI_mul, nI_add, nI_1, nI_clamp, c24, pr_16_8401, pr_8_10, pr_8_24, pr_8_9, pr_8_m4, pr_i_0, pr_i_1, pr_i_4, pr_i_m1]
      refine pr_icT rfl (fun h66 => ?_) (fun h66 => ?_)
      · simp only [ab_cmp, pr_16_8401, pr_8_10, pr_8_24, pr_8_9, pr_8_m4, pr_i_0, pr_i_1, pr_i_4, pr_i_m1] at h66
        first
        | contradiction
        | exact absurd trivial h66
        | exact absurd h66 (by decide)
        | exact absurd (Classical.not_not.mp h66) (by decide)
        | skip
          refine pr_seqT (pc' := 73) 1 rfl ⟨trivial, trivial⟩ ?_
          try simp (disch := omega) only [c8401, n100, z, rLt, rS, rI_mul, nI_add, nI_1, nI_clamp, c24, pr_16_8401, pr_8_10, pr_8_24, pr_8_9, pr_8_m4, pr_i_0, pr_i_1, pr_i_4, pr_i_m1]
          refine pr_ifT rfl (fun h73 => ?_) (fun h73 => ?_)
          · simp only [ab_cmp, pr_16_8401, pr_8_10, pr_8_24, pr_8_9, pr_8_m4, pr_i_0, pr_i_1, pr_i_4, pr_i_m1] at h73
            exact absurd trivial h73
          · simp only [ab_cmp, pr_16_8401, pr_8_10, pr_8_24, pr_8_9, pr_8_m4, pr_i_0, pr_i_1, pr_i_4, pr_i_m1] at h73
            first
            | contradiction
            | exact absurd trivial h73
            | exact absurd h73 (by decide)
            | exact absurd (Classical.not_not.mp h73) (by decide)
            | skip
              refine pr_seqT (pc' := 83) 5 rfl ⟨⟨⟨⟨⟨trivial, (by first | decide | assumption)⟩, (by assumption)⟩, trivial⟩, (by (try simp (disch := omega) only [c8401, n100, z, rLt, rS, rI_mul, nI_add, nI_1, nI_clamp, c24, pr_16_8401, pr_8_10, pr_8_24, pr_8_9, pr_8_m4, pr_i_0, pr_i_1, pr_i_4, pr_i_m1]); exact ⟨Or.inl (by assumption), rvin (by assumption) (by omega) (by decide)⟩)⟩, (by first | decide | assumption)⟩ ?_
              try simp (disch := omega) only [c8401, n100, z, rLt, rS, rI_mul, nI_add, nI_1, nI_clamp, c24, pr_16_8401, pr_8_10, pr_8_24, pr_8_9, pr_8_m4, pr_i_0, pr_i_1, pr_i_4, pr_i_m1]
              refine pr_cvT [] rfl rfl rfl rfl rfl (Nat.le_of_ble_eq_true rfl) (by first | assumption | decide | (simp (disch := omega) only [c8401, n100, z, rLt, rS, rI_mul, nI_add, nI_1, nI_clamp, c24, pr_16_8401, pr_8_10, pr_8_24, pr_8_9, pr_8_m4, pr_i_0, pr_i_1, pr_i_4, pr_i_m1]; first | assumption | exact ⟨Or.inl (by assumption), rvin (by assumption) (by omega) (by decide)⟩ | exact ⟨by assumption, rvin (by assumption) (by omega) (by decide)⟩ | exact ⟨⟨by omega, by omega⟩, rvin (by assumption) (by omega) (by decide)⟩ | exact ⟨Or.inr (by assumption), rvin (by assumption) (by omega) (by decide)⟩ | exact ⟨Or.inr ⟨by assumption, (by first | exact Or.inl rfl | exact Or.inr rfl | exact pr_b01 _)⟩, rvin (by assumption) (by omega) (by decide)⟩ | exact ⟨by assumption, by assumption⟩ | decide | omega)) (Nat.le_of_ble_eq_true rfl) (hfe) ?_
              refine pr_seqT (pc' := 87) 1 rfl ⟨trivial, trivial⟩ ?_
              try simp (disch := omega) only [c8401, n100, z, rLt, rS, rI_mul, nI_add, nI_1, nI_clamp, c24, pr_16_8401, pr_8_10, pr_8_24, pr_8_9, pr_8_m4, pr_i_0, pr_i_1, pr_i_4, pr_i_m1]
              exact pr_irT rfl trivial (by rw [Nat.mul_comm (x_dl X p s)]; exact fin)
      · simp only [ab_cmp, pr_16_8401, pr_8_10, pr_8_24, pr_8_9, pr_8_m4, pr_i_0, pr_i_1, pr_i_4, pr_i_m1] at h66
        exact absurd e2 h66
theorem chg_w1 {X : St} {M : ab_M} {I : Nat → Nat → Int32} {p s k : Nat} {z4 z5 z6 z7 : Option Value} (h : ab_H) (hl : rL h M.2.2) (hv : rv M.1 X) (hp : p < X.1.1.2.1.length) (hk : k < (x_nm X p).length) (hs : s ≤ 9999) (cd : x_dl X p s < 100000) (f1 : ∀ a, a ≠ 182 → I a = M.1 a) (f2 : ∀ j, j ≤ (x_nm X p).length → lv_r I (x_c X p) (x_sh X p) (x_nm X p).length j) : pr_T pX11_change 51 [some (.ref 172), some (.int (nI p)), some (.int (nI s)), some (.int (nI (k + 10))), z4, z5, z6, z7] [] h (I, M.2) (rp M (nI ((x_nm X p).getD k 0 + x_gr X p s k), X)) := by
  obtain ⟨k172, rS, rLs, rKn, rPg, rRl, rRk, rTp, rCu, rLe, rLt, rSm, rIk, rLn, rLg, rCe, ⟨kS, nS⟩, ⟨kLs, nLs⟩, ⟨kKn, nKn⟩, ⟨kPg, nPg⟩, ⟨kRl, nRl⟩, ⟨kRk, nRk⟩, ⟨kTp, nTp⟩, ⟨kCu, nCu⟩, ⟨kLe, nLe⟩, ⟨kLt, nLt⟩, ⟨kSm, nSm⟩, ⟨kIk, nIk⟩, ⟨kLn, nLn⟩, ⟨kLg, nLg⟩, kCe, nCe⟩ := id hl
  have c8401 : (8401 : Int32) = nI 8401 := rfl
  have n100 : Int32.ofNat 100000 = nI 100000 := rfl
  have g2 : X.1.1.2.1.length ≤ 8 := hv.1.2.1
  have c := dl_hi hv.1 hp cd
  have e1 : ¬ nI 8401 ≤ nI s := nI_ge c (by decide)
  have e2 : nI (x_dl X p s) < nI 100000 := nI_lt cd (by decide)
  have z : I 182 s = nI (x_dl X p s) := by
    have := f2 0 (Nat.zero_le _) s c
    rw [show 8401 * 0 + s = s by omega] at this
    exact this
  have hpg : pg_r (I 173) X.1.1 := by rw [f1 173 (by decide)]; exact hv.1
  obtain ⟨y1, y2, y3, y4, y5, y6, y7, y8, y9⟩ := hpg.2.2.2.2.2.2.2 p hp
  have y8 : (x_nm X p).length ≤ 20 := y8
  have y9 : ∀ j, j < (x_nm X p).length → I 173 (24 * p + 4 + j) = nI ((x_nm X p).getD j 0) ∧ (x_nm X p).getD j 0 < 26 := y9
  have fin : rp M (nI ((x_nm X p).getD k 0 + x_gr X p s k), X) (some (.int (nI ((x_nm X p).getD k 0 + x_gr X p s k)))) (I, M.2.1, M.2.2) := rp_I (rv_same hv (fun a a1 _ => f1 a a1)) (fun a ha => f1 a (by omega))
  have hA := gA (c := x_c X p) (sh := x_sh X p) (n := (x_nm X p).length) (s := s) cd
  have em : nI (k + 10) - 10 = nI k := nI_m10 k
  have hkz : ¬ nI (k + 10) = 0 := nI_ne0 (by omega) (by omega)
  have loop : ∀ dd i, i + dd = k + 1 → ∀ lv z7, (0 < i → lv = nI ((x_nm X p).getD (i - 1) 0 + x_gr X p s (i - 1))) → pr_T pX11_change 97 [some (.ref 172), some (.int (nI p)), some (.int (nI s)), some (.int (nI (k + 10))), some (.int (nI (gL (x_c X p) (x_sh X p) (x_nm X p).length s i))), some (.int lv), some (.int (nI i)), z7] [] h (I, M.2) (rp M (nI ((x_nm X p).getD k 0 + x_gr X p s k), X)) := by
    intro dd
    induction dd with
    | zero =>
      intro i hi lv z7 hlv
      obtain rfl : i = k + 1 := by omega
      obtain rfl := hlv (by omega)
      have e3 : nI k < nI (k + 1) := nI_lt (by omega) (by omega)
      refine pr_seqT (pc' := 103) 4 rfl ⟨⟨⟨⟨trivial, trivial⟩, trivial⟩, trivial⟩, trivial⟩ ?_
      try simp (disch := omega) only [em, rLt, rS, rI_mul, nI_add, nI_1, nI_clamp, c24, pr_16_8401, pr_8_10, pr_8_24, pr_8_9, pr_8_m4, pr_i_0, pr_i_1, pr_i_4, pr_i_m1]
      refine pr_icT rfl (fun h103 => ?_) (fun h103 => ?_)
      · simp only [ab_cmp, pr_16_8401, pr_8_10, pr_8_24, pr_8_9, pr_8_m4, pr_i_0, pr_i_1, pr_i_4, pr_i_m1] at h103
        first
        | contradiction
        | exact absurd trivial h103
        | exact absurd h103 (by decide)
        | exact absurd (Classical.not_not.mp h103) (by decide)
        | skip
          refine pr_seqT (pc' := 188) 1 rfl ⟨trivial, trivial⟩ ?_
          try simp (disch := omega) only [em, rLt, rS, rI_mul, nI_add, nI_1, nI_clamp, c24, pr_16_8401, pr_8_10, pr_8_24, pr_8_9, pr_8_m4, pr_i_0, pr_i_1, pr_i_4, pr_i_m1]
          exact pr_irT rfl trivial (by exact fin)
      · simp only [ab_cmp, pr_16_8401, pr_8_10, pr_8_24, pr_8_9, pr_8_m4, pr_i_0, pr_i_1, pr_i_4, pr_i_m1] at h103
        exact absurd e3 h103
    | succ dd ih =>
      intro i hi lv z7 hlv
      have hin : i < (x_nm X p).length := by omega
      have e3 : ¬ nI k < nI i := nI_nlt (by omega) (by omega)
      obtain ⟨a1, a2, a3, a4⟩ := hA i (by omega)
      obtain ⟨b1, b2, b3, b4⟩ := hA (i + 1) (by omega)
      have hgs : gL (x_c X p) (x_sh X p) (x_nm X p).length s (i + 1) = gL (x_c X p) (x_sh X p) (x_nm X p).length s i - x_sh X p i (x_gr X p s i) := rfl
      have hgr : x_gr X p s i = dM (x_c X p) (x_sh X p) ((x_nm X p).length - i - 1) i (gL (x_c X p) (x_sh X p) (x_nm X p).length s i) := rfl
      have hrow := f2 i (by omega)
      have hrow1 := f2 (i + 1) (by omega)
      generalize hg : gL (x_c X p) (x_sh X p) (x_nm X p).length s i = g at *
      have hg8 : g < 8401 := by omega
      have hd1 : (x_nm X p).length - i = ((x_nm X p).length - i - 1) + 1 := by omega
      rw [hd1] at a1
      obtain ⟨m1, m2, m3⟩ := dM_spec (c := x_c X p) (sh := x_sh X p) _ i g a1
      rw [← hgr] at m1 m2 m3
      have hz := hrow g hg8
      rw [hd1] at hz
      obtain ⟨t1, t2, t3⟩ := dB_lt m1 a1
      have hl26 : (x_nm X p).getD i 0 + x_gr X p s i < 26 := (rC_m (y9 i hin).2 m2).mp t1
      have b9 := (y9 i hin).1
      have bb := rS_b (kind := (d_pn X.1.1 p).1) (w := x_nm X p) (i := i) (m := x_gr X p s i) hpg hl26 (by omega)
      have hdL := dL_b (x_c X p) (x_sh X p) ((x_nm X p).length - i - 1 + 1) i g
      have hki := q_kindOf h (I, M.2) hl hpg hp
      have hco := q_counts (l := (x_nm X p).getD i 0 + x_gr X p s i) (i := i) (kind := (d_pn X.1.1 p).1) h (I, M.2) hl hpg hl26 (by omega) (by omega)
      rw [show a_w X.1.1.2.2.1 (d_pn X.1.1 p).1 ((x_nm X p).getD i 0 + x_gr X p s i) i * X.1.1.1 ((x_nm X p).getD i 0 + x_gr X p s i) = x_sh X p i (x_gr X p s i) from rfl] at hco
      have hsub : nI g - nI (x_sh X p i (x_gr X p s i)) = nI (g - x_sh X p i (x_gr X p s i)) := i_sub t2
      have hh := ih (i + 1) (by omega) (nI ((x_nm X p).getD i 0 + x_gr X p s i)) (some (.int (nI (x_gr X p s i)))) (fun _ => by rw [Nat.add_sub_cancel])
      rw [hgs] at hh
      have inner : ∀ gg m, m + gg = x_gr X p s i → pr_T pX11_change 109 [some (.ref 172), some (.int (nI p)), some (.int (nI s)), some (.int (nI (k + 10))), some (.int (nI g)), some (.int lv), some (.int (nI i)), some (.int (nI m))] [] h (I, M.2) (rp M (nI ((x_nm X p).getD k 0 + x_gr X p s k), X)) := by
        intro gg
        induction gg with
        | zero =>
          intro m hm
          obtain rfl : m = x_gr X p s i := by omega
          have hlb : pr_C pX11_leastBy [.ref 172, .int (nI p), .int (nI i), .int (nI g), .int (nI (x_gr X p s i))] h (I, M.2) (some (.int (nI (dB (x_c X p) (x_sh X p) (dL (x_c X p) (x_sh X p) ((x_nm X p).length - i - 1)) i g (x_gr X p s i))))) h (I, M.2) := q_leastBy h (I, M.2) hl hpg hp hin hg8 m2 hrow1
          rw [m1] at hlb
          refine pr_seqT (pc' := 117) 5 rfl ⟨⟨⟨⟨⟨trivial, (by first | decide | assumption)⟩, trivial⟩, trivial⟩, trivial⟩, trivial⟩ ?_
          try simp (disch := omega) only [c8401, c4, hz, b9, hsub, rLt, rS, rI_mul, nI_add, nI_1, nI_clamp, c24, pr_16_8401, pr_8_10, pr_8_24, pr_8_9, pr_8_m4, pr_i_0, pr_i_1, pr_i_4, pr_i_m1]
          refine pr_cvT [_, _, _, _] rfl rfl rfl rfl rfl (Nat.le_of_ble_eq_true rfl) (by first | assumption | decide | (simp (disch := omega) only [c8401, c4, hz, b9, hsub, rLt, rS, rI_mul, nI_add, nI_1, nI_clamp, c24, pr_16_8401, pr_8_10, pr_8_24, pr_8_9, pr_8_m4, pr_i_0, pr_i_1, pr_i_4, pr_i_m1]; first | assumption | exact ⟨Or.inl (by assumption), rvin (by assumption) (by omega) (by decide)⟩ | exact ⟨by assumption, rvin (by assumption) (by omega) (by decide)⟩ | exact ⟨⟨by omega, by omega⟩, rvin (by assumption) (by omega) (by decide)⟩ | exact ⟨Or.inr (by assumption), rvin (by assumption) (by omega) (by decide)⟩ | exact ⟨Or.inr ⟨by assumption, (by first | exact Or.inl rfl | exact Or.inr rfl | exact pr_b01 _)⟩, rvin (by assumption) (by omega) (by decide)⟩ | exact ⟨by assumption, by assumption⟩ | decide | omega)) (Nat.le_of_ble_eq_true rfl) (hlb) ?_
          refine pr_seqT (pc' := 134) 8 rfl ⟨⟨⟨⟨⟨⟨⟨⟨trivial, (by first | decide | assumption)⟩, (by assumption)⟩, trivial⟩, trivial⟩, trivial⟩, trivial⟩, trivial⟩, (by (try simp (disch := omega) only [c8401, c4, hz, b9, hsub, rLt, rS, rI_mul, nI_add, nI_1, nI_clamp, c24, pr_16_8401, pr_8_10, pr_8_24, pr_8_9, pr_8_m4, pr_i_0, pr_i_1, pr_i_4, pr_i_m1]); exact ⟨Or.inl (by assumption), rvin (by assumption) (by omega) (by decide)⟩)⟩ ?_
          try simp (disch := omega) only [c8401, c4, hz, b9, hsub, rLt, rS, rI_mul, nI_add, nI_1, nI_clamp, c24, pr_16_8401, pr_8_10, pr_8_24, pr_8_9, pr_8_m4, pr_i_0, pr_i_1, pr_i_4, pr_i_m1]
          refine pr_icT rfl (fun h134 => ?_) (fun h134 => ?_)
          · simp only [ab_cmp, pr_16_8401, pr_8_10, pr_8_24, pr_8_9, pr_8_m4, pr_i_0, pr_i_1, pr_i_4, pr_i_m1] at h134
            first
            | contradiction
            | exact absurd trivial h134
            | exact absurd h134 (by decide)
            | exact absurd (Classical.not_not.mp h134) (by decide)
            | skip
              refine pr_seqT (pc' := 171) 19 rfl ⟨⟨⟨⟨⟨⟨⟨⟨⟨⟨⟨⟨⟨⟨⟨⟨⟨⟨⟨trivial, (by first | decide | assumption)⟩, (by assumption)⟩, trivial⟩, trivial⟩, trivial⟩, trivial⟩, trivial⟩, trivial⟩, trivial⟩, (by (try simp (disch := omega) only [c8401, c4, hz, b9, hsub, rLt, rS, rI_mul, nI_add, nI_1, nI_clamp, c24, pr_16_8401, pr_8_10, pr_8_24, pr_8_9, pr_8_m4, pr_i_0, pr_i_1, pr_i_4, pr_i_m1]); exact ⟨Or.inl (by assumption), rvin (by assumption) (by omega) (by decide)⟩)⟩, trivial⟩, trivial⟩, trivial⟩, trivial⟩, (by first | decide | assumption)⟩, trivial⟩, trivial⟩, (by first | decide | assumption)⟩, trivial⟩ ?_
              try simp (disch := omega) only [c8401, c4, hz, b9, hsub, rLt, rS, rI_mul, nI_add, nI_1, nI_clamp, c24, pr_16_8401, pr_8_10, pr_8_24, pr_8_9, pr_8_m4, pr_i_0, pr_i_1, pr_i_4, pr_i_m1]
              refine pr_cvT [_] rfl rfl rfl rfl rfl (Nat.le_of_ble_eq_true rfl) (by first | assumption | decide | (simp (disch := omega) only [c8401, c4, hz, b9, hsub, rLt, rS, rI_mul, nI_add, nI_1, nI_clamp, c24, pr_16_8401, pr_8_10, pr_8_24, pr_8_9, pr_8_m4, pr_i_0, pr_i_1, pr_i_4, pr_i_m1]; first | assumption | exact ⟨Or.inl (by assumption), rvin (by assumption) (by omega) (by decide)⟩ | exact ⟨by assumption, rvin (by assumption) (by omega) (by decide)⟩ | exact ⟨⟨by omega, by omega⟩, rvin (by assumption) (by omega) (by decide)⟩ | exact ⟨Or.inr (by assumption), rvin (by assumption) (by omega) (by decide)⟩ | exact ⟨Or.inr ⟨by assumption, (by first | exact Or.inl rfl | exact Or.inr rfl | exact pr_b01 _)⟩, rvin (by assumption) (by omega) (by decide)⟩ | exact ⟨by assumption, by assumption⟩ | decide | omega)) (Nat.le_of_ble_eq_true rfl) (hki) ?_
              refine pr_cvT [_, _, _] rfl rfl rfl rfl rfl (Nat.le_of_ble_eq_true rfl) (by first | assumption | decide | (simp (disch := omega) only [c8401, c4, hz, b9, hsub, rLt, rS, rI_mul, nI_add, nI_1, nI_clamp, c24, pr_16_8401, pr_8_10, pr_8_24, pr_8_9, pr_8_m4, pr_i_0, pr_i_1, pr_i_4, pr_i_m1]; first | assumption | exact ⟨Or.inl (by assumption), rvin (by assumption) (by omega) (by decide)⟩ | exact ⟨by assumption, rvin (by assumption) (by omega) (by decide)⟩ | exact ⟨⟨by omega, by omega⟩, rvin (by assumption) (by omega) (by decide)⟩ | exact ⟨Or.inr (by assumption), rvin (by assumption) (by omega) (by decide)⟩ | exact ⟨Or.inr ⟨by assumption, (by first | exact Or.inl rfl | exact Or.inr rfl | exact pr_b01 _)⟩, rvin (by assumption) (by omega) (by decide)⟩ | exact ⟨by assumption, by assumption⟩ | decide | omega)) (Nat.le_of_ble_eq_true rfl) (hco) ?_
              refine pr_seqT (pc' := 97) 4 rfl ⟨⟨⟨⟨trivial, trivial⟩, trivial⟩, trivial⟩, trivial⟩ ?_
              try simp (disch := omega) only [c8401, c4, hz, b9, hsub, rLt, rS, rI_mul, nI_add, nI_1, nI_clamp, c24, pr_16_8401, pr_8_10, pr_8_24, pr_8_9, pr_8_m4, pr_i_0, pr_i_1, pr_i_4, pr_i_m1]
              exact hh
          · simp only [ab_cmp, pr_16_8401, pr_8_10, pr_8_24, pr_8_9, pr_8_m4, pr_i_0, pr_i_1, pr_i_4, pr_i_m1] at h134
            exact absurd trivial h134
        | succ gg ih2 =>
          intro m hm
          have hlb : pr_C pX11_leastBy [.ref 172, .int (nI p), .int (nI i), .int (nI g), .int (nI m)] h (I, M.2) (some (.int (nI (dB (x_c X p) (x_sh X p) (dL (x_c X p) (x_sh X p) ((x_nm X p).length - i - 1)) i g m)))) h (I, M.2) := q_leastBy h (I, M.2) hl hpg hp hin hg8 (by omega) hrow1
          have bm := dB_le (c := x_c X p) (sh := x_sh X p) (d := (x_nm X p).length - i - 1) (i := i) (s := g) (m := m) (by omega)
          have hne : ¬ nI (dB (x_c X p) (x_sh X p) (dL (x_c X p) (x_sh X p) ((x_nm X p).length - i - 1)) i g m) = nI (dL (x_c X p) (x_sh X p) ((x_nm X p).length - i - 1 + 1) i g) := nI_ne (fun q => by have := m3 m (by omega) q; omega) (by omega) (by omega)
          refine pr_seqT (pc' := 117) 5 rfl ⟨⟨⟨⟨⟨trivial, (by first | decide | assumption)⟩, trivial⟩, trivial⟩, trivial⟩, trivial⟩ ?_
          try simp (disch := omega) only [c8401, hz, rLt, rS, rI_mul, nI_add, nI_1, nI_clamp, c24, pr_16_8401, pr_8_10, pr_8_24, pr_8_9, pr_8_m4, pr_i_0, pr_i_1, pr_i_4, pr_i_m1]
          refine pr_cvT [_, _, _, _] rfl rfl rfl rfl rfl (Nat.le_of_ble_eq_true rfl) (by first | assumption | decide | (simp (disch := omega) only [c8401, hz, rLt, rS, rI_mul, nI_add, nI_1, nI_clamp, c24, pr_16_8401, pr_8_10, pr_8_24, pr_8_9, pr_8_m4, pr_i_0, pr_i_1, pr_i_4, pr_i_m1]; first | assumption | exact ⟨Or.inl (by assumption), rvin (by assumption) (by omega) (by decide)⟩ | exact ⟨by assumption, rvin (by assumption) (by omega) (by decide)⟩ | exact ⟨⟨by omega, by omega⟩, rvin (by assumption) (by omega) (by decide)⟩ | exact ⟨Or.inr (by assumption), rvin (by assumption) (by omega) (by decide)⟩ | exact ⟨Or.inr ⟨by assumption, (by first | exact Or.inl rfl | exact Or.inr rfl | exact pr_b01 _)⟩, rvin (by assumption) (by omega) (by decide)⟩ | exact ⟨by assumption, by assumption⟩ | decide | omega)) (Nat.le_of_ble_eq_true rfl) (hlb) ?_
          refine pr_seqT (pc' := 134) 8 rfl ⟨⟨⟨⟨⟨⟨⟨⟨trivial, (by first | decide | assumption)⟩, (by assumption)⟩, trivial⟩, trivial⟩, trivial⟩, trivial⟩, trivial⟩, (by (try simp (disch := omega) only [c8401, hz, rLt, rS, rI_mul, nI_add, nI_1, nI_clamp, c24, pr_16_8401, pr_8_10, pr_8_24, pr_8_9, pr_8_m4, pr_i_0, pr_i_1, pr_i_4, pr_i_m1]); exact ⟨Or.inl (by assumption), rvin (by assumption) (by omega) (by decide)⟩)⟩ ?_
          try simp (disch := omega) only [c8401, hz, rLt, rS, rI_mul, nI_add, nI_1, nI_clamp, c24, pr_16_8401, pr_8_10, pr_8_24, pr_8_9, pr_8_m4, pr_i_0, pr_i_1, pr_i_4, pr_i_m1]
          refine pr_icT rfl (fun h134 => ?_) (fun h134 => ?_)
          · simp only [ab_cmp, pr_16_8401, pr_8_10, pr_8_24, pr_8_9, pr_8_m4, pr_i_0, pr_i_1, pr_i_4, pr_i_m1] at h134
            exact absurd h134 hne
          · simp only [ab_cmp, pr_16_8401, pr_8_10, pr_8_24, pr_8_9, pr_8_m4, pr_i_0, pr_i_1, pr_i_4, pr_i_m1] at h134
            first
            | contradiction
            | exact absurd trivial h134
            | exact absurd h134 (by decide)
            | exact absurd (Classical.not_not.mp h134) (by decide)
            | skip
              refine pr_seqT (pc' := 109) 2 rfl ⟨⟨trivial, trivial⟩, trivial⟩ ?_
              try simp (disch := omega) only [c8401, hz, rLt, rS, rI_mul, nI_add, nI_1, nI_clamp, c24, pr_16_8401, pr_8_10, pr_8_24, pr_8_9, pr_8_m4, pr_i_0, pr_i_1, pr_i_4, pr_i_m1]
              exact ih2 (m + 1) (by omega)
      refine pr_seqT (pc' := 103) 4 rfl ⟨⟨⟨⟨trivial, trivial⟩, trivial⟩, trivial⟩, trivial⟩ ?_
      try simp (disch := omega) only [em, rLt, rS, rI_mul, nI_add, nI_1, nI_clamp, c24, pr_16_8401, pr_8_10, pr_8_24, pr_8_9, pr_8_m4, pr_i_0, pr_i_1, pr_i_4, pr_i_m1]
      refine pr_icT rfl (fun h103 => ?_) (fun h103 => ?_)
      · simp only [ab_cmp, pr_16_8401, pr_8_10, pr_8_24, pr_8_9, pr_8_m4, pr_i_0, pr_i_1, pr_i_4, pr_i_m1] at h103
        exact absurd h103 e3
      · simp only [ab_cmp, pr_16_8401, pr_8_10, pr_8_24, pr_8_9, pr_8_m4, pr_i_0, pr_i_1, pr_i_4, pr_i_m1] at h103
        first
        | contradiction
        | exact absurd trivial h103
        | exact absurd h103 (by decide)
        | exact absurd (Classical.not_not.mp h103) (by decide)
        | skip
          refine pr_seqT (pc' := 109) 2 rfl ⟨⟨trivial, trivial⟩, trivial⟩ ?_
          try simp (disch := omega) only [em, rLt, rS, rI_mul, nI_add, nI_1, nI_clamp, c24, pr_16_8401, pr_8_10, pr_8_24, pr_8_9, pr_8_m4, pr_i_0, pr_i_1, pr_i_4, pr_i_m1]
          exact inner (x_gr X p s i) 0 (by omega)
  have h0 := loop (k + 1) 0 (by omega) 0 z7 (fun q => absurd q (by omega))
  refine pr_seqT (pc' := 55) 2 rfl ⟨⟨trivial, trivial⟩, trivial⟩ ?_
  try simp (disch := omega) only [c8401, n100, z, rLt, rS, rI_mul, nI_add, nI_1, nI_clamp, c24, pr_16_8401, pr_8_10, pr_8_24, pr_8_9, pr_8_m4, pr_i_0, pr_i_1, pr_i_4, pr_i_m1]
  refine pr_icT rfl (fun h55 => ?_) (fun h55 => ?_)
  · simp only [ab_cmp, pr_16_8401, pr_8_10, pr_8_24, pr_8_9, pr_8_m4, pr_i_0, pr_i_1, pr_i_4, pr_i_m1] at h55
    exact absurd h55 e1
  · simp only [ab_cmp, pr_16_8401, pr_8_10, pr_8_24, pr_8_9, pr_8_m4, pr_i_0, pr_i_1, pr_i_4, pr_i_m1] at h55
    first
    | contradiction
    | exact absurd trivial h55
    | exact absurd h55 (by decide)
    | exact absurd (Classical.not_not.mp h55) (by decide)
    | skip
      refine pr_seqT (pc' := 66) 5 rfl ⟨⟨⟨⟨⟨trivial, (by first | decide | assumption)⟩, (by assumption)⟩, trivial⟩, (by (try simp (disch := omega) only [c8401, n100, z, rLt, rS, rI_mul, nI_add, nI_1, nI_clamp, c24, pr_16_8401, pr_8_10, pr_8_24, pr_8_9, pr_8_m4, pr_i_0, pr_i_1, pr_i_4, pr_i_m1]); exact ⟨Or.inl (by assumption), rvin (by assumption) (by omega) (by decide)⟩)⟩, trivial⟩ ?_
      try simp (disch := omega) only [c8401, n100, z, rLt, rS, rI_mul, nI_add, nI_1, nI_clamp, c24, pr_16_8401, pr_8_10, pr_8_24, pr_8_9, pr_8_m4, pr_i_0, pr_i_1, pr_i_4, pr_i_m1]
      refine pr_icT rfl (fun h66 => ?_) (fun h66 => ?_)
      · simp only [ab_cmp, pr_16_8401, pr_8_10, pr_8_24, pr_8_9, pr_8_m4, pr_i_0, pr_i_1, pr_i_4, pr_i_m1] at h66
        first
        | contradiction
        | exact absurd trivial h66
        | exact absurd h66 (by decide)
        | exact absurd (Classical.not_not.mp h66) (by decide)
        | skip
          refine pr_seqT (pc' := 73) 1 rfl ⟨trivial, trivial⟩ ?_
          try simp (disch := omega) only [c8401, n100, z, rLt, rS, rI_mul, nI_add, nI_1, nI_clamp, c24, pr_16_8401, pr_8_10, pr_8_24, pr_8_9, pr_8_m4, pr_i_0, pr_i_1, pr_i_4, pr_i_m1]
          refine pr_ifT rfl (fun h73 => ?_) (fun h73 => ?_)
          · simp only [ab_cmp, pr_16_8401, pr_8_10, pr_8_24, pr_8_9, pr_8_m4, pr_i_0, pr_i_1, pr_i_4, pr_i_m1] at h73
            first
            | contradiction
            | exact absurd trivial h73
            | exact absurd h73 (by decide)
            | exact absurd (Classical.not_not.mp h73) (by decide)
            | skip
              refine pr_seqT (pc' := 97) 6 rfl ⟨⟨⟨⟨⟨⟨trivial, trivial⟩, trivial⟩, trivial⟩, trivial⟩, trivial⟩, trivial⟩ ?_
              try simp (disch := omega) only [c8401, n100, z, rLt, rS, rI_mul, nI_add, nI_1, nI_clamp, c24, pr_16_8401, pr_8_10, pr_8_24, pr_8_9, pr_8_m4, pr_i_0, pr_i_1, pr_i_4, pr_i_m1]
              exact h0
          · simp only [ab_cmp, pr_16_8401, pr_8_10, pr_8_24, pr_8_9, pr_8_m4, pr_i_0, pr_i_1, pr_i_4, pr_i_m1] at h73
            exact absurd (Classical.not_not.mp h73) hkz
      · simp only [ab_cmp, pr_16_8401, pr_8_10, pr_8_24, pr_8_9, pr_8_m4, pr_i_0, pr_i_1, pr_i_4, pr_i_m1] at h66
        exact absurd e2 h66
theorem r_change {X : St} (x y w : Int32) (h : ab_H) (M : ab_M) (hl : rL h M.2.2) (hv : rv M.1 X) : pr_X pX11_change [.ref 172, .int x, .int y, .int w] h M (rp M (f_change X x y w, X)) := by
  obtain ⟨k172, rS, rLs, rKn, rPg, rRl, rRk, rTp, rCu, rLe, rLt, rSm, rIk, rLn, rLg, rCe, ⟨kS, nS⟩, ⟨kLs, nLs⟩, ⟨kKn, nKn⟩, ⟨kPg, nPg⟩, ⟨kRl, nRl⟩, ⟨kRk, nRk⟩, ⟨kTp, nTp⟩, ⟨kCu, nCu⟩, ⟨kLe, nLe⟩, ⟨kLt, nLt⟩, ⟨kSm, nSm⟩, ⟨kIk, nIk⟩, ⟨kLn, nLn⟩, ⟨kLg, nLg⟩, kCe, nCe⟩ := id hl
  have h8 : x_n X ≤ 8 := hv.1.2.1
  have h1 := q_isOne x h M hl hv.1
  have h2 := q_in (a := y.toInt64) (b := Int64.ofNat 0) (c := Int64.ofNat 9999) y 0 9999 h M rfl rfl rfl
  have c8401 : (8401 : Int32) = nI 8401 := rfl
  have n100 : Int32.ofNat 100000 = nI 100000 := rfl
  unfold f_change
  rcases pr_ix x (show x_n X ≤ 1000000 by omega) with q | ⟨p, hp, rfl, q⟩
  · rw [show ixb x (x_n X) = false from q] at h1 ⊢
    refine pr_ofC ?_ (rp_s hv)
    refine pr_seq (pc' := 2) 2 rfl ⟨⟨trivial, (by first | assumption | decide | exact ⟨Or.inl (by assumption), by assumption⟩ | exact ⟨by assumption, by assumption⟩ | omega)⟩, trivial⟩ ?_
    refine pr_cv [_] rfl rfl rfl rfl rfl (Nat.le_of_ble_eq_true rfl) (by first | assumption | decide | exact ⟨Or.inl (by assumption), by assumption⟩ | exact ⟨by assumption, by assumption⟩ | omega) (Nat.le_of_ble_eq_true rfl) (h1) ?_
    refine pr_if rfl (fun h5 => ?_) (fun h5 => ?_)
    · simp only [ab_cmp, pr_16_8401, pr_8_10, pr_8_24, pr_8_9, pr_8_m4, pr_i_0, pr_i_1, pr_i_4, pr_i_m1] at h5
      first
      | contradiction
      | exact absurd trivial h5
      | exact absurd h5 (by decide)
      | exact absurd (Classical.not_not.mp h5) (by decide)
      | skip
        refine pr_seq (pc' := 45) 1 rfl ⟨trivial, trivial⟩ ?_
        exact pr_irM rfl (by first | rfl | (simp [pr_b, pr_16_8401, pr_8_10, pr_8_24, pr_8_9, pr_8_m4, pr_i_0, pr_i_1, pr_i_4, pr_i_m1, *]; done) | (simp_all [pr_b, pr_16_8401, pr_8_10, pr_8_24, pr_8_9, pr_8_m4, pr_i_0, pr_i_1, pr_i_4, pr_i_m1]; done)) trivial (by rfl)
    · simp only [ab_cmp, pr_16_8401, pr_8_10, pr_8_24, pr_8_9, pr_8_m4, pr_i_0, pr_i_1, pr_i_4, pr_i_m1] at h5
      exact absurd rfl h5
  · rw [show ixb (nI p) (x_n X) = true from q] at h1 ⊢
    rcases pr_rg y 9999 9999 rfl (by decide) with q2 | ⟨s, hs, rfl, q2⟩
    · rw [q2] at h2 ⊢
      refine pr_ofC ?_ (rp_s hv)
      refine pr_seq (pc' := 2) 2 rfl ⟨⟨trivial, (by first | assumption | decide | exact ⟨Or.inl (by assumption), by assumption⟩ | exact ⟨by assumption, by assumption⟩ | omega)⟩, trivial⟩ ?_
      refine pr_cv [_] rfl rfl rfl rfl rfl (Nat.le_of_ble_eq_true rfl) (by first | assumption | decide | exact ⟨Or.inl (by assumption), by assumption⟩ | exact ⟨by assumption, by assumption⟩ | omega) (Nat.le_of_ble_eq_true rfl) (h1) ?_
      refine pr_if rfl (fun h5 => ?_) (fun h5 => ?_)
      · simp only [ab_cmp, pr_16_8401, pr_8_10, pr_8_24, pr_8_9, pr_8_m4, pr_i_0, pr_i_1, pr_i_4, pr_i_m1] at h5
        exact absurd h5 (by decide)
      · simp only [ab_cmp, pr_16_8401, pr_8_10, pr_8_24, pr_8_9, pr_8_m4, pr_i_0, pr_i_1, pr_i_4, pr_i_m1] at h5
        first
        | contradiction
        | exact absurd trivial h5
        | exact absurd h5 (by decide)
        | exact absurd (Classical.not_not.mp h5) (by decide)
        | skip
          refine pr_seq (pc' := 14) 4 rfl ⟨⟨⟨⟨trivial, trivial⟩, trivial⟩, trivial⟩, trivial⟩ ?_
          refine pr_cs [_, _, _] rfl rfl rfl rfl rfl (Nat.le_of_ble_eq_true rfl) (Nat.le_of_ble_eq_true rfl) (h2) ?_
          refine pr_if rfl (fun h17 => ?_) (fun h17 => ?_)
          · simp only [ab_cmp, pr_16_8401, pr_8_10, pr_8_24, pr_8_9, pr_8_m4, pr_i_0, pr_i_1, pr_i_4, pr_i_m1] at h17
            first
            | contradiction
            | exact absurd trivial h17
            | exact absurd h17 (by decide)
            | exact absurd (Classical.not_not.mp h17) (by decide)
            | skip
              refine pr_seq (pc' := 45) 1 rfl ⟨trivial, trivial⟩ ?_
              exact pr_irM rfl (by first | rfl | (simp [pr_b, pr_16_8401, pr_8_10, pr_8_24, pr_8_9, pr_8_m4, pr_i_0, pr_i_1, pr_i_4, pr_i_m1, *]; done) | (simp_all [pr_b, pr_16_8401, pr_8_10, pr_8_24, pr_8_9, pr_8_m4, pr_i_0, pr_i_1, pr_i_4, pr_i_m1]; done)) trivial (by rfl)
          · simp only [ab_cmp, pr_16_8401, pr_8_10, pr_8_24, pr_8_9, pr_8_m4, pr_i_0, pr_i_1, pr_i_4, pr_i_m1] at h17
            exact absurd rfl h17
    · rw [q2] at h2 ⊢
      rw [if_pos (show (true && true) = true from rfl), nI_clamp (by omega), nI_clamp (by omega)]
      have hp' : p < X.1.1.2.1.length := hp
      have hlo := q_longOf h M hl hv.1 hp'
      have hlay : pr_X pX11_layChanges [.ref 172, .int (nI p)] h M (ly_p M (x_c X p) (x_sh X p) (x_nm X p).length) := q_lay h M hl hv.1 hp'
      obtain ⟨y1, y2, y3, y4, y5, y6, y7, y8, y9⟩ := hv.1.2.2.2.2.2.2.2 p hp'
      have hfee : 1 ≤ X.1.1.2.2.2 ∧ X.1.1.2.2.2 ≤ 9 := hv.1.2.2.2.2.2.1
      have hdl : x_dl X p s ≤ 100000 := dL_b _ _ _ _ _
      have none0 : ∀ (I : Nat → Nat → Int32), (∀ a, a ≠ 182 → I a = M.1 a) → (∀ j, j ≤ (x_nm X p).length → lv_r I (x_c X p) (x_sh X p) (x_nm X p).length j) → ¬ x_dl X p s < 100000 → ∀ z4 z5 z6 z7, pr_T pX11_change 51 [some (.ref 172), some (.int (nI p)), some (.int (nI s)), some (.int w), z4, z5, z6, z7] [] h (I, M.2) (rp M (-4, X)) := by
        intro I f1 f2 hc z4 z5 z6 z7
        have fin : rp M (-4, X) (some (.int (-4))) (I, M.2.1, M.2.2) := rp_I (rv_same hv (fun a a1 _ => f1 a a1)) (fun a ha => f1 a (by omega))
        by_cases c : s < 8401
        · have e1 : ¬ nI 8401 ≤ nI s := nI_ge c (by decide)
          have z : I 182 s = nI (x_dl X p s) := by
            have := f2 0 (Nat.zero_le _) s c
            rw [show 8401 * 0 + s = s by omega] at this
            exact this
          have e2 : ¬ nI (x_dl X p s) < nI 100000 := nI_nlt (by omega) (by omega)
          refine pr_seqT (pc' := 55) 2 rfl ⟨⟨trivial, trivial⟩, trivial⟩ ?_
          try simp (disch := omega) only [c8401, n100, z, rLt, rS, rI_mul, nI_add, nI_1, nI_clamp, c24, pr_16_8401, pr_8_10, pr_8_24, pr_8_9, pr_8_m4, pr_i_0, pr_i_1, pr_i_4, pr_i_m1]
          refine pr_icT rfl (fun h55 => ?_) (fun h55 => ?_)
          · simp only [ab_cmp, pr_16_8401, pr_8_10, pr_8_24, pr_8_9, pr_8_m4, pr_i_0, pr_i_1, pr_i_4, pr_i_m1] at h55
            exact absurd h55 e1
          · simp only [ab_cmp, pr_16_8401, pr_8_10, pr_8_24, pr_8_9, pr_8_m4, pr_i_0, pr_i_1, pr_i_4, pr_i_m1] at h55
            first
            | contradiction
            | exact absurd trivial h55
            | exact absurd h55 (by decide)
            | exact absurd (Classical.not_not.mp h55) (by decide)
            | skip
              refine pr_seqT (pc' := 66) 5 rfl ⟨⟨⟨⟨⟨trivial, (by first | decide | assumption)⟩, (by assumption)⟩, trivial⟩, (by (try simp (disch := omega) only [c8401, n100, z, rLt, rS, rI_mul, nI_add, nI_1, nI_clamp, c24, pr_16_8401, pr_8_10, pr_8_24, pr_8_9, pr_8_m4, pr_i_0, pr_i_1, pr_i_4, pr_i_m1]); exact ⟨Or.inl (by assumption), rvin (by assumption) (by omega) (by decide)⟩)⟩, trivial⟩ ?_
              try simp (disch := omega) only [c8401, n100, z, rLt, rS, rI_mul, nI_add, nI_1, nI_clamp, c24, pr_16_8401, pr_8_10, pr_8_24, pr_8_9, pr_8_m4, pr_i_0, pr_i_1, pr_i_4, pr_i_m1]
              refine pr_icT rfl (fun h66 => ?_) (fun h66 => ?_)
              · simp only [ab_cmp, pr_16_8401, pr_8_10, pr_8_24, pr_8_9, pr_8_m4, pr_i_0, pr_i_1, pr_i_4, pr_i_m1] at h66
                exact absurd h66 e2
              · simp only [ab_cmp, pr_16_8401, pr_8_10, pr_8_24, pr_8_9, pr_8_m4, pr_i_0, pr_i_1, pr_i_4, pr_i_m1] at h66
                first
                | contradiction
                | exact absurd trivial h66
                | exact absurd h66 (by decide)
                | exact absurd (Classical.not_not.mp h66) (by decide)
                | skip
                  refine pr_seqT (pc' := 71) 1 rfl ⟨trivial, trivial⟩ ?_
                  try simp (disch := omega) only [c8401, n100, z, rLt, rS, rI_mul, nI_add, nI_1, nI_clamp, c24, pr_16_8401, pr_8_10, pr_8_24, pr_8_9, pr_8_m4, pr_i_0, pr_i_1, pr_i_4, pr_i_m1]
                  exact pr_irT rfl trivial (by exact fin)
        · have e1 : nI 8401 ≤ nI s := nI_le (by omega) (by omega)
          refine pr_seqT (pc' := 55) 2 rfl ⟨⟨trivial, trivial⟩, trivial⟩ ?_
          try simp (disch := omega) only [c8401, n100, rLt, rS, rI_mul, nI_add, nI_1, nI_clamp, c24, pr_16_8401, pr_8_10, pr_8_24, pr_8_9, pr_8_m4, pr_i_0, pr_i_1, pr_i_4, pr_i_m1]
          refine pr_icT rfl (fun h55 => ?_) (fun h55 => ?_)
          · simp only [ab_cmp, pr_16_8401, pr_8_10, pr_8_24, pr_8_9, pr_8_m4, pr_i_0, pr_i_1, pr_i_4, pr_i_m1] at h55
            first
            | contradiction
            | exact absurd trivial h55
            | exact absurd h55 (by decide)
            | exact absurd (Classical.not_not.mp h55) (by decide)
            | skip
              refine pr_seqT (pc' := 71) 1 rfl ⟨trivial, trivial⟩ ?_
              try simp (disch := omega) only [c8401, n100, rLt, rS, rI_mul, nI_add, nI_1, nI_clamp, c24, pr_16_8401, pr_8_10, pr_8_24, pr_8_9, pr_8_m4, pr_i_0, pr_i_1, pr_i_4, pr_i_m1]
              exact pr_irT rfl trivial (by exact fin)
          · simp only [ab_cmp, pr_16_8401, pr_8_10, pr_8_24, pr_8_9, pr_8_m4, pr_i_0, pr_i_1, pr_i_4, pr_i_m1] at h55
            exact absurd e1 h55
      by_cases w0 : w = 0
      · subst w0
        rw [if_neg (fun q => q.1 rfl), if_pos rfl]
        by_cases cd : x_dl X p s < 100000
        · rw [if_pos cd]
          refine pr_seqT (pc' := 2) 2 rfl ⟨⟨trivial, (by first | decide | assumption)⟩, trivial⟩ ?_
          try simp (disch := omega) only [rLt, rS, rI_mul, nI_add, nI_1, nI_clamp, c24, pr_16_8401, pr_8_10, pr_8_24, pr_8_9, pr_8_m4, pr_i_0, pr_i_1, pr_i_4, pr_i_m1]
          refine pr_cvT [_] rfl rfl rfl rfl rfl (Nat.le_of_ble_eq_true rfl) (by first | assumption | decide | (simp (disch := omega) only [rLt, rS, rI_mul, nI_add, nI_1, nI_clamp, c24, pr_16_8401, pr_8_10, pr_8_24, pr_8_9, pr_8_m4, pr_i_0, pr_i_1, pr_i_4, pr_i_m1]; first | assumption | exact ⟨Or.inl (by assumption), rvin (by assumption) (by omega) (by decide)⟩ | exact ⟨by assumption, rvin (by assumption) (by omega) (by decide)⟩ | exact ⟨⟨by omega, by omega⟩, rvin (by assumption) (by omega) (by decide)⟩ | exact ⟨Or.inr (by assumption), rvin (by assumption) (by omega) (by decide)⟩ | exact ⟨Or.inr ⟨by assumption, (by first | exact Or.inl rfl | exact Or.inr rfl | exact pr_b01 _)⟩, rvin (by assumption) (by omega) (by decide)⟩ | exact ⟨by assumption, by assumption⟩ | decide | omega)) (Nat.le_of_ble_eq_true rfl) (h1) ?_
          refine pr_ifT rfl (fun h5 => ?_) (fun h5 => ?_)
          · simp only [ab_cmp, pr_16_8401, pr_8_10, pr_8_24, pr_8_9, pr_8_m4, pr_i_0, pr_i_1, pr_i_4, pr_i_m1] at h5
            exact absurd h5 (by decide)
          · simp only [ab_cmp, pr_16_8401, pr_8_10, pr_8_24, pr_8_9, pr_8_m4, pr_i_0, pr_i_1, pr_i_4, pr_i_m1] at h5
            first
            | contradiction
            | exact absurd trivial h5
            | exact absurd h5 (by decide)
            | exact absurd (Classical.not_not.mp h5) (by decide)
            | skip
              refine pr_seqT (pc' := 14) 4 rfl ⟨⟨⟨⟨trivial, trivial⟩, trivial⟩, trivial⟩, trivial⟩ ?_
              try simp (disch := omega) only [rLt, rS, rI_mul, nI_add, nI_1, nI_clamp, c24, pr_16_8401, pr_8_10, pr_8_24, pr_8_9, pr_8_m4, pr_i_0, pr_i_1, pr_i_4, pr_i_m1]
              refine pr_csT [_, _, _] rfl rfl rfl rfl rfl (Nat.le_of_ble_eq_true rfl) (Nat.le_of_ble_eq_true rfl) (h2) ?_
              refine pr_ifT rfl (fun h17 => ?_) (fun h17 => ?_)
              · simp only [ab_cmp, pr_16_8401, pr_8_10, pr_8_24, pr_8_9, pr_8_m4, pr_i_0, pr_i_1, pr_i_4, pr_i_m1] at h17
                exact absurd h17 (by decide)
              · simp only [ab_cmp, pr_16_8401, pr_8_10, pr_8_24, pr_8_9, pr_8_m4, pr_i_0, pr_i_1, pr_i_4, pr_i_m1] at h17
                first
                | contradiction
                | exact absurd trivial h17
                | exact absurd h17 (by decide)
                | exact absurd (Classical.not_not.mp h17) (by decide)
                | skip
                  refine pr_seqT (pc' := 21) 1 rfl ⟨trivial, trivial⟩ ?_
                  try simp (disch := omega) only [rLt, rS, rI_mul, nI_add, nI_1, nI_clamp, c24, pr_16_8401, pr_8_10, pr_8_24, pr_8_9, pr_8_m4, pr_i_0, pr_i_1, pr_i_4, pr_i_m1]
                  refine pr_ifT rfl (fun h21 => ?_) (fun h21 => ?_)
                  · simp only [ab_cmp, pr_16_8401, pr_8_10, pr_8_24, pr_8_9, pr_8_m4, pr_i_0, pr_i_1, pr_i_4, pr_i_m1] at h21
                    first
                    | contradiction
                    | exact absurd trivial h21
                    | exact absurd h21 (by decide)
                    | exact absurd (Classical.not_not.mp h21) (by decide)
                    | skip
                      refine pr_seqT (pc' := 48) 2 rfl ⟨⟨trivial, (by first | decide | assumption)⟩, trivial⟩ ?_
                      try simp (disch := omega) only [rLt, rS, rI_mul, nI_add, nI_1, nI_clamp, c24, pr_16_8401, pr_8_10, pr_8_24, pr_8_9, pr_8_m4, pr_i_0, pr_i_1, pr_i_4, pr_i_m1]
                      refine pr_cvX [_] rfl rfl rfl rfl rfl (Nat.le_of_ble_eq_true rfl) (by first | assumption | decide | (simp (disch := omega) only [rLt, rS, rI_mul, nI_add, nI_1, nI_clamp, c24, pr_16_8401, pr_8_10, pr_8_24, pr_8_9, pr_8_m4, pr_i_0, pr_i_1, pr_i_4, pr_i_m1]; first | assumption | exact ⟨Or.inl (by assumption), rvin (by assumption) (by omega) (by decide)⟩ | exact ⟨by assumption, rvin (by assumption) (by omega) (by decide)⟩ | exact ⟨⟨by omega, by omega⟩, rvin (by assumption) (by omega) (by decide)⟩ | exact ⟨Or.inr (by assumption), rvin (by assumption) (by omega) (by decide)⟩ | exact ⟨Or.inr ⟨by assumption, (by first | exact Or.inl rfl | exact Or.inr rfl | exact pr_b01 _)⟩, rvin (by assumption) (by omega) (by decide)⟩ | exact ⟨by assumption, by assumption⟩ | decide | omega)) (Nat.le_of_ble_eq_true rfl) (hlay) (fun v48 M48 q48 => ?_)
                      obtain ⟨rfl, w1, w2, w3⟩ := q48
                      obtain ⟨I1, Z1⟩ := M48
                      dsimp only at w1 w2 w3
                      subst w1
                      exact chg_w0 h hl hv hp' hs cd w2 w3
                  · simp only [ab_cmp, pr_16_8401, pr_8_10, pr_8_24, pr_8_9, pr_8_m4, pr_i_0, pr_i_1, pr_i_4, pr_i_m1] at h21
                    exact absurd trivial h21
        · rw [if_neg cd]
          refine pr_seqT (pc' := 2) 2 rfl ⟨⟨trivial, (by first | decide | assumption)⟩, trivial⟩ ?_
          try simp (disch := omega) only [rLt, rS, rI_mul, nI_add, nI_1, nI_clamp, c24, pr_16_8401, pr_8_10, pr_8_24, pr_8_9, pr_8_m4, pr_i_0, pr_i_1, pr_i_4, pr_i_m1]
          refine pr_cvT [_] rfl rfl rfl rfl rfl (Nat.le_of_ble_eq_true rfl) (by first | assumption | decide | (simp (disch := omega) only [rLt, rS, rI_mul, nI_add, nI_1, nI_clamp, c24, pr_16_8401, pr_8_10, pr_8_24, pr_8_9, pr_8_m4, pr_i_0, pr_i_1, pr_i_4, pr_i_m1]; first | assumption | exact ⟨Or.inl (by assumption), rvin (by assumption) (by omega) (by decide)⟩ | exact ⟨by assumption, rvin (by assumption) (by omega) (by decide)⟩ | exact ⟨⟨by omega, by omega⟩, rvin (by assumption) (by omega) (by decide)⟩ | exact ⟨Or.inr (by assumption), rvin (by assumption) (by omega) (by decide)⟩ | exact ⟨Or.inr ⟨by assumption, (by first | exact Or.inl rfl | exact Or.inr rfl | exact pr_b01 _)⟩, rvin (by assumption) (by omega) (by decide)⟩ | exact ⟨by assumption, by assumption⟩ | decide | omega)) (Nat.le_of_ble_eq_true rfl) (h1) ?_
          refine pr_ifT rfl (fun h5 => ?_) (fun h5 => ?_)
          · simp only [ab_cmp, pr_16_8401, pr_8_10, pr_8_24, pr_8_9, pr_8_m4, pr_i_0, pr_i_1, pr_i_4, pr_i_m1] at h5
            exact absurd h5 (by decide)
          · simp only [ab_cmp, pr_16_8401, pr_8_10, pr_8_24, pr_8_9, pr_8_m4, pr_i_0, pr_i_1, pr_i_4, pr_i_m1] at h5
            first
            | contradiction
            | exact absurd trivial h5
            | exact absurd h5 (by decide)
            | exact absurd (Classical.not_not.mp h5) (by decide)
            | skip
              refine pr_seqT (pc' := 14) 4 rfl ⟨⟨⟨⟨trivial, trivial⟩, trivial⟩, trivial⟩, trivial⟩ ?_
              try simp (disch := omega) only [rLt, rS, rI_mul, nI_add, nI_1, nI_clamp, c24, pr_16_8401, pr_8_10, pr_8_24, pr_8_9, pr_8_m4, pr_i_0, pr_i_1, pr_i_4, pr_i_m1]
              refine pr_csT [_, _, _] rfl rfl rfl rfl rfl (Nat.le_of_ble_eq_true rfl) (Nat.le_of_ble_eq_true rfl) (h2) ?_
              refine pr_ifT rfl (fun h17 => ?_) (fun h17 => ?_)
              · simp only [ab_cmp, pr_16_8401, pr_8_10, pr_8_24, pr_8_9, pr_8_m4, pr_i_0, pr_i_1, pr_i_4, pr_i_m1] at h17
                exact absurd h17 (by decide)
              · simp only [ab_cmp, pr_16_8401, pr_8_10, pr_8_24, pr_8_9, pr_8_m4, pr_i_0, pr_i_1, pr_i_4, pr_i_m1] at h17
                first
                | contradiction
                | exact absurd trivial h17
                | exact absurd h17 (by decide)
                | exact absurd (Classical.not_not.mp h17) (by decide)
                | skip
                  refine pr_seqT (pc' := 21) 1 rfl ⟨trivial, trivial⟩ ?_
                  try simp (disch := omega) only [rLt, rS, rI_mul, nI_add, nI_1, nI_clamp, c24, pr_16_8401, pr_8_10, pr_8_24, pr_8_9, pr_8_m4, pr_i_0, pr_i_1, pr_i_4, pr_i_m1]
                  refine pr_ifT rfl (fun h21 => ?_) (fun h21 => ?_)
                  · simp only [ab_cmp, pr_16_8401, pr_8_10, pr_8_24, pr_8_9, pr_8_m4, pr_i_0, pr_i_1, pr_i_4, pr_i_m1] at h21
                    first
                    | contradiction
                    | exact absurd trivial h21
                    | exact absurd h21 (by decide)
                    | exact absurd (Classical.not_not.mp h21) (by decide)
                    | skip
                      refine pr_seqT (pc' := 48) 2 rfl ⟨⟨trivial, (by first | decide | assumption)⟩, trivial⟩ ?_
                      try simp (disch := omega) only [rLt, rS, rI_mul, nI_add, nI_1, nI_clamp, c24, pr_16_8401, pr_8_10, pr_8_24, pr_8_9, pr_8_m4, pr_i_0, pr_i_1, pr_i_4, pr_i_m1]
                      refine pr_cvX [_] rfl rfl rfl rfl rfl (Nat.le_of_ble_eq_true rfl) (by first | assumption | decide | (simp (disch := omega) only [rLt, rS, rI_mul, nI_add, nI_1, nI_clamp, c24, pr_16_8401, pr_8_10, pr_8_24, pr_8_9, pr_8_m4, pr_i_0, pr_i_1, pr_i_4, pr_i_m1]; first | assumption | exact ⟨Or.inl (by assumption), rvin (by assumption) (by omega) (by decide)⟩ | exact ⟨by assumption, rvin (by assumption) (by omega) (by decide)⟩ | exact ⟨⟨by omega, by omega⟩, rvin (by assumption) (by omega) (by decide)⟩ | exact ⟨Or.inr (by assumption), rvin (by assumption) (by omega) (by decide)⟩ | exact ⟨Or.inr ⟨by assumption, (by first | exact Or.inl rfl | exact Or.inr rfl | exact pr_b01 _)⟩, rvin (by assumption) (by omega) (by decide)⟩ | exact ⟨by assumption, by assumption⟩ | decide | omega)) (Nat.le_of_ble_eq_true rfl) (hlay) (fun v48 M48 q48 => ?_)
                      obtain ⟨rfl, w1, w2, w3⟩ := q48
                      obtain ⟨I1, Z1⟩ := M48
                      dsimp only at w1 w2 w3
                      subst w1
                      exact none0 I1 w2 w3 cd _ _ _ _
                  · simp only [ab_cmp, pr_16_8401, pr_8_10, pr_8_24, pr_8_9, pr_8_m4, pr_i_0, pr_i_1, pr_i_4, pr_i_m1] at h21
                    exact absurd trivial h21
      · have e0 : ¬ w = 0 := w0
        have hpl := q_in (a := w.toInt64) (b := Int64.ofNat 10) (c := (9 + nI (d_pn X.1.1 p).2.2.2.length).toInt64) w 10 (9 + nI (d_pn X.1.1 p).2.2.2.length) h M rfl rfl rfl
        rw [ix_pl w _ (by omega)] at hpl
        rcases pr_ix (w - 10) (show (d_pn X.1.1 p).2.2.2.length ≤ 1000000 by omega) with q3 | ⟨k, hk, ek, q3⟩
        · rw [if_pos ⟨w0, q3⟩]
          rw [show ixb (w - 10) (d_pn X.1.1 p).2.2.2.length = false from q3] at hpl
          refine pr_ofC ?_ (rp_s hv)
          refine pr_seq (pc' := 2) 2 rfl ⟨⟨trivial, (by first | assumption | decide | exact ⟨Or.inl (by assumption), by assumption⟩ | exact ⟨by assumption, by assumption⟩ | omega)⟩, trivial⟩ ?_
          refine pr_cv [_] rfl rfl rfl rfl rfl (Nat.le_of_ble_eq_true rfl) (by first | assumption | decide | exact ⟨Or.inl (by assumption), by assumption⟩ | exact ⟨by assumption, by assumption⟩ | omega) (Nat.le_of_ble_eq_true rfl) (h1) ?_
          refine pr_if rfl (fun h5 => ?_) (fun h5 => ?_)
          · simp only [ab_cmp, pr_16_8401, pr_8_10, pr_8_24, pr_8_9, pr_8_m4, pr_i_0, pr_i_1, pr_i_4, pr_i_m1] at h5
            exact absurd h5 (by decide)
          · simp only [ab_cmp, pr_16_8401, pr_8_10, pr_8_24, pr_8_9, pr_8_m4, pr_i_0, pr_i_1, pr_i_4, pr_i_m1] at h5
            first
            | contradiction
            | exact absurd trivial h5
            | exact absurd h5 (by decide)
            | exact absurd (Classical.not_not.mp h5) (by decide)
            | skip
              refine pr_seq (pc' := 14) 4 rfl ⟨⟨⟨⟨trivial, trivial⟩, trivial⟩, trivial⟩, trivial⟩ ?_
              refine pr_cs [_, _, _] rfl rfl rfl rfl rfl (Nat.le_of_ble_eq_true rfl) (Nat.le_of_ble_eq_true rfl) (h2) ?_
              refine pr_if rfl (fun h17 => ?_) (fun h17 => ?_)
              · simp only [ab_cmp, pr_16_8401, pr_8_10, pr_8_24, pr_8_9, pr_8_m4, pr_i_0, pr_i_1, pr_i_4, pr_i_m1] at h17
                exact absurd h17 (by decide)
              · simp only [ab_cmp, pr_16_8401, pr_8_10, pr_8_24, pr_8_9, pr_8_m4, pr_i_0, pr_i_1, pr_i_4, pr_i_m1] at h17
                first
                | contradiction
                | exact absurd trivial h17
                | exact absurd h17 (by decide)
                | exact absurd (Classical.not_not.mp h17) (by decide)
                | skip
                  refine pr_seq (pc' := 21) 1 rfl ⟨trivial, trivial⟩ ?_
                  refine pr_if rfl (fun h21 => ?_) (fun h21 => ?_)
                  · simp only [ab_cmp, pr_16_8401, pr_8_10, pr_8_24, pr_8_9, pr_8_m4, pr_i_0, pr_i_1, pr_i_4, pr_i_m1] at h21
                    exact absurd h21 w0
                  · simp only [ab_cmp, pr_16_8401, pr_8_10, pr_8_24, pr_8_9, pr_8_m4, pr_i_0, pr_i_1, pr_i_4, pr_i_m1] at h21
                    first
                    | contradiction
                    | exact absurd trivial h21
                    | exact absurd h21 (by decide)
                    | exact absurd (Classical.not_not.mp h21) (by decide)
                    | skip
                      refine pr_seq (pc' := 33) 6 rfl ⟨⟨⟨⟨⟨⟨trivial, trivial⟩, trivial⟩, trivial⟩, trivial⟩, (by first | assumption | decide | exact ⟨Or.inl (by assumption), by assumption⟩ | exact ⟨by assumption, by assumption⟩ | omega)⟩, trivial⟩ ?_
                      refine pr_cv [_] rfl rfl rfl rfl rfl (Nat.le_of_ble_eq_true rfl) (by first | assumption | decide | exact ⟨Or.inl (by assumption), by assumption⟩ | exact ⟨by assumption, by assumption⟩ | omega) (Nat.le_of_ble_eq_true rfl) (hlo) ?_
                      refine pr_seq (pc' := 38) 2 rfl ⟨⟨trivial, trivial⟩, trivial⟩ ?_
                      refine pr_cs [_, _, _] rfl rfl rfl rfl rfl (Nat.le_of_ble_eq_true rfl) (Nat.le_of_ble_eq_true rfl) (hpl) ?_
                      refine pr_if rfl (fun h41 => ?_) (fun h41 => ?_)
                      · simp only [ab_cmp, pr_16_8401, pr_8_10, pr_8_24, pr_8_9, pr_8_m4, pr_i_0, pr_i_1, pr_i_4, pr_i_m1] at h41
                        exact absurd rfl h41
                      · simp only [ab_cmp, pr_16_8401, pr_8_10, pr_8_24, pr_8_9, pr_8_m4, pr_i_0, pr_i_1, pr_i_4, pr_i_m1] at h41
                        first
                        | contradiction
                        | exact absurd trivial h41
                        | exact absurd h41 (by decide)
                        | exact absurd (Classical.not_not.mp h41) (by decide)
                        | skip
                          refine pr_seq (pc' := 45) 1 rfl ⟨trivial, trivial⟩ ?_
                          exact pr_irM rfl (by first | rfl | (simp [pr_b, pr_16_8401, pr_8_10, pr_8_24, pr_8_9, pr_8_m4, pr_i_0, pr_i_1, pr_i_4, pr_i_m1, *]; done) | (simp_all [pr_b, pr_16_8401, pr_8_10, pr_8_24, pr_8_9, pr_8_m4, pr_i_0, pr_i_1, pr_i_4, pr_i_m1]; done)) trivial (by rfl)
        · rw [show ixb (w - 10) (d_pn X.1.1 p).2.2.2.length = true from q3] at hpl
          rw [if_neg (fun q => by rw [show ixb (w - 10) (x_nm X p).length = true from q3] at q; exact absurd q.2 (by decide)), if_neg w0, ek, nI_clamp (by omega)]
          have ew := w_pl ek
          subst ew
          by_cases cd : x_dl X p s < 100000
          · rw [if_pos cd]
            refine pr_seqT (pc' := 2) 2 rfl ⟨⟨trivial, (by first | assumption | decide | exact ⟨Or.inl (by assumption), by assumption⟩ | exact ⟨by assumption, by assumption⟩ | omega)⟩, trivial⟩ ?_
            refine pr_cvT [_] rfl rfl rfl rfl rfl (Nat.le_of_ble_eq_true rfl) (by first | assumption | decide | exact ⟨Or.inl (by assumption), by assumption⟩ | exact ⟨by assumption, by assumption⟩ | omega) (Nat.le_of_ble_eq_true rfl) (h1) ?_
            refine pr_ifT rfl (fun h5 => ?_) (fun h5 => ?_)
            · simp only [ab_cmp, pr_16_8401, pr_8_10, pr_8_24, pr_8_9, pr_8_m4, pr_i_0, pr_i_1, pr_i_4, pr_i_m1] at h5
              exact absurd h5 (by decide)
            · simp only [ab_cmp, pr_16_8401, pr_8_10, pr_8_24, pr_8_9, pr_8_m4, pr_i_0, pr_i_1, pr_i_4, pr_i_m1] at h5
              first
              | contradiction
              | exact absurd trivial h5
              | exact absurd h5 (by decide)
              | exact absurd (Classical.not_not.mp h5) (by decide)
              | skip
                refine pr_seqT (pc' := 14) 4 rfl ⟨⟨⟨⟨trivial, trivial⟩, trivial⟩, trivial⟩, trivial⟩ ?_
                refine pr_csT [_, _, _] rfl rfl rfl rfl rfl (Nat.le_of_ble_eq_true rfl) (Nat.le_of_ble_eq_true rfl) (h2) ?_
                refine pr_ifT rfl (fun h17 => ?_) (fun h17 => ?_)
                · simp only [ab_cmp, pr_16_8401, pr_8_10, pr_8_24, pr_8_9, pr_8_m4, pr_i_0, pr_i_1, pr_i_4, pr_i_m1] at h17
                  exact absurd h17 (by decide)
                · simp only [ab_cmp, pr_16_8401, pr_8_10, pr_8_24, pr_8_9, pr_8_m4, pr_i_0, pr_i_1, pr_i_4, pr_i_m1] at h17
                  first
                  | contradiction
                  | exact absurd trivial h17
                  | exact absurd h17 (by decide)
                  | exact absurd (Classical.not_not.mp h17) (by decide)
                  | skip
                    refine pr_seqT (pc' := 21) 1 rfl ⟨trivial, trivial⟩ ?_
                    refine pr_ifT rfl (fun h21 => ?_) (fun h21 => ?_)
                    · simp only [ab_cmp, pr_16_8401, pr_8_10, pr_8_24, pr_8_9, pr_8_m4, pr_i_0, pr_i_1, pr_i_4, pr_i_m1] at h21
                      exact absurd h21 w0
                    · simp only [ab_cmp, pr_16_8401, pr_8_10, pr_8_24, pr_8_9, pr_8_m4, pr_i_0, pr_i_1, pr_i_4, pr_i_m1] at h21
                      first
                      | contradiction
                      | exact absurd trivial h21
                      | exact absurd h21 (by decide)
                      | exact absurd (Classical.not_not.mp h21) (by decide)
                      | skip
                        refine pr_seqT (pc' := 33) 6 rfl ⟨⟨⟨⟨⟨⟨trivial, trivial⟩, trivial⟩, trivial⟩, trivial⟩, (by first | assumption | decide | exact ⟨Or.inl (by assumption), by assumption⟩ | exact ⟨by assumption, by assumption⟩ | omega)⟩, trivial⟩ ?_
                        refine pr_cvT [_] rfl rfl rfl rfl rfl (Nat.le_of_ble_eq_true rfl) (by first | assumption | decide | exact ⟨Or.inl (by assumption), by assumption⟩ | exact ⟨by assumption, by assumption⟩ | omega) (Nat.le_of_ble_eq_true rfl) (hlo) ?_
                        refine pr_seqT (pc' := 38) 2 rfl ⟨⟨trivial, trivial⟩, trivial⟩ ?_
                        refine pr_csT [_, _, _] rfl rfl rfl rfl rfl (Nat.le_of_ble_eq_true rfl) (Nat.le_of_ble_eq_true rfl) (hpl) ?_
                        refine pr_ifT rfl (fun h41 => ?_) (fun h41 => ?_)
                        · simp only [ab_cmp, pr_16_8401, pr_8_10, pr_8_24, pr_8_9, pr_8_m4, pr_i_0, pr_i_1, pr_i_4, pr_i_m1] at h41
                          first
                          | contradiction
                          | exact absurd trivial h41
                          | exact absurd h41 (by decide)
                          | exact absurd (Classical.not_not.mp h41) (by decide)
                          | skip
                            refine pr_seqT (pc' := 48) 2 rfl ⟨⟨trivial, (by first | assumption | decide | exact ⟨Or.inl (by assumption), by assumption⟩ | exact ⟨by assumption, by assumption⟩ | omega)⟩, trivial⟩ ?_
                            refine pr_cvX [_] rfl rfl rfl rfl rfl (Nat.le_of_ble_eq_true rfl) (by first | assumption | decide | exact ⟨Or.inl (by assumption), by assumption⟩ | exact ⟨by assumption, by assumption⟩ | omega) (Nat.le_of_ble_eq_true rfl) (hlay) (fun v48 M48 q48 => ?_)
                            obtain ⟨rfl, w1, w2, w3⟩ := q48
                            obtain ⟨I1, Z1⟩ := M48
                            dsimp only at w1 w2 w3
                            subst w1
                            exact chg_w1 h hl hv hp' hk (by omega) cd w2 w3
                        · simp only [ab_cmp, pr_16_8401, pr_8_10, pr_8_24, pr_8_9, pr_8_m4, pr_i_0, pr_i_1, pr_i_4, pr_i_m1] at h41
                          exact absurd (Classical.not_not.mp h41) (by decide)
          · rw [if_neg cd]
            refine pr_seqT (pc' := 2) 2 rfl ⟨⟨trivial, (by first | assumption | decide | exact ⟨Or.inl (by assumption), by assumption⟩ | exact ⟨by assumption, by assumption⟩ | omega)⟩, trivial⟩ ?_
            refine pr_cvT [_] rfl rfl rfl rfl rfl (Nat.le_of_ble_eq_true rfl) (by first | assumption | decide | exact ⟨Or.inl (by assumption), by assumption⟩ | exact ⟨by assumption, by assumption⟩ | omega) (Nat.le_of_ble_eq_true rfl) (h1) ?_
            refine pr_ifT rfl (fun h5 => ?_) (fun h5 => ?_)
            · simp only [ab_cmp, pr_16_8401, pr_8_10, pr_8_24, pr_8_9, pr_8_m4, pr_i_0, pr_i_1, pr_i_4, pr_i_m1] at h5
              exact absurd h5 (by decide)
            · simp only [ab_cmp, pr_16_8401, pr_8_10, pr_8_24, pr_8_9, pr_8_m4, pr_i_0, pr_i_1, pr_i_4, pr_i_m1] at h5
              first
              | contradiction
              | exact absurd trivial h5
              | exact absurd h5 (by decide)
              | exact absurd (Classical.not_not.mp h5) (by decide)
              | skip
                refine pr_seqT (pc' := 14) 4 rfl ⟨⟨⟨⟨trivial, trivial⟩, trivial⟩, trivial⟩, trivial⟩ ?_
                refine pr_csT [_, _, _] rfl rfl rfl rfl rfl (Nat.le_of_ble_eq_true rfl) (Nat.le_of_ble_eq_true rfl) (h2) ?_
                refine pr_ifT rfl (fun h17 => ?_) (fun h17 => ?_)
                · simp only [ab_cmp, pr_16_8401, pr_8_10, pr_8_24, pr_8_9, pr_8_m4, pr_i_0, pr_i_1, pr_i_4, pr_i_m1] at h17
                  exact absurd h17 (by decide)
                · simp only [ab_cmp, pr_16_8401, pr_8_10, pr_8_24, pr_8_9, pr_8_m4, pr_i_0, pr_i_1, pr_i_4, pr_i_m1] at h17
                  first
                  | contradiction
                  | exact absurd trivial h17
                  | exact absurd h17 (by decide)
                  | exact absurd (Classical.not_not.mp h17) (by decide)
                  | skip
                    refine pr_seqT (pc' := 21) 1 rfl ⟨trivial, trivial⟩ ?_
                    refine pr_ifT rfl (fun h21 => ?_) (fun h21 => ?_)
                    · simp only [ab_cmp, pr_16_8401, pr_8_10, pr_8_24, pr_8_9, pr_8_m4, pr_i_0, pr_i_1, pr_i_4, pr_i_m1] at h21
                      exact absurd h21 w0
                    · simp only [ab_cmp, pr_16_8401, pr_8_10, pr_8_24, pr_8_9, pr_8_m4, pr_i_0, pr_i_1, pr_i_4, pr_i_m1] at h21
                      first
                      | contradiction
                      | exact absurd trivial h21
                      | exact absurd h21 (by decide)
                      | exact absurd (Classical.not_not.mp h21) (by decide)
                      | skip
                        refine pr_seqT (pc' := 33) 6 rfl ⟨⟨⟨⟨⟨⟨trivial, trivial⟩, trivial⟩, trivial⟩, trivial⟩, (by first | assumption | decide | exact ⟨Or.inl (by assumption), by assumption⟩ | exact ⟨by assumption, by assumption⟩ | omega)⟩, trivial⟩ ?_
                        refine pr_cvT [_] rfl rfl rfl rfl rfl (Nat.le_of_ble_eq_true rfl) (by first | assumption | decide | exact ⟨Or.inl (by assumption), by assumption⟩ | exact ⟨by assumption, by assumption⟩ | omega) (Nat.le_of_ble_eq_true rfl) (hlo) ?_
                        refine pr_seqT (pc' := 38) 2 rfl ⟨⟨trivial, trivial⟩, trivial⟩ ?_
                        refine pr_csT [_, _, _] rfl rfl rfl rfl rfl (Nat.le_of_ble_eq_true rfl) (Nat.le_of_ble_eq_true rfl) (hpl) ?_
                        refine pr_ifT rfl (fun h41 => ?_) (fun h41 => ?_)
                        · simp only [ab_cmp, pr_16_8401, pr_8_10, pr_8_24, pr_8_9, pr_8_m4, pr_i_0, pr_i_1, pr_i_4, pr_i_m1] at h41
                          first
                          | contradiction
                          | exact absurd trivial h41
                          | exact absurd h41 (by decide)
                          | exact absurd (Classical.not_not.mp h41) (by decide)
                          | skip
                            refine pr_seqT (pc' := 48) 2 rfl ⟨⟨trivial, (by first | assumption | decide | exact ⟨Or.inl (by assumption), by assumption⟩ | exact ⟨by assumption, by assumption⟩ | omega)⟩, trivial⟩ ?_
                            refine pr_cvX [_] rfl rfl rfl rfl rfl (Nat.le_of_ble_eq_true rfl) (by first | assumption | decide | exact ⟨Or.inl (by assumption), by assumption⟩ | exact ⟨by assumption, by assumption⟩ | omega) (Nat.le_of_ble_eq_true rfl) (hlay) (fun v48 M48 q48 => ?_)
                            obtain ⟨rfl, w1, w2, w3⟩ := q48
                            obtain ⟨I1, Z1⟩ := M48
                            dsimp only at w1 w2 w3
                            subst w1
                            exact none0 I1 w2 w3 cd _ _ _ _
                        · simp only [ab_cmp, pr_16_8401, pr_8_10, pr_8_24, pr_8_9, pr_8_m4, pr_i_0, pr_i_1, pr_i_4, pr_i_m1] at h41
                          exact absurd (Classical.not_not.mp h41) (by decide)
