
/-! ===== read ===== -/
theorem sh_f_ix (n : Nat) (x : Int32) : sh_f true n x = if ixb x n then 0 else 2 := by
  unfold sh_f
  rw [if_pos rfl]
  by_cases a : x < 0
  · rw [if_pos a, if_neg (by simp [a])]
  · by_cases b : nI n ≤ x
    · rw [if_neg a, if_pos b, if_neg (by simp [b])]
    · rw [if_neg a, if_neg b, if_pos (by unfold ixb; rw [decide_eq_false a, decide_eq_false b]; rfl)]
theorem rd_fault {s : Nat} {o : Sh1} (as f : Int32) (i : Nat) (h : ab_H) (M : ab_M) (hs : pr_Sh h M.2.2 s) (hv : sh_v M.1 s o) : pr_C pX7_faultOfPair [.ref s, .int as, .int f, .int (nI i)] h M (some (.int (nI (rdF o as f i)))) h M := by
  cases o with
  | none => exact c_faultOfPair (th := false) (n := 0) as f (nI i) h M hs hv (fun e => by cases e)
  | some w =>
    obtain ⟨ln, n, c⟩ := w
    obtain ⟨w1, w2, w3, w4, w5, w6⟩ := hv
    have hf := c_faultOfPair (th := true) (n := n) as f (nI i) h M hs w1 (fun _ => w4)
    have e : sh_fp true n (M.1 s 2) as f (nI i) = nI (rdF (some (ln, n, c)) as f i) := by
      unfold sh_fp rdF
      rw [w2, sh_f_ix, sh_f_ix]
      dsimp only
      by_cases a : nI ln = as
      · rw [if_neg (by simp [a]), if_pos a]
        cases ixb (f + 2 * nI i) n <;> cases ixb (f + 2 * nI i + 1) n <;> rfl
      · rw [if_pos ⟨rfl, a⟩, if_neg a]
        rfl
    rw [e] at hf
    exact hf
theorem rd_vals {s : Nat} {o : Sh1} {as f : Int32} {i : Nat} (h : ab_H) (M : ab_M) (hs : pr_Sh h M.2.2 s) (hv : sh_v M.1 s o) (hF : rdF o as f i = 0) : pr_C pX7_firstOfPair [.ref s, .int f, .int (nI i)] h M (some (.int (rdA o f i))) h M ∧ pr_C pX7_secondOfPair [.ref s, .int f, .int (nI i)] h M (some (.int (rdB o f i))) h M := by
  cases o with
  | none => exact absurd (show (1 : Nat) = 0 from hF) (by decide)
  | some w =>
    obtain ⟨ln, n, c⟩ := w
    obtain ⟨w1, w2, w3, w4, w5, w6⟩ := hv
    have h1 := c_firstOfPair (th := true) (n := n) f (nI i) h M hs w1 (fun _ => w4) w5
    have h2 := c_secondOfPair (th := true) (n := n) f (nI i) h M hs w1 (fun _ => w4) w5
    unfold rdF at hF
    dsimp only at hF
    by_cases a : nI ln = as
    · rw [if_pos a] at hF
      by_cases b : (ixb (f + 2 * nI i) n && ixb (f + 2 * nI i + 1) n) = true
      · rw [Bool.and_eq_true] at b
        rw [sh_f_ix, if_pos b.1, if_pos rfl] at h1
        rw [sh_f_ix, if_pos b.2, if_pos rfl] at h2
        obtain ⟨b1, b2⟩ := b
        have z1 : (f + 2 * nI i).toNatClampNeg < n := by
          rcases pr_ix (f + 2 * nI i) (show n ≤ 1000000 by omega) with q | ⟨j, hj, e, q⟩
          · rw [show ixb (f + 2 * nI i) n = false from q] at b1; cases b1
          · rw [e, nI_clamp (by omega)]; exact hj
        have z2 : (f + 2 * nI i + 1).toNatClampNeg < n := by
          rcases pr_ix (f + 2 * nI i + 1) (show n ≤ 1000000 by omega) with q | ⟨j, hj, e, q⟩
          · rw [show ixb (f + 2 * nI i + 1) n = false from q] at b2; cases b2
          · rw [e, nI_clamp (by omega)]; exact hj
        rw [w6 _ (by omega)] at h1 h2
        exact ⟨h1, h2⟩
      · rw [if_neg b] at hF
        cases hF
    · rw [if_neg a] at hF
      cases hF
theorem f_letter_sh (X : St) (l v : Int32) : (f_letter X l v).2.2 = X.2 := by
  unfold f_letter
  split <;> rfl
theorem rdL_sh (o : Sh1) (f : Int32) (X : St) : ∀ k, (rdL o f k X).2 = X.2
  | 0 => rfl
  | k + 1 => by rw [rdL, f_letter_sh, rdL_sh o f X k]
theorem rdS_ok (o : Sh1) (as f : Int32) : ∀ d i, (rdS o as f d i).2.2 = false → ∀ j, i ≤ j → j < (rdS o as f d i).2.1 → rdF o as f j = 0 := by
  intro d
  induction d with
  | zero => intro i _ j h1 h2; exact absurd h2 (by unfold rdS; dsimp only; omega)
  | succ d ih =>
    intro i hb j h1 h2
    unfold rdS at hb h2
    by_cases a : rdF o as f i = 0
    · rw [if_pos a] at hb h2
      by_cases g : rdG o f i = true
      · rw [if_pos g] at hb h2
        by_cases e : j = i
        · subst e; exact a
        · exact ih (i + 1) hb j (by omega) h2
      · rw [if_neg g] at hb
        cases hb
    · rw [if_neg a] at h2
      dsimp only at h2
      omega
theorem rdS_le (o : Sh1) (as f : Int32) : ∀ d i, (rdS o as f d i).2.1 ≤ i + d ∧ (rdS o as f d i).1 ≤ 3 := by
  intro d
  induction d with
  | zero => intro i; unfold rdS; dsimp only; omega
  | succ d ih =>
    intro i
    unfold rdS
    have hF : rdF o as f i ≤ 3 := by
      unfold rdF
      split
      · decide
      · split
        · split <;> decide
        · decide
    split
    · split
      · have := ih (i + 1); omega
      · dsimp only; omega
    · dsimp only; omega
theorem cl_torn {I : Nat → Nat → Int32} {b : Bool} {X : St} (t : Nat) (hv : cl_v I b X) : cl_v (ab_u I 1 11 (nI t)) b (sTorn X t) := by
  have hb := tB_r b
  have hf : ∀ a, a ≠ 1 → ab_u I 1 11 (nI t) a = I a := fun a ha => ab_u_ne ha
  obtain ⟨v1, v2, v3, v4, v5, v6⟩ := hv
  refine ⟨?_, fun k hk => im_v_congr hk (by rw [hf 65 (by omega)]) (fun a x1 x2 => hf a (by omega)) (v2 k hk), fun k hk => sh_v_congr (hf _ (by omega)) (hf _ (by omega)) (v3 k hk), tp_v_congr (hf 2 (by omega)) (hf 3 (by omega)) v4, by rw [ab_u_j (by decide)]; exact v5, ab_u_at⟩
  obtain ⟨u1, u2, u3, u4, u5, u6, u7⟩ := v1
  refine ⟨ld_v_congr (fun a _ _ => hf a (by omega)) u1, by rw [hf _ (by omega)]; exact u2, u3, by rw [hf _ (by omega)]; exact u4, u5, fun q w hq => ⟨nm_v_congr (hf _ (by omega)) (hf _ (by omega)) (u6 q w hq).1, (u6 q w hq).2⟩, fun i k hk => ?_⟩
  rw [hf _ (by omega), hf _ (by omega)]
  exact u7 i k hk
theorem p_read2 {k ln n : Nat} {f : Int32} {X : St} {met came : Nat} (h : ab_H) (M : ab_M) (hk : k < 4) (hF : ∀ j, j < came → rdF (X.2.2.1 k) (nI ln) f j = 0) (hc20 : came ≤ 20) : ∀ dd i, i + dd = came → ∀ (M1 : ab_M) (b1 : Bool), Lay h M1.2.2 b1 → cl_v M1.1 b1 (rdL (X.2.2.1 k) f i X) → (∀ a, 172 ≤ a → M1.1 a = M.1 a ∧ M1.2.2 a = M.2.2 a) → pr_T pX10_read 116 [some (.ref 1), some (.int (nI k)), some (.int (nI ln)), some (.int f), some (.int (nI n)), some (.ref (164 + 2 * k)), some (.int (nI met)), some (.int (nI came)), some (.int (nI i))] [] h M1 (cp h M (nI came, sTorn (rdL (X.2.2.1 k) f came X) met)) := by
  intro dd
  induction dd with
  | zero =>
    intro i hi M1 b1 hl hv hfar
    obtain rfl : i = came := by omega
    have k1 := hl.1.1
    have e1 : nI i ≤ nI i := nI_le (Nat.le_refl _) (by omega)
    have fin : cp h M (nI i, sTorn (rdL (X.2.2.1 k) f i X) met) (some (.int (nI i))) (ab_u M1.1 1 11 (nI met), M1.2) := ⟨rfl, b1, hl, cl_torn met hv, fun a ha => ⟨by show ab_u M1.1 1 11 (nI met) a = M.1 a; rw [ab_u_ne (by omega)]; exact (hfar a ha).1, (hfar a ha).2⟩⟩
    refine pr_seqT (pc' := 120) 2 rfl ⟨⟨trivial, trivial⟩, trivial⟩ ?_
    refine pr_icT rfl (fun h120 => ?_) (fun h120 => ?_)
    · simp only [ab_cmp, pr_8_20, pr_8_m20, pr_i_0, pr_i_1, pr_i_2, pr_i_3, pr_i_m1] at h120
      first
      | contradiction
      | exact absurd trivial h120
      | exact absurd h120 (by decide)
      | exact absurd (Classical.not_not.mp h120) (by decide)
      | skip
        refine pr_seqT (pc' := 156) 3 rfl ⟨⟨⟨trivial, (by first | assumption | decide | exact ⟨Or.inl (by assumption), by assumption⟩ | exact ⟨by assumption, by assumption⟩ | omega)⟩, trivial⟩, (by first | assumption | decide | exact ⟨Or.inl (by assumption), by assumption⟩ | exact ⟨by assumption, by assumption⟩ | omega)⟩ ?_
        exact pr_seqT (pc' := 158) 1 rfl ⟨trivial, trivial⟩ (pr_irT rfl trivial fin)
    · simp only [ab_cmp, pr_8_20, pr_8_m20, pr_i_0, pr_i_1, pr_i_2, pr_i_3, pr_i_m1] at h120
      first
      | contradiction
      | exact absurd trivial h120
      | exact absurd h120 (by decide)
      | exact absurd (Classical.not_not.mp h120) (by decide)
      | skip
        refine pr_seqT (pc' := 129) 4 rfl ⟨⟨⟨⟨trivial, (by first | assumption | decide | exact ⟨Or.inl (by assumption), by assumption⟩ | exact ⟨by assumption, by assumption⟩ | omega)⟩, (by first | assumption | decide | exact ⟨Or.inl (by assumption), by assumption⟩ | exact ⟨by assumption, by assumption⟩ | omega)⟩, trivial⟩, trivial⟩ ?_
        fail "no call@129 yX7_firstOfPair"
  | succ dd ih =>
    intro i hi M1 b1 hl hv hfar
    have k1 := hl.1.1
    have e1 : ¬ nI came ≤ nI i := nI_ge (by omega) (by omega)
    have hs := hl.2.2.2.1.2 k hk
    have s1 := hs.2.2.1
    have sv := hv.2.2.1 k hk
    rw [rdL_sh] at sv
    have s0 : 164 + 2 * k ≠ 0 := by omega
    obtain ⟨ca, cb⟩ := rd_vals (as := nI ln) h M1 hs.2 sv (hF i (by omega))
    have cl := p_letter (rdA (X.2.2.1 k) f i) (rdB (X.2.2.1 k) f i) h M1 hl hv
    refine pr_seqT (pc' := 120) 2 rfl ⟨⟨trivial, trivial⟩, trivial⟩ ?_
    refine pr_icT rfl (fun h120 => ?_) (fun h120 => ?_)
    · simp only [ab_cmp, pr_8_20, pr_8_m20, pr_i_0, pr_i_1, pr_i_2, pr_i_3, pr_i_m1] at h120
      first
      | contradiction
      | exact absurd trivial h120
      | exact absurd h120 (by decide)
      | exact absurd (Classical.not_not.mp h120) (by decide)
      | skip
        refine pr_seqT (pc' := 158) 4 rfl ⟨⟨⟨⟨trivial, (by first | assumption | decide | exact ⟨Or.inl (by assumption), by assumption⟩ | exact ⟨by assumption, by assumption⟩ | omega)⟩, trivial⟩, (by first | assumption | decide | exact ⟨Or.inl (by assumption), by assumption⟩ | exact ⟨by assumption, by assumption⟩ | omega)⟩, trivial⟩ ?_
        exact pr_irT rfl trivial (by first | rfl | (simp [pr_b, pr_8_20, pr_8_m20, pr_i_0, pr_i_1, pr_i_2, pr_i_3, pr_i_m1, *]; done) | (simp_all [pr_b, pr_8_20, pr_8_m20, pr_i_0, pr_i_1, pr_i_2, pr_i_3, pr_i_m1]; done))
    · simp only [ab_cmp, pr_8_20, pr_8_m20, pr_i_0, pr_i_1, pr_i_2, pr_i_3, pr_i_m1] at h120
      first
      | contradiction
      | exact absurd trivial h120
      | exact absurd h120 (by decide)
      | exact absurd (Classical.not_not.mp h120) (by decide)
      | skip
        refine pr_seqT (pc' := 129) 4 rfl ⟨⟨⟨⟨trivial, (by first | assumption | decide | exact ⟨Or.inl (by assumption), by assumption⟩ | exact ⟨by assumption, by assumption⟩ | omega)⟩, (by first | assumption | decide | exact ⟨Or.inl (by assumption), by assumption⟩ | exact ⟨by assumption, by assumption⟩ | omega)⟩, trivial⟩, trivial⟩ ?_
        refine pr_cvT [_, _] rfl rfl rfl rfl rfl (Nat.le_of_ble_eq_true rfl) (by first | assumption | decide | exact ⟨Or.inl (by assumption), by assumption⟩ | exact ⟨by assumption, by assumption⟩ | omega) (Nat.le_of_ble_eq_true rfl) (ca) ?_
        refine pr_seqT (pc' := 137) 3 rfl ⟨⟨⟨trivial, (by first | assumption | decide | exact ⟨Or.inl (by assumption), by assumption⟩ | exact ⟨by assumption, by assumption⟩ | omega)⟩, trivial⟩, trivial⟩ ?_
        refine pr_cvT [_, _] rfl rfl rfl rfl rfl (Nat.le_of_ble_eq_true rfl) (by first | assumption | decide | exact ⟨Or.inl (by assumption), by assumption⟩ | exact ⟨by assumption, by assumption⟩ | omega) (Nat.le_of_ble_eq_true rfl) (cb) ?_
        refine pr_cvX [_, _] rfl rfl rfl rfl rfl (Nat.le_of_ble_eq_true rfl) (by first | assumption | decide | exact ⟨Or.inl (by assumption), by assumption⟩ | exact ⟨by assumption, by assumption⟩ | omega) (Nat.le_of_ble_eq_true rfl) (cl) (fun v140 M140 q140 => ?_)
        obtain ⟨rfl, b2, hl2, hv2, hf2⟩ := q140
        have hh := ih (i + 1) (by omega) M140 b2 hl2 hv2 (fun a ha => ⟨by rw [(hf2 a ha).1]; exact (hfar a ha).1, by rw [(hf2 a ha).2]; exact (hfar a ha).2⟩)
        rw [← nI_1] at hh
        refine pr_seqT (pc' := 116) 3 rfl ⟨⟨⟨trivial, trivial⟩, trivial⟩, trivial⟩ ?_
        exact hh
theorem p_read {b : Bool} {X : St} (x y f z : Int32) (h : ab_H) (M : ab_M) (hl : Lay h M.2.2 b) (hv : cl_v M.1 b X) : pr_X pX10_read [.ref 1, .int x, .int y, .int f, .int z] h M (cp h M (f_read X x y f z)) := by
  obtain ⟨k1, q0, q1, rc, q3, q4, q5, q6, q7, q8, r9⟩ := id hl.1
  unfold f_read
  have hp := c_within x 0 3 h M
  have hw := c_within y 0 2 h M
  have hw2 := c_within z 0 20 h M
  rcases pr_rg x 3 3 rfl (by decide) with z1 | ⟨k, hk, rfl, z1⟩
  · rw [z1] at hp ⊢
    refine pr_seqT (pc' := 3) 3 rfl ⟨⟨⟨trivial, trivial⟩, trivial⟩, trivial⟩ ?_
    try simp only [q8, pr_8_20, pr_8_m20, pr_i_0, pr_i_1, pr_i_2, pr_i_3, pr_i_m1]
    refine pr_csT [_, _, _] rfl rfl rfl rfl rfl (Nat.le_of_ble_eq_true rfl) (Nat.le_of_ble_eq_true rfl) (hp) ?_
    refine pr_ifT rfl (fun h6 => ?_) (fun h6 => ?_)
    · simp only [ab_cmp, pr_8_20, pr_8_m20, pr_i_0, pr_i_1, pr_i_2, pr_i_3, pr_i_m1] at h6
      first
      | contradiction
      | exact absurd trivial h6
      | exact absurd h6 (by decide)
      | exact absurd (Classical.not_not.mp h6) (by decide)
      | skip
        refine pr_seqT (pc' := 30) 1 rfl ⟨trivial, trivial⟩ ?_
        try simp only [q8, pr_8_20, pr_8_m20, pr_i_0, pr_i_1, pr_i_2, pr_i_3, pr_i_m1]
        exact pr_irT rfl trivial (by exact cp_s hl hv)
    · simp only [ab_cmp, pr_8_20, pr_8_m20, pr_i_0, pr_i_1, pr_i_2, pr_i_3, pr_i_m1] at h6
      first
      | contradiction
      | exact absurd trivial h6
      | exact absurd h6 (by decide)
      | exact absurd (Classical.not_not.mp h6) (by decide)
      | skip
        refine pr_seqT (pc' := 12) 3 rfl ⟨⟨⟨trivial, trivial⟩, trivial⟩, trivial⟩ ?_
        try simp only [q8, pr_8_20, pr_8_m20, pr_i_0, pr_i_1, pr_i_2, pr_i_3, pr_i_m1]
        fail "no call@12 yX10_within"
  · rcases pr_rg y 2 2 rfl (by decide) with z2 | ⟨ln, hln, rfl, z2⟩
    · rw [z1] at hp
      rw [z2] at hw
      rw [z1, z2]
      refine pr_seqT (pc' := 3) 3 rfl ⟨⟨⟨trivial, trivial⟩, trivial⟩, trivial⟩ ?_
      try simp only [q8, pr_8_20, pr_8_m20, pr_i_0, pr_i_1, pr_i_2, pr_i_3, pr_i_m1]
      refine pr_csT [_, _, _] rfl rfl rfl rfl rfl (Nat.le_of_ble_eq_true rfl) (Nat.le_of_ble_eq_true rfl) (hp) ?_
      refine pr_ifT rfl (fun h6 => ?_) (fun h6 => ?_)
      · simp only [ab_cmp, pr_8_20, pr_8_m20, pr_i_0, pr_i_1, pr_i_2, pr_i_3, pr_i_m1] at h6
        first
        | contradiction
        | exact absurd trivial h6
        | exact absurd h6 (by decide)
        | exact absurd (Classical.not_not.mp h6) (by decide)
        | skip
          refine pr_seqT (pc' := 30) 1 rfl ⟨trivial, trivial⟩ ?_
          try simp only [q8, pr_8_20, pr_8_m20, pr_i_0, pr_i_1, pr_i_2, pr_i_3, pr_i_m1]
          exact pr_irT rfl trivial (by exact cp_s hl hv)
      · simp only [ab_cmp, pr_8_20, pr_8_m20, pr_i_0, pr_i_1, pr_i_2, pr_i_3, pr_i_m1] at h6
        first
        | contradiction
        | exact absurd trivial h6
        | exact absurd h6 (by decide)
        | exact absurd (Classical.not_not.mp h6) (by decide)
        | skip
          refine pr_seqT (pc' := 12) 3 rfl ⟨⟨⟨trivial, trivial⟩, trivial⟩, trivial⟩ ?_
          try simp only [q8, pr_8_20, pr_8_m20, pr_i_0, pr_i_1, pr_i_2, pr_i_3, pr_i_m1]
          refine pr_csT [_, _, _] rfl rfl rfl rfl rfl (Nat.le_of_ble_eq_true rfl) (Nat.le_of_ble_eq_true rfl) (hw) ?_
          refine pr_ifT rfl (fun h15 => ?_) (fun h15 => ?_)
          · simp only [ab_cmp, pr_8_20, pr_8_m20, pr_i_0, pr_i_1, pr_i_2, pr_i_3, pr_i_m1] at h15
            first
            | contradiction
            | exact absurd trivial h15
            | exact absurd h15 (by decide)
            | exact absurd (Classical.not_not.mp h15) (by decide)
            | skip
              refine pr_seqT (pc' := 30) 1 rfl ⟨trivial, trivial⟩ ?_
              try simp only [q8, pr_8_20, pr_8_m20, pr_i_0, pr_i_1, pr_i_2, pr_i_3, pr_i_m1]
              exact pr_irT rfl trivial (by exact cp_s hl hv)
          · simp only [ab_cmp, pr_8_20, pr_8_m20, pr_i_0, pr_i_1, pr_i_2, pr_i_3, pr_i_m1] at h15
            first
            | contradiction
            | exact absurd trivial h15
            | exact absurd h15 (by decide)
            | exact absurd (Classical.not_not.mp h15) (by decide)
            | skip
              refine pr_seqT (pc' := 23) 3 rfl ⟨⟨⟨trivial, trivial⟩, trivial⟩, trivial⟩ ?_
              try simp only [q8, pr_8_20, pr_8_m20, pr_i_0, pr_i_1, pr_i_2, pr_i_3, pr_i_m1]
              fail "no call@23 yX10_within"
    · rcases pr_rg z 20 20 rfl (by decide) with z3 | ⟨n, hn, rfl, z3⟩
      · rw [z1] at hp
        rw [z2] at hw
        rw [z3] at hw2
        rw [z1, z2, z3]
        refine pr_seqT (pc' := 3) 3 rfl ⟨⟨⟨trivial, trivial⟩, trivial⟩, trivial⟩ ?_
        try simp only [q8, pr_8_20, pr_8_m20, pr_i_0, pr_i_1, pr_i_2, pr_i_3, pr_i_m1]
        refine pr_csT [_, _, _] rfl rfl rfl rfl rfl (Nat.le_of_ble_eq_true rfl) (Nat.le_of_ble_eq_true rfl) (hp) ?_
        refine pr_ifT rfl (fun h6 => ?_) (fun h6 => ?_)
        · simp only [ab_cmp, pr_8_20, pr_8_m20, pr_i_0, pr_i_1, pr_i_2, pr_i_3, pr_i_m1] at h6
          first
          | contradiction
          | exact absurd trivial h6
          | exact absurd h6 (by decide)
          | exact absurd (Classical.not_not.mp h6) (by decide)
          | skip
            refine pr_seqT (pc' := 30) 1 rfl ⟨trivial, trivial⟩ ?_
            try simp only [q8, pr_8_20, pr_8_m20, pr_i_0, pr_i_1, pr_i_2, pr_i_3, pr_i_m1]
            exact pr_irT rfl trivial (by exact cp_s hl hv)
        · simp only [ab_cmp, pr_8_20, pr_8_m20, pr_i_0, pr_i_1, pr_i_2, pr_i_3, pr_i_m1] at h6
          first
          | contradiction
          | exact absurd trivial h6
          | exact absurd h6 (by decide)
          | exact absurd (Classical.not_not.mp h6) (by decide)
          | skip
            refine pr_seqT (pc' := 12) 3 rfl ⟨⟨⟨trivial, trivial⟩, trivial⟩, trivial⟩ ?_
            try simp only [q8, pr_8_20, pr_8_m20, pr_i_0, pr_i_1, pr_i_2, pr_i_3, pr_i_m1]
            refine pr_csT [_, _, _] rfl rfl rfl rfl rfl (Nat.le_of_ble_eq_true rfl) (Nat.le_of_ble_eq_true rfl) (hw) ?_
            refine pr_ifT rfl (fun h15 => ?_) (fun h15 => ?_)
            · simp only [ab_cmp, pr_8_20, pr_8_m20, pr_i_0, pr_i_1, pr_i_2, pr_i_3, pr_i_m1] at h15
              first
              | contradiction
              | exact absurd trivial h15
              | exact absurd h15 (by decide)
              | exact absurd (Classical.not_not.mp h15) (by decide)
              | skip
                refine pr_seqT (pc' := 30) 1 rfl ⟨trivial, trivial⟩ ?_
                try simp only [q8, pr_8_20, pr_8_m20, pr_i_0, pr_i_1, pr_i_2, pr_i_3, pr_i_m1]
                exact pr_irT rfl trivial (by exact cp_s hl hv)
            · simp only [ab_cmp, pr_8_20, pr_8_m20, pr_i_0, pr_i_1, pr_i_2, pr_i_3, pr_i_m1] at h15
              first
              | contradiction
              | exact absurd trivial h15
              | exact absurd h15 (by decide)
              | exact absurd (Classical.not_not.mp h15) (by decide)
              | skip
                refine pr_seqT (pc' := 23) 3 rfl ⟨⟨⟨trivial, trivial⟩, trivial⟩, trivial⟩ ?_
                try simp only [q8, pr_8_20, pr_8_m20, pr_i_0, pr_i_1, pr_i_2, pr_i_3, pr_i_m1]
                refine pr_csT [_, _, _] rfl rfl rfl rfl rfl (Nat.le_of_ble_eq_true rfl) (Nat.le_of_ble_eq_true rfl) (hw2) ?_
                refine pr_ifT rfl (fun h26 => ?_) (fun h26 => ?_)
                · simp only [ab_cmp, pr_8_20, pr_8_m20, pr_i_0, pr_i_1, pr_i_2, pr_i_3, pr_i_m1] at h26
                  first
                  | contradiction
                  | exact absurd trivial h26
                  | exact absurd h26 (by decide)
                  | exact absurd (Classical.not_not.mp h26) (by decide)
                  | skip
                    refine pr_seqT (pc' := 52) 13 rfl ⟨⟨⟨⟨⟨⟨⟨⟨⟨⟨⟨⟨⟨trivial, (by first | assumption | (simp only [q8, pr_8_20, pr_8_m20, pr_i_0, pr_i_1, pr_i_2, pr_i_3, pr_i_m1]; first | assumption | decide | exact ⟨by assumption, by assumption⟩ | exact ⟨Or.inl (by assumption), by assumption⟩ | omega) | decide | exact ⟨Or.inl (by assumption), by assumption⟩ | exact ⟨by assumption, by assumption⟩ | omega)⟩, (by first | assumption | (simp only [q8, pr_8_20, pr_8_m20, pr_i_0, pr_i_1, pr_i_2, pr_i_3, pr_i_m1]; first | assumption | decide | exact ⟨by assumption, by assumption⟩ | exact ⟨Or.inl (by assumption), by assumption⟩ | omega) | decide | exact ⟨Or.inl (by assumption), by assumption⟩ | exact ⟨by assumption, by assumption⟩ | omega)⟩, trivial⟩, (by first | assumption | (simp only [q8, pr_8_20, pr_8_m20, pr_i_0, pr_i_1, pr_i_2, pr_i_3, pr_i_m1]; first | assumption | decide | exact ⟨by assumption, by assumption⟩ | exact ⟨Or.inl (by assumption), by assumption⟩ | omega) | decide | exact ⟨Or.inl (by assumption), by assumption⟩ | exact ⟨by assumption, by assumption⟩ | omega)⟩, (by first | assumption | (simp only [q8, pr_8_20, pr_8_m20, pr_i_0, pr_i_1, pr_i_2, pr_i_3, pr_i_m1]; first | assumption | decide | exact ⟨by assumption, by assumption⟩ | exact ⟨Or.inl (by assumption), by assumption⟩ | omega) | decide | exact ⟨Or.inl (by assumption), by assumption⟩ | exact ⟨by assumption, by assumption⟩ | omega)⟩, trivial⟩, trivial⟩, trivial⟩, trivial⟩, trivial⟩, trivial⟩, trivial⟩, trivial⟩ ?_
                    try simp only [q8, pr_8_20, pr_8_m20, pr_i_0, pr_i_1, pr_i_2, pr_i_3, pr_i_m1]
                    refine pr_icT rfl (fun h52 => ?_) (fun h52 => ?_)
                    · simp only [ab_cmp, pr_8_20, pr_8_m20, pr_i_0, pr_i_1, pr_i_2, pr_i_3, pr_i_m1] at h52
                      first
                      | contradiction
                      | exact absurd trivial h52
                      | exact absurd h52 (by decide)
                      | exact absurd (Classical.not_not.mp h52) (by decide)
                      | skip
                        refine pr_seqT (pc' := 120) 4 rfl ⟨⟨⟨⟨trivial, trivial⟩, trivial⟩, trivial⟩, trivial⟩ ?_
                        try simp only [q8, pr_8_20, pr_8_m20, pr_i_0, pr_i_1, pr_i_2, pr_i_3, pr_i_m1]
                        refine pr_icT rfl (fun h120 => ?_) (fun h120 => ?_)
                        · simp only [ab_cmp, pr_8_20, pr_8_m20, pr_i_0, pr_i_1, pr_i_2, pr_i_3, pr_i_m1] at h120
                          first
                          | contradiction
                          | exact absurd trivial h120
                          | exact absurd h120 (by decide)
                          | exact absurd (Classical.not_not.mp h120) (by decide)
                          | skip
                            refine pr_seqT (pc' := 158) 4 rfl ⟨⟨⟨⟨trivial, (by first | assumption | (simp only [q8, pr_8_20, pr_8_m20, pr_i_0, pr_i_1, pr_i_2, pr_i_3, pr_i_m1]; first | assumption | decide | exact ⟨by assumption, by assumption⟩ | exact ⟨Or.inl (by assumption), by assumption⟩ | omega) | decide | exact ⟨Or.inl (by assumption), by assumption⟩ | exact ⟨by assumption, by assumption⟩ | omega)⟩, trivial⟩, (by first | assumption | (simp only [q8, pr_8_20, pr_8_m20, pr_i_0, pr_i_1, pr_i_2, pr_i_3, pr_i_m1]; first | assumption | decide | exact ⟨by assumption, by assumption⟩ | exact ⟨Or.inl (by assumption), by assumption⟩ | omega) | decide | exact ⟨Or.inl (by assumption), by assumption⟩ | exact ⟨by assumption, by assumption⟩ | omega)⟩, trivial⟩ ?_
                            try simp only [q8, pr_8_20, pr_8_m20, pr_i_0, pr_i_1, pr_i_2, pr_i_3, pr_i_m1]
                            exact pr_irT rfl trivial (by first | rfl | (simp only [q8, pr_8_20, pr_8_m20, pr_i_0, pr_i_1, pr_i_2, pr_i_3, pr_i_m1]; done) | (simp [pr_b, pr_8_20, pr_8_m20, pr_i_0, pr_i_1, pr_i_2, pr_i_3, pr_i_m1, *]; done) | (simp_all [pr_b, pr_8_20, pr_8_m20, pr_i_0, pr_i_1, pr_i_2, pr_i_3, pr_i_m1]; done))
                        · simp only [ab_cmp, pr_8_20, pr_8_m20, pr_i_0, pr_i_1, pr_i_2, pr_i_3, pr_i_m1] at h120
                          first
                          | contradiction
                          | exact absurd trivial h120
                          | exact absurd h120 (by decide)
                          | exact absurd (Classical.not_not.mp h120) (by decide)
                          | skip
                            refine pr_seqT (pc' := 129) 4 rfl ⟨⟨⟨⟨trivial, (by first | assumption | (simp only [q8, pr_8_20, pr_8_m20, pr_i_0, pr_i_1, pr_i_2, pr_i_3, pr_i_m1]; first | assumption | decide | exact ⟨by assumption, by assumption⟩ | exact ⟨Or.inl (by assumption), by assumption⟩ | omega) | decide | exact ⟨Or.inl (by assumption), by assumption⟩ | exact ⟨by assumption, by assumption⟩ | omega)⟩, (by first | assumption | (simp only [q8, pr_8_20, pr_8_m20, pr_i_0, pr_i_1, pr_i_2, pr_i_3, pr_i_m1]; first | assumption | decide | exact ⟨by assumption, by assumption⟩ | exact ⟨Or.inl (by assumption), by assumption⟩ | omega) | decide | exact ⟨Or.inl (by assumption), by assumption⟩ | exact ⟨by assumption, by assumption⟩ | omega)⟩, trivial⟩, trivial⟩ ?_
                            try simp only [q8, pr_8_20, pr_8_m20, pr_i_0, pr_i_1, pr_i_2, pr_i_3, pr_i_m1]
                            fail "no call@129 yX7_firstOfPair"
                    · simp only [ab_cmp, pr_8_20, pr_8_m20, pr_i_0, pr_i_1, pr_i_2, pr_i_3, pr_i_m1] at h52
                      first
                      | contradiction
                      | exact absurd trivial h52
                      | exact absurd h52 (by decide)
                      | exact absurd (Classical.not_not.mp h52) (by decide)
                      | skip
                        refine pr_seqT (pc' := 57) 1 rfl ⟨trivial, trivial⟩ ?_
                        try simp only [q8, pr_8_20, pr_8_m20, pr_i_0, pr_i_1, pr_i_2, pr_i_3, pr_i_m1]
                        refine pr_ifT rfl (fun h57 => ?_) (fun h57 => ?_)
                        · simp only [ab_cmp, pr_8_20, pr_8_m20, pr_i_0, pr_i_1, pr_i_2, pr_i_3, pr_i_m1] at h57
                          first
                          | contradiction
                          | exact absurd trivial h57
                          | exact absurd h57 (by decide)
                          | exact absurd (Classical.not_not.mp h57) (by decide)
                          | skip
                            refine pr_seqT (pc' := 120) 4 rfl ⟨⟨⟨⟨trivial, trivial⟩, trivial⟩, trivial⟩, trivial⟩ ?_
                            try simp only [q8, pr_8_20, pr_8_m20, pr_i_0, pr_i_1, pr_i_2, pr_i_3, pr_i_m1]
                            refine pr_icT rfl (fun h120 => ?_) (fun h120 => ?_)
                            · simp only [ab_cmp, pr_8_20, pr_8_m20, pr_i_0, pr_i_1, pr_i_2, pr_i_3, pr_i_m1] at h120
                              first
                              | contradiction
                              | exact absurd trivial h120
                              | exact absurd h120 (by decide)
                              | exact absurd (Classical.not_not.mp h120) (by decide)
                              | skip
                                refine pr_seqT (pc' := 158) 4 rfl ⟨⟨⟨⟨trivial, (by first | assumption | (simp only [q8, pr_8_20, pr_8_m20, pr_i_0, pr_i_1, pr_i_2, pr_i_3, pr_i_m1]; first | assumption | decide | exact ⟨by assumption, by assumption⟩ | exact ⟨Or.inl (by assumption), by assumption⟩ | omega) | decide | exact ⟨Or.inl (by assumption), by assumption⟩ | exact ⟨by assumption, by assumption⟩ | omega)⟩, trivial⟩, (by first | assumption | (simp only [q8, pr_8_20, pr_8_m20, pr_i_0, pr_i_1, pr_i_2, pr_i_3, pr_i_m1]; first | assumption | decide | exact ⟨by assumption, by assumption⟩ | exact ⟨Or.inl (by assumption), by assumption⟩ | omega) | decide | exact ⟨Or.inl (by assumption), by assumption⟩ | exact ⟨by assumption, by assumption⟩ | omega)⟩, trivial⟩ ?_
                                try simp only [q8, pr_8_20, pr_8_m20, pr_i_0, pr_i_1, pr_i_2, pr_i_3, pr_i_m1]
                                exact pr_irT rfl trivial (by first | rfl | (simp only [q8, pr_8_20, pr_8_m20, pr_i_0, pr_i_1, pr_i_2, pr_i_3, pr_i_m1]; done) | (simp [pr_b, pr_8_20, pr_8_m20, pr_i_0, pr_i_1, pr_i_2, pr_i_3, pr_i_m1, *]; done) | (simp_all [pr_b, pr_8_20, pr_8_m20, pr_i_0, pr_i_1, pr_i_2, pr_i_3, pr_i_m1]; done))
                            · simp only [ab_cmp, pr_8_20, pr_8_m20, pr_i_0, pr_i_1, pr_i_2, pr_i_3, pr_i_m1] at h120
                              first
                              | contradiction
                              | exact absurd trivial h120
                              | exact absurd h120 (by decide)
                              | exact absurd (Classical.not_not.mp h120) (by decide)
                              | skip
                                refine pr_seqT (pc' := 129) 4 rfl ⟨⟨⟨⟨trivial, (by first | assumption | (simp only [q8, pr_8_20, pr_8_m20, pr_i_0, pr_i_1, pr_i_2, pr_i_3, pr_i_m1]; first | assumption | decide | exact ⟨by assumption, by assumption⟩ | exact ⟨Or.inl (by assumption), by assumption⟩ | omega) | decide | exact ⟨Or.inl (by assumption), by assumption⟩ | exact ⟨by assumption, by assumption⟩ | omega)⟩, (by first | assumption | (simp only [q8, pr_8_20, pr_8_m20, pr_i_0, pr_i_1, pr_i_2, pr_i_3, pr_i_m1]; first | assumption | decide | exact ⟨by assumption, by assumption⟩ | exact ⟨Or.inl (by assumption), by assumption⟩ | omega) | decide | exact ⟨Or.inl (by assumption), by assumption⟩ | exact ⟨by assumption, by assumption⟩ | omega)⟩, trivial⟩, trivial⟩ ?_
                                try simp only [q8, pr_8_20, pr_8_m20, pr_i_0, pr_i_1, pr_i_2, pr_i_3, pr_i_m1]
                                fail "no call@129 yX7_firstOfPair"
                        · simp only [ab_cmp, pr_8_20, pr_8_m20, pr_i_0, pr_i_1, pr_i_2, pr_i_3, pr_i_m1] at h57
                          first
                          | contradiction
                          | exact absurd trivial h57
                          | exact absurd h57 (by decide)
                          | exact absurd (Classical.not_not.mp h57) (by decide)
                          | skip
                            refine pr_seqT (pc' := 66) 4 rfl ⟨⟨⟨⟨trivial, (by first | assumption | (simp only [q8, pr_8_20, pr_8_m20, pr_i_0, pr_i_1, pr_i_2, pr_i_3, pr_i_m1]; first | assumption | decide | exact ⟨by assumption, by assumption⟩ | exact ⟨Or.inl (by assumption), by assumption⟩ | omega) | decide | exact ⟨Or.inl (by assumption), by assumption⟩ | exact ⟨by assumption, by assumption⟩ | omega)⟩, trivial⟩, trivial⟩, trivial⟩ ?_
                            try simp only [q8, pr_8_20, pr_8_m20, pr_i_0, pr_i_1, pr_i_2, pr_i_3, pr_i_m1]
                            fail "no call@66 yX7_faultOfPair"
                · simp only [ab_cmp, pr_8_20, pr_8_m20, pr_i_0, pr_i_1, pr_i_2, pr_i_3, pr_i_m1] at h26
                  first
                  | contradiction
                  | exact absurd trivial h26
                  | exact absurd h26 (by decide)
                  | exact absurd (Classical.not_not.mp h26) (by decide)
                  | skip
                    refine pr_seqT (pc' := 30) 1 rfl ⟨trivial, trivial⟩ ?_
                    try simp only [q8, pr_8_20, pr_8_m20, pr_i_0, pr_i_1, pr_i_2, pr_i_3, pr_i_m1]
                    exact pr_irT rfl trivial (by exact cp_s hl hv)
      · rw [z1] at hp
        rw [z2] at hw
        rw [z3] at hw2
        rw [z1, z2, z3]
        have e3 : (nI k).toNatClampNeg = k := nI_clamp (by omega)
        have e4 : (nI n).toNatClampNeg = n := nI_clamp (by omega)
        rw [if_pos (show (true && true && true) = true from rfl), e3, e4]
        obtain ⟨⟨sa, sb⟩, hs⟩ := hl.2.2.2.1
        obtain ⟨i1, i2⟩ := hs k (by omega)
        have s1 := i2.2.1
        have s0 : 164 + 2 * k ≠ 0 := by omega
        have sv := hv.2.2.1 k (by omega)
        have vi : (24 ≤ ab_k h 66 ∧ ab_k h 66 ≤ 27) ∧ vp_in (nI k) (ab_n h 66) := ⟨by rw [sa]; decide, by rw [sb]; exact vp_in_nI (by omega) (by decide)⟩
        have loop : ∀ dd i, i + dd = n → rdS (X.2.2.1 k) (nI ln) f n 0 = rdS (X.2.2.1 k) (nI ln) f dd i → pr_T pX10_read 48 [some (.ref 1), some (.int (nI k)), some (.int (nI ln)), some (.int f), some (.int (nI n)), some (.ref (164 + 2 * k)), some (.int 0), some (.int (nI i)), some (.int (nI i))] [] h M (cp h M (if (rdS (X.2.2.1 k) (nI ln) f n 0).2.2 then (-20 - nI (rdS (X.2.2.1 k) (nI ln) f n 0).2.1, X) else (nI (rdS (X.2.2.1 k) (nI ln) f n 0).2.1, sTorn (rdL (X.2.2.1 k) f (rdS (X.2.2.1 k) (nI ln) f n 0).2.1 X) (rdS (X.2.2.1 k) (nI ln) f n 0).1))) := by
          intro dd
          induction dd with
          | zero =>
            intro i hi hr
            obtain rfl : i = n := by omega
            have e1 : nI i ≤ nI i := nI_le (Nat.le_refl _) (by omega)
            have ok := rdS_ok (X.2.2.1 k) (nI ln) f i 0
            rw [hr] at ok ⊢
            rw [show rdS (X.2.2.1 k) (nI ln) f 0 i = (0, i, false) from rfl] at ok ⊢
            dsimp only at ok ⊢
            rw [if_neg (by decide)]
            have h2 := p_read2 (n := i) (ln := ln) (f := f) (X := X) (met := 0) (came := i) h M (show k < 4 by omega) (fun j hj => ok rfl j (by omega) hj) (by omega) i 0 (by omega) M b hl hv (fun a _ => ⟨rfl, rfl⟩)
            refine pr_seqT (pc' := 52) 2 rfl ⟨⟨trivial, trivial⟩, trivial⟩ ?_
            refine pr_icT rfl (fun h52 => ?_) (fun h52 => ?_)
            · simp only [ab_cmp, pr_8_20, pr_8_m20, pr_i_0, pr_i_1, pr_i_2, pr_i_3, pr_i_m1] at h52
              first
              | contradiction
              | exact absurd trivial h52
              | exact absurd h52 (by decide)
              | exact absurd (Classical.not_not.mp h52) (by decide)
              | skip
                refine pr_seqT (pc' := 116) 2 rfl ⟨⟨trivial, trivial⟩, trivial⟩ ?_
                exact h2
            · simp only [ab_cmp, pr_8_20, pr_8_m20, pr_i_0, pr_i_1, pr_i_2, pr_i_3, pr_i_m1] at h52
              first
              | contradiction
              | exact absurd trivial h52
              | exact absurd h52 (by decide)
              | exact absurd (Classical.not_not.mp h52) (by decide)
              | skip
                refine pr_seqT (pc' := 57) 1 rfl ⟨trivial, trivial⟩ ?_
                refine pr_ifT rfl (fun h57 => ?_) (fun h57 => ?_)
                · simp only [ab_cmp, pr_8_20, pr_8_m20, pr_i_0, pr_i_1, pr_i_2, pr_i_3, pr_i_m1] at h57
                  first
                  | contradiction
                  | exact absurd trivial h57
                  | exact absurd h57 (by decide)
                  | exact absurd (Classical.not_not.mp h57) (by decide)
                  | skip
                    refine pr_seqT (pc' := 116) 2 rfl ⟨⟨trivial, trivial⟩, trivial⟩ ?_
                    exact h2
                · simp only [ab_cmp, pr_8_20, pr_8_m20, pr_i_0, pr_i_1, pr_i_2, pr_i_3, pr_i_m1] at h57
                  first
                  | contradiction
                  | exact absurd trivial h57
                  | exact absurd h57 (by decide)
                  | exact absurd (Classical.not_not.mp h57) (by decide)
                  | skip
                    refine pr_seqT (pc' := 66) 4 rfl ⟨⟨⟨⟨trivial, (by first | assumption | decide | exact ⟨Or.inl (by assumption), by assumption⟩ | exact ⟨by assumption, by assumption⟩ | omega)⟩, trivial⟩, trivial⟩, trivial⟩ ?_
                    fail "no call@66 yX7_faultOfPair"
          | succ dd ih =>
            intro i hi hr
            have e1 : ¬ nI n ≤ nI i := nI_ge (by omega) (by omega)
            have hfa := rd_fault (nI ln) f i h M i2 sv
            by_cases cF : rdF (X.2.2.1 k) (nI ln) f i = 0
            · rw [cF] at hfa
              obtain ⟨ca, cb⟩ := rd_vals h M i2 sv cF
              have hlw := c_isLetterAndWorth (rdA (X.2.2.1 k) f i) (rdB (X.2.2.1 k) f i) h M
              cases cG : rdG (X.2.2.1 k) f i with
              | true =>
                rw [show (pr_in (rdA (X.2.2.1 k) f i) 0 25 && pr_in (rdB (X.2.2.1 k) f i) 0 40) = true from cG] at hlw
                have hh := ih (i + 1) (by omega) (by rw [hr, rdS, if_pos cF, if_pos cG])
                rw [← nI_1] at hh
                refine pr_seqT (pc' := 52) 2 rfl ⟨⟨trivial, trivial⟩, trivial⟩ ?_
                try simp only [pr_n0, pr_8_20, pr_8_m20, pr_i_0, pr_i_1, pr_i_2, pr_i_3, pr_i_m1]
                refine pr_icT rfl (fun h52 => ?_) (fun h52 => ?_)
                · simp only [ab_cmp, pr_8_20, pr_8_m20, pr_i_0, pr_i_1, pr_i_2, pr_i_3, pr_i_m1] at h52
                  first
                  | contradiction
                  | exact absurd trivial h52
                  | exact absurd h52 (by decide)
                  | exact absurd (Classical.not_not.mp h52) (by decide)
                  | skip
                    refine pr_seqT (pc' := 120) 4 rfl ⟨⟨⟨⟨trivial, trivial⟩, trivial⟩, trivial⟩, trivial⟩ ?_
                    try simp only [pr_n0, pr_8_20, pr_8_m20, pr_i_0, pr_i_1, pr_i_2, pr_i_3, pr_i_m1]
                    refine pr_icT rfl (fun h120 => ?_) (fun h120 => ?_)
                    · simp only [ab_cmp, pr_8_20, pr_8_m20, pr_i_0, pr_i_1, pr_i_2, pr_i_3, pr_i_m1] at h120
                      first
                      | contradiction
                      | exact absurd trivial h120
                      | exact absurd h120 (by decide)
                      | exact absurd (Classical.not_not.mp h120) (by decide)
                      | skip
                        refine pr_seqT (pc' := 158) 4 rfl ⟨⟨⟨⟨trivial, (by first | assumption | (simp only [pr_n0, pr_8_20, pr_8_m20, pr_i_0, pr_i_1, pr_i_2, pr_i_3, pr_i_m1]; first | assumption | decide | exact ⟨by assumption, by assumption⟩ | exact ⟨Or.inl (by assumption), by assumption⟩ | omega) | decide | exact ⟨Or.inl (by assumption), by assumption⟩ | exact ⟨by assumption, by assumption⟩ | omega)⟩, trivial⟩, (by first | assumption | (simp only [pr_n0, pr_8_20, pr_8_m20, pr_i_0, pr_i_1, pr_i_2, pr_i_3, pr_i_m1]; first | assumption | decide | exact ⟨by assumption, by assumption⟩ | exact ⟨Or.inl (by assumption), by assumption⟩ | omega) | decide | exact ⟨Or.inl (by assumption), by assumption⟩ | exact ⟨by assumption, by assumption⟩ | omega)⟩, trivial⟩ ?_
                        try simp only [pr_n0, pr_8_20, pr_8_m20, pr_i_0, pr_i_1, pr_i_2, pr_i_3, pr_i_m1]
                        exact pr_irT rfl trivial (by first | rfl | (simp only [pr_n0, pr_8_20, pr_8_m20, pr_i_0, pr_i_1, pr_i_2, pr_i_3, pr_i_m1]; done) | (simp [pr_b, pr_8_20, pr_8_m20, pr_i_0, pr_i_1, pr_i_2, pr_i_3, pr_i_m1, *]; done) | (simp_all [pr_b, pr_8_20, pr_8_m20, pr_i_0, pr_i_1, pr_i_2, pr_i_3, pr_i_m1]; done))
                    · simp only [ab_cmp, pr_8_20, pr_8_m20, pr_i_0, pr_i_1, pr_i_2, pr_i_3, pr_i_m1] at h120
                      first
                      | contradiction
                      | exact absurd trivial h120
                      | exact absurd h120 (by decide)
                      | exact absurd (Classical.not_not.mp h120) (by decide)
                      | skip
                        refine pr_seqT (pc' := 129) 4 rfl ⟨⟨⟨⟨trivial, (by first | assumption | (simp only [pr_n0, pr_8_20, pr_8_m20, pr_i_0, pr_i_1, pr_i_2, pr_i_3, pr_i_m1]; first | assumption | decide | exact ⟨by assumption, by assumption⟩ | exact ⟨Or.inl (by assumption), by assumption⟩ | omega) | decide | exact ⟨Or.inl (by assumption), by assumption⟩ | exact ⟨by assumption, by assumption⟩ | omega)⟩, (by first | assumption | (simp only [pr_n0, pr_8_20, pr_8_m20, pr_i_0, pr_i_1, pr_i_2, pr_i_3, pr_i_m1]; first | assumption | decide | exact ⟨by assumption, by assumption⟩ | exact ⟨Or.inl (by assumption), by assumption⟩ | omega) | decide | exact ⟨Or.inl (by assumption), by assumption⟩ | exact ⟨by assumption, by assumption⟩ | omega)⟩, trivial⟩, trivial⟩ ?_
                        try simp only [pr_n0, pr_8_20, pr_8_m20, pr_i_0, pr_i_1, pr_i_2, pr_i_3, pr_i_m1]
                        fail "no call@129 yX7_firstOfPair"
                · simp only [ab_cmp, pr_8_20, pr_8_m20, pr_i_0, pr_i_1, pr_i_2, pr_i_3, pr_i_m1] at h52
                  first
                  | contradiction
                  | exact absurd trivial h52
                  | exact absurd h52 (by decide)
                  | exact absurd (Classical.not_not.mp h52) (by decide)
                  | skip
                    refine pr_seqT (pc' := 57) 1 rfl ⟨trivial, trivial⟩ ?_
                    try simp only [pr_n0, pr_8_20, pr_8_m20, pr_i_0, pr_i_1, pr_i_2, pr_i_3, pr_i_m1]
                    refine pr_ifT rfl (fun h57 => ?_) (fun h57 => ?_)
                    · simp only [ab_cmp, pr_8_20, pr_8_m20, pr_i_0, pr_i_1, pr_i_2, pr_i_3, pr_i_m1] at h57
                      first
                      | contradiction
                      | exact absurd trivial h57
                      | exact absurd h57 (by decide)
                      | exact absurd (Classical.not_not.mp h57) (by decide)
                      | skip
                        refine pr_seqT (pc' := 120) 4 rfl ⟨⟨⟨⟨trivial, trivial⟩, trivial⟩, trivial⟩, trivial⟩ ?_
                        try simp only [pr_n0, pr_8_20, pr_8_m20, pr_i_0, pr_i_1, pr_i_2, pr_i_3, pr_i_m1]
                        refine pr_icT rfl (fun h120 => ?_) (fun h120 => ?_)
                        · simp only [ab_cmp, pr_8_20, pr_8_m20, pr_i_0, pr_i_1, pr_i_2, pr_i_3, pr_i_m1] at h120
                          first
                          | contradiction
                          | exact absurd trivial h120
                          | exact absurd h120 (by decide)
                          | exact absurd (Classical.not_not.mp h120) (by decide)
                          | skip
                            refine pr_seqT (pc' := 158) 4 rfl ⟨⟨⟨⟨trivial, (by first | assumption | (simp only [pr_n0, pr_8_20, pr_8_m20, pr_i_0, pr_i_1, pr_i_2, pr_i_3, pr_i_m1]; first | assumption | decide | exact ⟨by assumption, by assumption⟩ | exact ⟨Or.inl (by assumption), by assumption⟩ | omega) | decide | exact ⟨Or.inl (by assumption), by assumption⟩ | exact ⟨by assumption, by assumption⟩ | omega)⟩, trivial⟩, (by first | assumption | (simp only [pr_n0, pr_8_20, pr_8_m20, pr_i_0, pr_i_1, pr_i_2, pr_i_3, pr_i_m1]; first | assumption | decide | exact ⟨by assumption, by assumption⟩ | exact ⟨Or.inl (by assumption), by assumption⟩ | omega) | decide | exact ⟨Or.inl (by assumption), by assumption⟩ | exact ⟨by assumption, by assumption⟩ | omega)⟩, trivial⟩ ?_
                            try simp only [pr_n0, pr_8_20, pr_8_m20, pr_i_0, pr_i_1, pr_i_2, pr_i_3, pr_i_m1]
                            exact pr_irT rfl trivial (by first | rfl | (simp only [pr_n0, pr_8_20, pr_8_m20, pr_i_0, pr_i_1, pr_i_2, pr_i_3, pr_i_m1]; done) | (simp [pr_b, pr_8_20, pr_8_m20, pr_i_0, pr_i_1, pr_i_2, pr_i_3, pr_i_m1, *]; done) | (simp_all [pr_b, pr_8_20, pr_8_m20, pr_i_0, pr_i_1, pr_i_2, pr_i_3, pr_i_m1]; done))
                        · simp only [ab_cmp, pr_8_20, pr_8_m20, pr_i_0, pr_i_1, pr_i_2, pr_i_3, pr_i_m1] at h120
                          first
                          | contradiction
                          | exact absurd trivial h120
                          | exact absurd h120 (by decide)
                          | exact absurd (Classical.not_not.mp h120) (by decide)
                          | skip
                            refine pr_seqT (pc' := 129) 4 rfl ⟨⟨⟨⟨trivial, (by first | assumption | (simp only [pr_n0, pr_8_20, pr_8_m20, pr_i_0, pr_i_1, pr_i_2, pr_i_3, pr_i_m1]; first | assumption | decide | exact ⟨by assumption, by assumption⟩ | exact ⟨Or.inl (by assumption), by assumption⟩ | omega) | decide | exact ⟨Or.inl (by assumption), by assumption⟩ | exact ⟨by assumption, by assumption⟩ | omega)⟩, (by first | assumption | (simp only [pr_n0, pr_8_20, pr_8_m20, pr_i_0, pr_i_1, pr_i_2, pr_i_3, pr_i_m1]; first | assumption | decide | exact ⟨by assumption, by assumption⟩ | exact ⟨Or.inl (by assumption), by assumption⟩ | omega) | decide | exact ⟨Or.inl (by assumption), by assumption⟩ | exact ⟨by assumption, by assumption⟩ | omega)⟩, trivial⟩, trivial⟩ ?_
                            try simp only [pr_n0, pr_8_20, pr_8_m20, pr_i_0, pr_i_1, pr_i_2, pr_i_3, pr_i_m1]
                            fail "no call@129 yX7_firstOfPair"
                    · simp only [ab_cmp, pr_8_20, pr_8_m20, pr_i_0, pr_i_1, pr_i_2, pr_i_3, pr_i_m1] at h57
                      first
                      | contradiction
                      | exact absurd trivial h57
                      | exact absurd h57 (by decide)
                      | exact absurd (Classical.not_not.mp h57) (by decide)
                      | skip
                        refine pr_seqT (pc' := 66) 4 rfl ⟨⟨⟨⟨trivial, (by first | assumption | (simp only [pr_n0, pr_8_20, pr_8_m20, pr_i_0, pr_i_1, pr_i_2, pr_i_3, pr_i_m1]; first | assumption | decide | exact ⟨by assumption, by assumption⟩ | exact ⟨Or.inl (by assumption), by assumption⟩ | omega) | decide | exact ⟨Or.inl (by assumption), by assumption⟩ | exact ⟨by assumption, by assumption⟩ | omega)⟩, trivial⟩, trivial⟩, trivial⟩ ?_
                        try simp only [pr_n0, pr_8_20, pr_8_m20, pr_i_0, pr_i_1, pr_i_2, pr_i_3, pr_i_m1]
                        refine pr_cvT [_, _, _] rfl rfl rfl rfl rfl (Nat.le_of_ble_eq_true rfl) (by first | assumption | (simp only [pr_n0, pr_8_20, pr_8_m20, pr_i_0, pr_i_1, pr_i_2, pr_i_3, pr_i_m1]; first | assumption | decide | exact ⟨by assumption, by assumption⟩ | exact ⟨Or.inl (by assumption), by assumption⟩ | omega) | decide | exact ⟨Or.inl (by assumption), by assumption⟩ | exact ⟨by assumption, by assumption⟩ | omega) (Nat.le_of_ble_eq_true rfl) (hfa) ?_
                        refine pr_seqT (pc' := 73) 2 rfl ⟨⟨trivial, trivial⟩, trivial⟩ ?_
                        try simp only [pr_n0, pr_8_20, pr_8_m20, pr_i_0, pr_i_1, pr_i_2, pr_i_3, pr_i_m1]
                        refine pr_ifT rfl (fun h73 => ?_) (fun h73 => ?_)
                        · simp only [ab_cmp, pr_8_20, pr_8_m20, pr_i_0, pr_i_1, pr_i_2, pr_i_3, pr_i_m1] at h73
                          first
                          | contradiction
                          | exact absurd trivial h73
                          | exact absurd h73 (by decide)
                          | exact absurd (Classical.not_not.mp h73) (by decide)
                          | skip
                            refine pr_seqT (pc' := 48) 2 rfl ⟨⟨trivial, trivial⟩, trivial⟩ ?_
                            try simp only [pr_n0, pr_8_20, pr_8_m20, pr_i_0, pr_i_1, pr_i_2, pr_i_3, pr_i_m1]
                            exact hh
                        · simp only [ab_cmp, pr_8_20, pr_8_m20, pr_i_0, pr_i_1, pr_i_2, pr_i_3, pr_i_m1] at h73
                          first
                          | contradiction
                          | exact absurd trivial h73
                          | exact absurd h73 (by decide)
                          | exact absurd (Classical.not_not.mp h73) (by decide)
                          | skip
                            refine pr_seqT (pc' := 81) 3 rfl ⟨⟨⟨trivial, (by first | assumption | (simp only [pr_n0, pr_8_20, pr_8_m20, pr_i_0, pr_i_1, pr_i_2, pr_i_3, pr_i_m1]; first | assumption | decide | exact ⟨by assumption, by assumption⟩ | exact ⟨Or.inl (by assumption), by assumption⟩ | omega) | decide | exact ⟨Or.inl (by assumption), by assumption⟩ | exact ⟨by assumption, by assumption⟩ | omega)⟩, trivial⟩, trivial⟩ ?_
                            try simp only [pr_n0, pr_8_20, pr_8_m20, pr_i_0, pr_i_1, pr_i_2, pr_i_3, pr_i_m1]
                            refine pr_cvT [_, _] rfl rfl rfl rfl rfl (Nat.le_of_ble_eq_true rfl) (by first | assumption | (simp only [pr_n0, pr_8_20, pr_8_m20, pr_i_0, pr_i_1, pr_i_2, pr_i_3, pr_i_m1]; first | assumption | decide | exact ⟨by assumption, by assumption⟩ | exact ⟨Or.inl (by assumption), by assumption⟩ | omega) | decide | exact ⟨Or.inl (by assumption), by assumption⟩ | exact ⟨by assumption, by assumption⟩ | omega) (Nat.le_of_ble_eq_true rfl) (ca) ?_
                            refine pr_seqT (pc' := 89) 3 rfl ⟨⟨⟨trivial, (by first | assumption | (simp only [pr_n0, pr_8_20, pr_8_m20, pr_i_0, pr_i_1, pr_i_2, pr_i_3, pr_i_m1]; first | assumption | decide | exact ⟨by assumption, by assumption⟩ | exact ⟨Or.inl (by assumption), by assumption⟩ | omega) | decide | exact ⟨Or.inl (by assumption), by assumption⟩ | exact ⟨by assumption, by assumption⟩ | omega)⟩, trivial⟩, trivial⟩ ?_
                            try simp only [pr_n0, pr_8_20, pr_8_m20, pr_i_0, pr_i_1, pr_i_2, pr_i_3, pr_i_m1]
                            refine pr_cvT [_, _] rfl rfl rfl rfl rfl (Nat.le_of_ble_eq_true rfl) (by first | assumption | (simp only [pr_n0, pr_8_20, pr_8_m20, pr_i_0, pr_i_1, pr_i_2, pr_i_3, pr_i_m1]; first | assumption | decide | exact ⟨by assumption, by assumption⟩ | exact ⟨Or.inl (by assumption), by assumption⟩ | omega) | decide | exact ⟨Or.inl (by assumption), by assumption⟩ | exact ⟨by assumption, by assumption⟩ | omega) (Nat.le_of_ble_eq_true rfl) (cb) ?_
                            refine pr_csT [_, _] rfl rfl rfl rfl rfl (Nat.le_of_ble_eq_true rfl) (Nat.le_of_ble_eq_true rfl) (hlw) ?_
                            refine pr_ifT rfl (fun h95 => ?_) (fun h95 => ?_)
                            · simp only [ab_cmp, pr_8_20, pr_8_m20, pr_i_0, pr_i_1, pr_i_2, pr_i_3, pr_i_m1] at h95
                              first
                              | contradiction
                              | exact absurd trivial h95
                              | exact absurd h95 (by decide)
                              | exact absurd (Classical.not_not.mp h95) (by decide)
                              | skip
                                refine pr_seqT (pc' := 48) 3 rfl ⟨⟨⟨trivial, trivial⟩, trivial⟩, trivial⟩ ?_
                                try simp only [pr_n0, pr_8_20, pr_8_m20, pr_i_0, pr_i_1, pr_i_2, pr_i_3, pr_i_m1]
                                exact hh
                            · simp only [ab_cmp, pr_8_20, pr_8_m20, pr_i_0, pr_i_1, pr_i_2, pr_i_3, pr_i_m1] at h95
                              first
                              | contradiction
                              | exact absurd trivial h95
                              | exact absurd h95 (by decide)
                              | exact absurd (Classical.not_not.mp h95) (by decide)
                              | skip
                                refine pr_seqT (pc' := 103) 3 rfl ⟨⟨⟨trivial, trivial⟩, trivial⟩, trivial⟩ ?_
                                try simp only [pr_n0, pr_8_20, pr_8_m20, pr_i_0, pr_i_1, pr_i_2, pr_i_3, pr_i_m1]
                                exact pr_irT rfl trivial (by first | rfl | (simp only [pr_n0, pr_8_20, pr_8_m20, pr_i_0, pr_i_1, pr_i_2, pr_i_3, pr_i_m1]; done) | (simp [pr_b, pr_8_20, pr_8_m20, pr_i_0, pr_i_1, pr_i_2, pr_i_3, pr_i_m1, *]; done) | (simp_all [pr_b, pr_8_20, pr_8_m20, pr_i_0, pr_i_1, pr_i_2, pr_i_3, pr_i_m1]; done))
              | false =>
                rw [show (pr_in (rdA (X.2.2.1 k) f i) 0 25 && pr_in (rdB (X.2.2.1 k) f i) 0 40) = false from cG] at hlw
                rw [hr, show rdS (X.2.2.1 k) (nI ln) f (dd + 1) i = (0, i, true) by rw [rdS, if_pos cF, cG]; rfl]
                dsimp only
                rw [if_pos rfl]
                refine pr_seqT (pc' := 52) 2 rfl ⟨⟨trivial, trivial⟩, trivial⟩ ?_
                refine pr_icT rfl (fun h52 => ?_) (fun h52 => ?_)
                · simp only [ab_cmp, pr_8_20, pr_8_m20, pr_i_0, pr_i_1, pr_i_2, pr_i_3, pr_i_m1] at h52
                  first
                  | contradiction
                  | exact absurd trivial h52
                  | exact absurd h52 (by decide)
                  | exact absurd (Classical.not_not.mp h52) (by decide)
                  | skip
                    refine pr_seqT (pc' := 120) 4 rfl ⟨⟨⟨⟨trivial, trivial⟩, trivial⟩, trivial⟩, trivial⟩ ?_
                    refine pr_icT rfl (fun h120 => ?_) (fun h120 => ?_)
                    · simp only [ab_cmp, pr_8_20, pr_8_m20, pr_i_0, pr_i_1, pr_i_2, pr_i_3, pr_i_m1] at h120
                      first
                      | contradiction
                      | exact absurd trivial h120
                      | exact absurd h120 (by decide)
                      | exact absurd (Classical.not_not.mp h120) (by decide)
                      | skip
                        refine pr_seqT (pc' := 158) 4 rfl ⟨⟨⟨⟨trivial, (by first | assumption | decide | exact ⟨Or.inl (by assumption), by assumption⟩ | exact ⟨by assumption, by assumption⟩ | omega)⟩, trivial⟩, (by first | assumption | decide | exact ⟨Or.inl (by assumption), by assumption⟩ | exact ⟨by assumption, by assumption⟩ | omega)⟩, trivial⟩ ?_
                        exact pr_irT rfl trivial (by first | rfl | (simp [pr_b, pr_8_20, pr_8_m20, pr_i_0, pr_i_1, pr_i_2, pr_i_3, pr_i_m1, *]; done) | (simp_all [pr_b, pr_8_20, pr_8_m20, pr_i_0, pr_i_1, pr_i_2, pr_i_3, pr_i_m1]; done))
                    · simp only [ab_cmp, pr_8_20, pr_8_m20, pr_i_0, pr_i_1, pr_i_2, pr_i_3, pr_i_m1] at h120
                      first
                      | contradiction
                      | exact absurd trivial h120
                      | exact absurd h120 (by decide)
                      | exact absurd (Classical.not_not.mp h120) (by decide)
                      | skip
                        refine pr_seqT (pc' := 129) 4 rfl ⟨⟨⟨⟨trivial, (by first | assumption | decide | exact ⟨Or.inl (by assumption), by assumption⟩ | exact ⟨by assumption, by assumption⟩ | omega)⟩, (by first | assumption | decide | exact ⟨Or.inl (by assumption), by assumption⟩ | exact ⟨by assumption, by assumption⟩ | omega)⟩, trivial⟩, trivial⟩ ?_
                        fail "no call@129 yX7_firstOfPair"
                · simp only [ab_cmp, pr_8_20, pr_8_m20, pr_i_0, pr_i_1, pr_i_2, pr_i_3, pr_i_m1] at h52
                  first
                  | contradiction
                  | exact absurd trivial h52
                  | exact absurd h52 (by decide)
                  | exact absurd (Classical.not_not.mp h52) (by decide)
                  | skip
                    refine pr_seqT (pc' := 57) 1 rfl ⟨trivial, trivial⟩ ?_
                    refine pr_ifT rfl (fun h57 => ?_) (fun h57 => ?_)
                    · simp only [ab_cmp, pr_8_20, pr_8_m20, pr_i_0, pr_i_1, pr_i_2, pr_i_3, pr_i_m1] at h57
                      first
                      | contradiction
                      | exact absurd trivial h57
                      | exact absurd h57 (by decide)
                      | exact absurd (Classical.not_not.mp h57) (by decide)
                      | skip
                        refine pr_seqT (pc' := 120) 4 rfl ⟨⟨⟨⟨trivial, trivial⟩, trivial⟩, trivial⟩, trivial⟩ ?_
                        refine pr_icT rfl (fun h120 => ?_) (fun h120 => ?_)
                        · simp only [ab_cmp, pr_8_20, pr_8_m20, pr_i_0, pr_i_1, pr_i_2, pr_i_3, pr_i_m1] at h120
                          first
                          | contradiction
                          | exact absurd trivial h120
                          | exact absurd h120 (by decide)
                          | exact absurd (Classical.not_not.mp h120) (by decide)
                          | skip
                            refine pr_seqT (pc' := 158) 4 rfl ⟨⟨⟨⟨trivial, (by first | assumption | decide | exact ⟨Or.inl (by assumption), by assumption⟩ | exact ⟨by assumption, by assumption⟩ | omega)⟩, trivial⟩, (by first | assumption | decide | exact ⟨Or.inl (by assumption), by assumption⟩ | exact ⟨by assumption, by assumption⟩ | omega)⟩, trivial⟩ ?_
                            exact pr_irT rfl trivial (by first | rfl | (simp [pr_b, pr_8_20, pr_8_m20, pr_i_0, pr_i_1, pr_i_2, pr_i_3, pr_i_m1, *]; done) | (simp_all [pr_b, pr_8_20, pr_8_m20, pr_i_0, pr_i_1, pr_i_2, pr_i_3, pr_i_m1]; done))
                        · simp only [ab_cmp, pr_8_20, pr_8_m20, pr_i_0, pr_i_1, pr_i_2, pr_i_3, pr_i_m1] at h120
                          first
                          | contradiction
                          | exact absurd trivial h120
                          | exact absurd h120 (by decide)
                          | exact absurd (Classical.not_not.mp h120) (by decide)
                          | skip
                            refine pr_seqT (pc' := 129) 4 rfl ⟨⟨⟨⟨trivial, (by first | assumption | decide | exact ⟨Or.inl (by assumption), by assumption⟩ | exact ⟨by assumption, by assumption⟩ | omega)⟩, (by first | assumption | decide | exact ⟨Or.inl (by assumption), by assumption⟩ | exact ⟨by assumption, by assumption⟩ | omega)⟩, trivial⟩, trivial⟩ ?_
                            fail "no call@129 yX7_firstOfPair"
                    · simp only [ab_cmp, pr_8_20, pr_8_m20, pr_i_0, pr_i_1, pr_i_2, pr_i_3, pr_i_m1] at h57
                      first
                      | contradiction
                      | exact absurd trivial h57
                      | exact absurd h57 (by decide)
                      | exact absurd (Classical.not_not.mp h57) (by decide)
                      | skip
                        refine pr_seqT (pc' := 66) 4 rfl ⟨⟨⟨⟨trivial, (by first | assumption | decide | exact ⟨Or.inl (by assumption), by assumption⟩ | exact ⟨by assumption, by assumption⟩ | omega)⟩, trivial⟩, trivial⟩, trivial⟩ ?_
                        refine pr_cvT [_, _, _] rfl rfl rfl rfl rfl (Nat.le_of_ble_eq_true rfl) (by first | assumption | decide | exact ⟨Or.inl (by assumption), by assumption⟩ | exact ⟨by assumption, by assumption⟩ | omega) (Nat.le_of_ble_eq_true rfl) (hfa) ?_
                        refine pr_seqT (pc' := 73) 2 rfl ⟨⟨trivial, trivial⟩, trivial⟩ ?_
                        refine pr_ifT rfl (fun h73 => ?_) (fun h73 => ?_)
                        · simp only [ab_cmp, pr_8_20, pr_8_m20, pr_i_0, pr_i_1, pr_i_2, pr_i_3, pr_i_m1] at h73
                          first
                          | contradiction
                          | exact absurd trivial h73
                          | exact absurd h73 (by decide)
                          | exact absurd (Classical.not_not.mp h73) (by decide)
                          | skip
                            refine pr_seqT (pc' := 52) 4 rfl ⟨⟨⟨⟨trivial, trivial⟩, trivial⟩, trivial⟩, trivial⟩ ?_
                            fail "loop at 52"
                        · simp only [ab_cmp, pr_8_20, pr_8_m20, pr_i_0, pr_i_1, pr_i_2, pr_i_3, pr_i_m1] at h73
                          first
                          | contradiction
                          | exact absurd trivial h73
                          | exact absurd h73 (by decide)
                          | exact absurd (Classical.not_not.mp h73) (by decide)
                          | skip
                            refine pr_seqT (pc' := 81) 3 rfl ⟨⟨⟨trivial, (by first | assumption | decide | exact ⟨Or.inl (by assumption), by assumption⟩ | exact ⟨by assumption, by assumption⟩ | omega)⟩, trivial⟩, trivial⟩ ?_
                            refine pr_cvT [_, _] rfl rfl rfl rfl rfl (Nat.le_of_ble_eq_true rfl) (by first | assumption | decide | exact ⟨Or.inl (by assumption), by assumption⟩ | exact ⟨by assumption, by assumption⟩ | omega) (Nat.le_of_ble_eq_true rfl) (ca) ?_
                            refine pr_seqT (pc' := 89) 3 rfl ⟨⟨⟨trivial, (by first | assumption | decide | exact ⟨Or.inl (by assumption), by assumption⟩ | exact ⟨by assumption, by assumption⟩ | omega)⟩, trivial⟩, trivial⟩ ?_
                            refine pr_cvT [_, _] rfl rfl rfl rfl rfl (Nat.le_of_ble_eq_true rfl) (by first | assumption | decide | exact ⟨Or.inl (by assumption), by assumption⟩ | exact ⟨by assumption, by assumption⟩ | omega) (Nat.le_of_ble_eq_true rfl) (cb) ?_
                            refine pr_csT [_, _] rfl rfl rfl rfl rfl (Nat.le_of_ble_eq_true rfl) (Nat.le_of_ble_eq_true rfl) (hlw) ?_
                            refine pr_ifT rfl (fun h95 => ?_) (fun h95 => ?_)
                            · simp only [ab_cmp, pr_8_20, pr_8_m20, pr_i_0, pr_i_1, pr_i_2, pr_i_3, pr_i_m1] at h95
                              first
                              | contradiction
                              | exact absurd trivial h95
                              | exact absurd h95 (by decide)
                              | exact absurd (Classical.not_not.mp h95) (by decide)
                              | skip
                                fail
                            · simp only [ab_cmp, pr_8_20, pr_8_m20, pr_i_0, pr_i_1, pr_i_2, pr_i_3, pr_i_m1] at h95
                              first
                              | contradiction
                              | exact absurd trivial h95
                              | exact absurd h95 (by decide)
                              | exact absurd (Classical.not_not.mp h95) (by decide)
                              | skip
                                refine pr_seqT (pc' := 103) 3 rfl ⟨⟨⟨trivial, trivial⟩, trivial⟩, trivial⟩ ?_
                                exact pr_irT rfl trivial (by exact cp_s hl hv)
            · have hle := (rdS_le (X.2.2.1 k) (nI ln) f n 0).2
              have ok := rdS_ok (X.2.2.1 k) (nI ln) f n 0
              rw [hr, rdS, if_neg cF] at ok hle ⊢
              dsimp only at ok hle ⊢
              rw [if_neg (by decide)]
              have cF' : ¬ nI (rdF (X.2.2.1 k) (nI ln) f i) = 0 := nI_ne (b := 0) cF (by omega) (by decide)
              have h2 := p_read2 (n := n) (ln := ln) (f := f) (X := X) (met := rdF (X.2.2.1 k) (nI ln) f i) (came := i) h M (show k < 4 by omega) (fun j hj => ok rfl j (by omega) hj) (by omega) i 0 (by omega) M b hl hv (fun a _ => ⟨rfl, rfl⟩)
              have hx : pr_T pX10_read 48 [some (.ref 1), some (.int (nI k)), some (.int (nI ln)), some (.int f), some (.int (nI n)), some (.ref (164 + 2 * k)), some (.int (nI (rdF (X.2.2.1 k) (nI ln) f i))), some (.int (nI i)), some (.int (nI i + 1))] [] h M (cp h M (nI i, sTorn (rdL (X.2.2.1 k) f i X) (rdF (X.2.2.1 k) (nI ln) f i))) := by
                refine pr_seqT (pc' := 52) 2 rfl ⟨⟨trivial, trivial⟩, trivial⟩ ?_
                refine pr_icT rfl (fun h52 => ?_) (fun h52 => ?_)
                · simp only [ab_cmp, pr_8_20, pr_8_m20, pr_i_0, pr_i_1, pr_i_2, pr_i_3, pr_i_m1] at h52
                  first
                  | contradiction
                  | exact absurd trivial h52
                  | exact absurd h52 (by decide)
                  | exact absurd (Classical.not_not.mp h52) (by decide)
                  | skip
                    refine pr_seqT (pc' := 116) 2 rfl ⟨⟨trivial, trivial⟩, trivial⟩ ?_
                    exact h2
                · simp only [ab_cmp, pr_8_20, pr_8_m20, pr_i_0, pr_i_1, pr_i_2, pr_i_3, pr_i_m1] at h52
                  first
                  | contradiction
                  | exact absurd trivial h52
                  | exact absurd h52 (by decide)
                  | exact absurd (Classical.not_not.mp h52) (by decide)
                  | skip
                    refine pr_seqT (pc' := 57) 1 rfl ⟨trivial, trivial⟩ ?_
                    refine pr_ifT rfl (fun h57 => ?_) (fun h57 => ?_)
                    · simp only [ab_cmp, pr_8_20, pr_8_m20, pr_i_0, pr_i_1, pr_i_2, pr_i_3, pr_i_m1] at h57
                      first
                      | contradiction
                      | exact absurd trivial h57
                      | exact absurd h57 (by decide)
                      | exact absurd (Classical.not_not.mp h57) (by decide)
                      | skip
                        refine pr_seqT (pc' := 116) 2 rfl ⟨⟨trivial, trivial⟩, trivial⟩ ?_
                        exact h2
                    · simp only [ab_cmp, pr_8_20, pr_8_m20, pr_i_0, pr_i_1, pr_i_2, pr_i_3, pr_i_m1] at h57
                      first
                      | contradiction
                      | exact absurd trivial h57
                      | exact absurd h57 (by decide)
                      | exact absurd (Classical.not_not.mp h57) (by decide)
                      | skip
                        fail
              refine pr_seqT (pc' := 52) 2 rfl ⟨⟨trivial, trivial⟩, trivial⟩ ?_
              refine pr_icT rfl (fun h52 => ?_) (fun h52 => ?_)
              · simp only [ab_cmp, pr_8_20, pr_8_m20, pr_i_0, pr_i_1, pr_i_2, pr_i_3, pr_i_m1] at h52
                first
                | contradiction
                | exact absurd trivial h52
                | exact absurd h52 (by decide)
                | exact absurd (Classical.not_not.mp h52) (by decide)
                | skip
                  refine pr_seqT (pc' := 120) 4 rfl ⟨⟨⟨⟨trivial, trivial⟩, trivial⟩, trivial⟩, trivial⟩ ?_
                  refine pr_icT rfl (fun h120 => ?_) (fun h120 => ?_)
                  · simp only [ab_cmp, pr_8_20, pr_8_m20, pr_i_0, pr_i_1, pr_i_2, pr_i_3, pr_i_m1] at h120
                    first
                    | contradiction
                    | exact absurd trivial h120
                    | exact absurd h120 (by decide)
                    | exact absurd (Classical.not_not.mp h120) (by decide)
                    | skip
                      refine pr_seqT (pc' := 158) 4 rfl ⟨⟨⟨⟨trivial, (by first | assumption | decide | exact ⟨Or.inl (by assumption), by assumption⟩ | exact ⟨by assumption, by assumption⟩ | omega)⟩, trivial⟩, (by first | assumption | decide | exact ⟨Or.inl (by assumption), by assumption⟩ | exact ⟨by assumption, by assumption⟩ | omega)⟩, trivial⟩ ?_
                      exact pr_irT rfl trivial (by first | rfl | (simp [pr_b, pr_8_20, pr_8_m20, pr_i_0, pr_i_1, pr_i_2, pr_i_3, pr_i_m1, *]; done) | (simp_all [pr_b, pr_8_20, pr_8_m20, pr_i_0, pr_i_1, pr_i_2, pr_i_3, pr_i_m1]; done))
                  · simp only [ab_cmp, pr_8_20, pr_8_m20, pr_i_0, pr_i_1, pr_i_2, pr_i_3, pr_i_m1] at h120
                    first
                    | contradiction
                    | exact absurd trivial h120
                    | exact absurd h120 (by decide)
                    | exact absurd (Classical.not_not.mp h120) (by decide)
                    | skip
                      refine pr_seqT (pc' := 129) 4 rfl ⟨⟨⟨⟨trivial, (by first | assumption | decide | exact ⟨Or.inl (by assumption), by assumption⟩ | exact ⟨by assumption, by assumption⟩ | omega)⟩, (by first | assumption | decide | exact ⟨Or.inl (by assumption), by assumption⟩ | exact ⟨by assumption, by assumption⟩ | omega)⟩, trivial⟩, trivial⟩ ?_
                      fail "no call@129 yX7_firstOfPair"
              · simp only [ab_cmp, pr_8_20, pr_8_m20, pr_i_0, pr_i_1, pr_i_2, pr_i_3, pr_i_m1] at h52
                first
                | contradiction
                | exact absurd trivial h52
                | exact absurd h52 (by decide)
                | exact absurd (Classical.not_not.mp h52) (by decide)
                | skip
                  refine pr_seqT (pc' := 57) 1 rfl ⟨trivial, trivial⟩ ?_
                  refine pr_ifT rfl (fun h57 => ?_) (fun h57 => ?_)
                  · simp only [ab_cmp, pr_8_20, pr_8_m20, pr_i_0, pr_i_1, pr_i_2, pr_i_3, pr_i_m1] at h57
                    first
                    | contradiction
                    | exact absurd trivial h57
                    | exact absurd h57 (by decide)
                    | exact absurd (Classical.not_not.mp h57) (by decide)
                    | skip
                      refine pr_seqT (pc' := 120) 4 rfl ⟨⟨⟨⟨trivial, trivial⟩, trivial⟩, trivial⟩, trivial⟩ ?_
                      refine pr_icT rfl (fun h120 => ?_) (fun h120 => ?_)
                      · simp only [ab_cmp, pr_8_20, pr_8_m20, pr_i_0, pr_i_1, pr_i_2, pr_i_3, pr_i_m1] at h120
                        first
                        | contradiction
                        | exact absurd trivial h120
                        | exact absurd h120 (by decide)
                        | exact absurd (Classical.not_not.mp h120) (by decide)
                        | skip
                          refine pr_seqT (pc' := 158) 4 rfl ⟨⟨⟨⟨trivial, (by first | assumption | decide | exact ⟨Or.inl (by assumption), by assumption⟩ | exact ⟨by assumption, by assumption⟩ | omega)⟩, trivial⟩, (by first | assumption | decide | exact ⟨Or.inl (by assumption), by assumption⟩ | exact ⟨by assumption, by assumption⟩ | omega)⟩, trivial⟩ ?_
                          exact pr_irT rfl trivial (by first | rfl | (simp [pr_b, pr_8_20, pr_8_m20, pr_i_0, pr_i_1, pr_i_2, pr_i_3, pr_i_m1, *]; done) | (simp_all [pr_b, pr_8_20, pr_8_m20, pr_i_0, pr_i_1, pr_i_2, pr_i_3, pr_i_m1]; done))
                      · simp only [ab_cmp, pr_8_20, pr_8_m20, pr_i_0, pr_i_1, pr_i_2, pr_i_3, pr_i_m1] at h120
                        first
                        | contradiction
                        | exact absurd trivial h120
                        | exact absurd h120 (by decide)
                        | exact absurd (Classical.not_not.mp h120) (by decide)
                        | skip
                          refine pr_seqT (pc' := 129) 4 rfl ⟨⟨⟨⟨trivial, (by first | assumption | decide | exact ⟨Or.inl (by assumption), by assumption⟩ | exact ⟨by assumption, by assumption⟩ | omega)⟩, (by first | assumption | decide | exact ⟨Or.inl (by assumption), by assumption⟩ | exact ⟨by assumption, by assumption⟩ | omega)⟩, trivial⟩, trivial⟩ ?_
                          fail "no call@129 yX7_firstOfPair"
                  · simp only [ab_cmp, pr_8_20, pr_8_m20, pr_i_0, pr_i_1, pr_i_2, pr_i_3, pr_i_m1] at h57
                    first
                    | contradiction
                    | exact absurd trivial h57
                    | exact absurd h57 (by decide)
                    | exact absurd (Classical.not_not.mp h57) (by decide)
                    | skip
                      refine pr_seqT (pc' := 66) 4 rfl ⟨⟨⟨⟨trivial, (by first | assumption | decide | exact ⟨Or.inl (by assumption), by assumption⟩ | exact ⟨by assumption, by assumption⟩ | omega)⟩, trivial⟩, trivial⟩, trivial⟩ ?_
                      refine pr_cvT [_, _, _] rfl rfl rfl rfl rfl (Nat.le_of_ble_eq_true rfl) (by first | assumption | decide | exact ⟨Or.inl (by assumption), by assumption⟩ | exact ⟨by assumption, by assumption⟩ | omega) (Nat.le_of_ble_eq_true rfl) (hfa) ?_
                      refine pr_seqT (pc' := 73) 2 rfl ⟨⟨trivial, trivial⟩, trivial⟩ ?_
                      refine pr_ifT rfl (fun h73 => ?_) (fun h73 => ?_)
                      · simp only [ab_cmp, pr_8_20, pr_8_m20, pr_i_0, pr_i_1, pr_i_2, pr_i_3, pr_i_m1] at h73
                        first
                        | contradiction
                        | exact absurd trivial h73
                        | exact absurd h73 (by decide)
                        | exact absurd (Classical.not_not.mp h73) (by decide)
                        | skip
                          refine pr_seqT (pc' := 48) 2 rfl ⟨⟨trivial, trivial⟩, trivial⟩ ?_
                          exact hx
                      · simp only [ab_cmp, pr_8_20, pr_8_m20, pr_i_0, pr_i_1, pr_i_2, pr_i_3, pr_i_m1] at h73
                        first
                        | contradiction
                        | exact absurd trivial h73
                        | exact absurd h73 (by decide)
                        | exact absurd (Classical.not_not.mp h73) (by decide)
                        | skip
                          refine pr_seqT (pc' := 81) 3 rfl ⟨⟨⟨trivial, (by first | assumption | decide | exact ⟨Or.inl (by assumption), by assumption⟩ | exact ⟨by assumption, by assumption⟩ | omega)⟩, trivial⟩, trivial⟩ ?_
                          fail "no call@81 yX7_firstOfPair"
        refine pr_seqT (pc' := 3) 3 rfl ⟨⟨⟨trivial, trivial⟩, trivial⟩, trivial⟩ ?_
        try simp only [q8, e3, i1, pr_8_20, pr_8_m20, pr_i_0, pr_i_1, pr_i_2, pr_i_3, pr_i_m1]
        refine pr_csT [_, _, _] rfl rfl rfl rfl rfl (Nat.le_of_ble_eq_true rfl) (Nat.le_of_ble_eq_true rfl) (hp) ?_
        refine pr_ifT rfl (fun h6 => ?_) (fun h6 => ?_)
        · simp only [ab_cmp, pr_8_20, pr_8_m20, pr_i_0, pr_i_1, pr_i_2, pr_i_3, pr_i_m1] at h6
          first
          | contradiction
          | exact absurd trivial h6
          | exact absurd h6 (by decide)
          | exact absurd (Classical.not_not.mp h6) (by decide)
          | skip
            refine pr_seqT (pc' := 30) 1 rfl ⟨trivial, trivial⟩ ?_
            try simp only [q8, e3, i1, pr_8_20, pr_8_m20, pr_i_0, pr_i_1, pr_i_2, pr_i_3, pr_i_m1]
            exact pr_irT rfl trivial (by first | rfl | (simp only [q8, e3, i1, pr_8_20, pr_8_m20, pr_i_0, pr_i_1, pr_i_2, pr_i_3, pr_i_m1]; done) | (simp [pr_b, pr_8_20, pr_8_m20, pr_i_0, pr_i_1, pr_i_2, pr_i_3, pr_i_m1, *]; done) | (simp_all [pr_b, pr_8_20, pr_8_m20, pr_i_0, pr_i_1, pr_i_2, pr_i_3, pr_i_m1]; done))
        · simp only [ab_cmp, pr_8_20, pr_8_m20, pr_i_0, pr_i_1, pr_i_2, pr_i_3, pr_i_m1] at h6
          first
          | contradiction
          | exact absurd trivial h6
          | exact absurd h6 (by decide)
          | exact absurd (Classical.not_not.mp h6) (by decide)
          | skip
            refine pr_seqT (pc' := 12) 3 rfl ⟨⟨⟨trivial, trivial⟩, trivial⟩, trivial⟩ ?_
            try simp only [q8, e3, i1, pr_8_20, pr_8_m20, pr_i_0, pr_i_1, pr_i_2, pr_i_3, pr_i_m1]
            refine pr_csT [_, _, _] rfl rfl rfl rfl rfl (Nat.le_of_ble_eq_true rfl) (Nat.le_of_ble_eq_true rfl) (hw) ?_
            refine pr_ifT rfl (fun h15 => ?_) (fun h15 => ?_)
            · simp only [ab_cmp, pr_8_20, pr_8_m20, pr_i_0, pr_i_1, pr_i_2, pr_i_3, pr_i_m1] at h15
              first
              | contradiction
              | exact absurd trivial h15
              | exact absurd h15 (by decide)
              | exact absurd (Classical.not_not.mp h15) (by decide)
              | skip
                refine pr_seqT (pc' := 30) 1 rfl ⟨trivial, trivial⟩ ?_
                try simp only [q8, e3, i1, pr_8_20, pr_8_m20, pr_i_0, pr_i_1, pr_i_2, pr_i_3, pr_i_m1]
                exact pr_irT rfl trivial (by first | rfl | (simp only [q8, e3, i1, pr_8_20, pr_8_m20, pr_i_0, pr_i_1, pr_i_2, pr_i_3, pr_i_m1]; done) | (simp [pr_b, pr_8_20, pr_8_m20, pr_i_0, pr_i_1, pr_i_2, pr_i_3, pr_i_m1, *]; done) | (simp_all [pr_b, pr_8_20, pr_8_m20, pr_i_0, pr_i_1, pr_i_2, pr_i_3, pr_i_m1]; done))
            · simp only [ab_cmp, pr_8_20, pr_8_m20, pr_i_0, pr_i_1, pr_i_2, pr_i_3, pr_i_m1] at h15
              first
              | contradiction
              | exact absurd trivial h15
              | exact absurd h15 (by decide)
              | exact absurd (Classical.not_not.mp h15) (by decide)
              | skip
                refine pr_seqT (pc' := 23) 3 rfl ⟨⟨⟨trivial, trivial⟩, trivial⟩, trivial⟩ ?_
                try simp only [q8, e3, i1, pr_8_20, pr_8_m20, pr_i_0, pr_i_1, pr_i_2, pr_i_3, pr_i_m1]
                refine pr_csT [_, _, _] rfl rfl rfl rfl rfl (Nat.le_of_ble_eq_true rfl) (Nat.le_of_ble_eq_true rfl) (hw2) ?_
                refine pr_ifT rfl (fun h26 => ?_) (fun h26 => ?_)
                · simp only [ab_cmp, pr_8_20, pr_8_m20, pr_i_0, pr_i_1, pr_i_2, pr_i_3, pr_i_m1] at h26
                  first
                  | contradiction
                  | exact absurd trivial h26
                  | exact absurd h26 (by decide)
                  | exact absurd (Classical.not_not.mp h26) (by decide)
                  | skip
                    refine pr_seqT (pc' := 48) 11 rfl ⟨⟨⟨⟨⟨⟨⟨⟨⟨⟨⟨trivial, (by first | assumption | (simp only [q8, e3, i1, pr_8_20, pr_8_m20, pr_i_0, pr_i_1, pr_i_2, pr_i_3, pr_i_m1]; first | assumption | decide | exact ⟨by assumption, by assumption⟩ | exact ⟨Or.inl (by assumption), by assumption⟩ | omega) | decide | exact ⟨Or.inl (by assumption), by assumption⟩ | exact ⟨by assumption, by assumption⟩ | omega)⟩, (by first | assumption | (simp only [q8, e3, i1, pr_8_20, pr_8_m20, pr_i_0, pr_i_1, pr_i_2, pr_i_3, pr_i_m1]; first | assumption | decide | exact ⟨by assumption, by assumption⟩ | exact ⟨Or.inl (by assumption), by assumption⟩ | omega) | decide | exact ⟨Or.inl (by assumption), by assumption⟩ | exact ⟨by assumption, by assumption⟩ | omega)⟩, trivial⟩, (by first | assumption | (simp only [q8, e3, i1, pr_8_20, pr_8_m20, pr_i_0, pr_i_1, pr_i_2, pr_i_3, pr_i_m1]; first | assumption | decide | exact ⟨by assumption, by assumption⟩ | exact ⟨Or.inl (by assumption), by assumption⟩ | omega) | decide | exact ⟨Or.inl (by assumption), by assumption⟩ | exact ⟨by assumption, by assumption⟩ | omega)⟩, (by first | assumption | (simp only [q8, e3, i1, pr_8_20, pr_8_m20, pr_i_0, pr_i_1, pr_i_2, pr_i_3, pr_i_m1]; first | assumption | decide | exact ⟨by assumption, by assumption⟩ | exact ⟨Or.inl (by assumption), by assumption⟩ | omega) | decide | exact ⟨Or.inl (by assumption), by assumption⟩ | exact ⟨by assumption, by assumption⟩ | omega)⟩, trivial⟩, trivial⟩, trivial⟩, trivial⟩, trivial⟩, trivial⟩ ?_
                    try simp only [q8, e3, i1, pr_8_20, pr_8_m20, pr_i_0, pr_i_1, pr_i_2, pr_i_3, pr_i_m1]
                    exact loop n 0 (by omega) rfl
                · simp only [ab_cmp, pr_8_20, pr_8_m20, pr_i_0, pr_i_1, pr_i_2, pr_i_3, pr_i_m1] at h26
                  first
                  | contradiction
                  | exact absurd trivial h26
                  | exact absurd h26 (by decide)
                  | exact absurd (Classical.not_not.mp h26) (by decide)
                  | skip
                    refine pr_seqT (pc' := 30) 1 rfl ⟨trivial, trivial⟩ ?_
                    try simp only [q8, e3, i1, pr_8_20, pr_8_m20, pr_i_0, pr_i_1, pr_i_2, pr_i_3, pr_i_m1]
                    exact pr_irT rfl trivial (by first | rfl | (simp only [q8, e3, i1, pr_8_20, pr_8_m20, pr_i_0, pr_i_1, pr_i_2, pr_i_3, pr_i_m1]; done) | (simp [pr_b, pr_8_20, pr_8_m20, pr_i_0, pr_i_1, pr_i_2, pr_i_3, pr_i_m1, *]; done) | (simp_all [pr_b, pr_8_20, pr_8_m20, pr_i_0, pr_i_1, pr_i_2, pr_i_3, pr_i_m1]; done))
