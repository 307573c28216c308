
/-! ===== part ===== -/
theorem a_to_le {f : Nat → Nat} {c : Nat} : ∀ n, (∀ i, i < n → f i ≤ c) → a_to f n ≤ n * c
  | 0, _ => by show 0 ≤ 0 * c; omega
  | n + 1, h => by
    have h1 := a_to_le n (fun i hi => h i (by omega))
    have h2 := h n (by omega)
    show a_to f n + f n ≤ (n + 1) * c
    rw [Nat.succ_mul]
    omega
theorem a_to_lin {f g p q : Nat → Nat} {x y : Nat} : ∀ n, (∀ i, i < n → f i + p i * x = g i + p i * y) → a_to f n + a_to p n * x = a_to g n + a_to p n * y
  | 0, _ => by show 0 + 0 * x = 0 + 0 * y; omega
  | n + 1, h => by
    have h1 := a_to_lin (q := q) n (fun i hi => h i (by omega))
    have h2 := h n (by omega)
    show a_to f n + f n + (a_to p n + p n) * x = a_to g n + g n + (a_to p n + p n) * y
    rw [Nat.add_mul, Nat.add_mul]
    omega
theorem sum_lin (wo : Nat → Nat) (law kind l v : Nat) (w : List Nat) : a_sum (va_up wo l v) law kind w + a_win law kind l w * wo l = a_sum wo law kind w + a_win law kind l w * v := by
  unfold a_sum a_win
  refine a_to_lin (q := fun _ => 0) _ (fun i hi => ?_)
  by_cases e : w.getD i 0 = l
  · rw [if_pos e, e, va_up_at]; omega
  · rw [if_neg e, va_up_n e]; omega
theorem a_w_le {law kind l i : Nat} : a_w law kind l i ≤ i + 1 := by
  unfold a_w
  split
  · omega
  · split
    · omega
    · split <;> omega
theorem a_win_le {law kind l : Nat} {w : List Nat} (h : w.length ≤ 20) : a_win law kind l w ≤ 400 := by
  unfold a_win
  have := a_to_le (f := fun i => if w.getD i 0 = l then a_w law kind l i else 0) (c := 20) w.length (fun i hi => by
    have := a_w_le (law := law) (kind := kind) (l := l) (i := i)
    split <;> omega)
  omega
theorem ptc_ge (X : St) : ∀ k, cnt (fun p => nb (al (x_S X) (x_K X) p) p) (x_n X) ≤ (ptc X k).1
  | 0 => Nat.le_refl _
  | k + 1 => by
    have := ptc_ge X k
    unfold ptc
    split
    · dsimp only; omega
    · exact this
theorem ptc_le (X : St) : ∀ k, (ptc X k).1 ≤ x_n X
  | 0 => cnt_le _ _
  | k + 1 => by
    unfold ptc
    split
    · exact cnt_le _ _
    · exact ptc_le X k
theorem pt_S (X : St) (l v p : Nat) : x_S (ptX X l v) p + nI (d_wg X.1.1 l p) * nI (X.1.1.1 l) = x_S X p + nI (d_wg X.1.1 l p) * nI v := by
  rw [nI_mul, nI_mul]
  show nI (d_S (va_up X.1.1.1 l v, X.1.1.2) p) + _ = nI (d_S X.1.1 p) + _
  rw [nI_add, nI_add]
  congr 1
  exact sum_lin X.1.1.1 X.1.1.2.2.1 (d_pn X.1.1 p).1 l v (d_pn X.1.1 p).2.2.2
theorem ptc_none {X : St} {l : Nat} (h : ∀ p, p < x_n X → d_wg X.1.1 l p = 0) (hl : l < 26) : ∀ v, v ≤ 41 → ptc X (41 * l + v) = ptc X (41 * l)
  | 0, _ => rfl
  | v + 1, hv => by
    have ih := ptc_none h hl v (by omega)
    have e1 : (41 * l + v) / 41 = l ∧ (41 * l + v) % 41 = v := by omega
    rw [show 41 * l + (v + 1) = 41 * l + v + 1 by omega, ptc, e1.1, e1.2, ih]
    have e2 : ptn X l v = cnt (fun p => nb (al (x_S X) (x_K X) p) p) (x_n X) := by
      have hS : ∀ p, p < x_n X → x_S (ptX X l v) p = x_S X p := fun p hp => by
        have := pt_S X l v p
        rw [h p hp, show nI 0 = 0 from rfl] at this
        simpa using this
      unfold ptn
      apply cnt_congr
      intro p hp
      have : ∀ q, q < p → al (x_S (ptX X l v)) (x_K X) p q = al (x_S X) (x_K X) p q := fun q hq => by
        unfold al
        rw [hS p hp, hS q (by omega)]
      clear ih e1
      have nbc : ∀ m, m ≤ p → nb (al (x_S (ptX X l v)) (x_K X) p) m = nb (al (x_S X) (x_K X) p) m := by
        intro m
        induction m with
        | zero => intro _; rfl
        | succ m ih => intro hm; unfold nb; rw [ih (by omega), this m (by omega)]
      exact nbc p (Nat.le_refl _)
    have := ptc_ge X (41 * l)
    rw [e2, if_neg (by omega)]
theorem nb_true {f : Nat → Bool} : ∀ n, nb f n = true → ∀ q, q < n → f q = false
  | 0, _, q, hq => absurd hq (by omega)
  | n + 1, h, q, hq => by
    have h : (nb f n && !f n) = true := h
    rw [Bool.and_eq_true] at h
    by_cases e : q = n
    · subst e; simpa using h.2
    · exact nb_true n h.1 q (by omega)
theorem cs_shv {I : Nat → Nat → Int32} {c n : Nat} {S S' : Nat → Int32} {K D W g : Nat → Nat} {m : Int32} (hv : cs_v I c n S K D W) (hg : ∀ j, j < n → I (c + 5) j = nI (g j)) (hS : ∀ j, j < n → S' j = S j + nI (g j) * m) : cs_v (cs_sh I c m n) c n S' K D W ∧ ∀ j, j < n → cs_sh I c m n (c + 5) j = nI (g j) := by
  obtain ⟨v1, v2, v3⟩ := hv
  refine ⟨⟨by rw [cs_sh_far (by omega)]; exact v1, v2, fun p hp => ?_⟩, fun j hj => by rw [cs_sh_far (by omega)]; exact hg j hj⟩
  obtain ⟨x1, x2, x3, x4, x5⟩ := v3 p hp
  rw [cs_sh_far (show c + 2 ≠ c + 1 by omega), cs_sh_far (show c + 3 ≠ c + 1 by omega), cs_sh_far (show c + 4 ≠ c + 1 by omega)]
  refine ⟨?_, x2, x3, x4, x5⟩
  unfold cs_sh
  rw [if_pos ⟨rfl, hp⟩, x1, hg p hp, hS p hp]
theorem i32_p1 (s s' g w v : Int32) (h : s' + g * w = s + g * v) : s' = s + g * (-w) + g * v := by grind
theorem i32_p2 (s s' t g w v u : Int32) (h : s' + g * w = s + g * v) (h2 : t + g * w = s + g * u) (hu : u = v + 1) : t = s' + g * 1 := by grind
theorem i32_p3 (s t g w u : Int32) (h2 : t + g * w = s + g * u) (hu : u = 41) : s = t + g * (w - 40 - 1) := by grind
set_option maxHeartbeats 4000000 in
theorem p_part {b : Bool} {X : St} (x : Int32) (h : ab_H) (M : ab_M) (hl : Lay h M.2.2 b) (hv : cl_v M.1 b X) : pr_X pX10_part [.ref 1, .int x] h M (cp h M (f_part X x, X)) := by
  obtain ⟨k1, q0, q1, rc, q3, q4, q5, q6, q7, q8, r9⟩ := id hl.1
  have ht := ly_told hl
  obtain ⟨t0, t1, r0, r1, r2, r3, hg, ⟨ka, kb⟩, ⟨kc, kd⟩, ⟨ke, kf⟩, hnm⟩ := id ht
  obtain ⟨g0, g1, s1, s2, m1, m2, ⟨m3, m4⟩, hon⟩ := id hg
  obtain ⟨hT, hIm, hSh, hTp, hFa, hTo⟩ := id hv
  obtain ⟨hd, v2, v3, v4, v5, v6, v7⟩ := id hT
  obtain ⟨d1, d2, d3, d4, d5, d6, d7, d8⟩ := id hd
  have b0 := tB_ne b
  have hc := hl.2.2.2.2.2.1
  have hb : 49 + 5 < tB b + 1 ∨ tB b + 1 + 27 ≤ 49 := by cases b <;> decide
  have hb2 : 63 < tB b ∧ tB b + 43 ≤ 110 ∨ 5 < tB b ∧ tB b + 43 ≤ 49 := by cases b <;> decide
  have c1 := hc.2.1
  unfold f_part
  have hp := c_within x 0 1 h M
  rcases pr_rg x 1 1 rfl (by decide) with q | ⟨k, hk, rfl, q⟩
  · rw [q] at hp ⊢
    refine pr_seqT (pc' := 3) 3 rfl ⟨⟨⟨trivial, trivial⟩, trivial⟩, trivial⟩ ?_
    try simp only [r9, r0, r1, r2, r3, s1, s2, q0, q1, rc, q3, q4, q5, q6, q7, q8, pr_8_100, pr_8_26, pr_8_40, pr_8_m4, pr_i_0, pr_i_1, pr_i_m1]
    refine pr_csT [_, _, _] rfl rfl rfl rfl rfl (Nat.le_of_ble_eq_true rfl) (Nat.le_of_ble_eq_true rfl) (hp) ?_
    refine pr_ifT rfl (fun h6 => ?_) (fun h6 => ?_)
    · simp only [ab_cmp, pr_8_100, pr_8_26, pr_8_40, pr_8_m4, pr_i_0, pr_i_1, pr_i_m1] at h6
      first
      | contradiction
      | exact absurd trivial h6
      | exact absurd h6 (by decide)
      | exact absurd (Classical.not_not.mp h6) (by decide)
      | skip
        refine pr_seqT (pc' := 24) 7 rfl ⟨⟨⟨⟨⟨⟨⟨trivial, (by first | assumption | (simp only [r9, r0, r1, r2, r3, s1, s2, q0, q1, rc, q3, q4, q5, q6, q7, q8, pr_8_100, pr_8_26, pr_8_40, pr_8_m4, pr_i_0, pr_i_1, pr_i_m1]; first | assumption | decide | exact ⟨by assumption, by assumption⟩ | exact ⟨Or.inl (by assumption), by assumption⟩ | omega) | decide | exact ⟨Or.inl (by assumption), by assumption⟩ | exact ⟨by assumption, by assumption⟩ | omega)⟩, (by first | assumption | (simp only [r9, r0, r1, r2, r3, s1, s2, q0, q1, rc, q3, q4, q5, q6, q7, q8, pr_8_100, pr_8_26, pr_8_40, pr_8_m4, pr_i_0, pr_i_1, pr_i_m1]; first | assumption | decide | exact ⟨by assumption, by assumption⟩ | exact ⟨Or.inl (by assumption), by assumption⟩ | omega) | decide | exact ⟨Or.inl (by assumption), by assumption⟩ | exact ⟨by assumption, by assumption⟩ | omega)⟩, (by first | assumption | (simp only [r9, r0, r1, r2, r3, s1, s2, q0, q1, rc, q3, q4, q5, q6, q7, q8, pr_8_100, pr_8_26, pr_8_40, pr_8_m4, pr_i_0, pr_i_1, pr_i_m1]; first | assumption | decide | exact ⟨by assumption, by assumption⟩ | exact ⟨Or.inl (by assumption), by assumption⟩ | omega) | decide | exact ⟨Or.inl (by assumption), by assumption⟩ | exact ⟨by assumption, by assumption⟩ | omega)⟩, (by first | assumption | (simp only [r9, r0, r1, r2, r3, s1, s2, q0, q1, rc, q3, q4, q5, q6, q7, q8, pr_8_100, pr_8_26, pr_8_40, pr_8_m4, pr_i_0, pr_i_1, pr_i_m1]; first | assumption | decide | exact ⟨by assumption, by assumption⟩ | exact ⟨Or.inl (by assumption), by assumption⟩ | omega) | decide | exact ⟨Or.inl (by assumption), by assumption⟩ | exact ⟨by assumption, by assumption⟩ | omega)⟩, (by first | assumption | (simp only [r9, r0, r1, r2, r3, s1, s2, q0, q1, rc, q3, q4, q5, q6, q7, q8, pr_8_100, pr_8_26, pr_8_40, pr_8_m4, pr_i_0, pr_i_1, pr_i_m1]; first | assumption | decide | exact ⟨by assumption, by assumption⟩ | exact ⟨Or.inl (by assumption), by assumption⟩ | omega) | decide | exact ⟨Or.inl (by assumption), by assumption⟩ | exact ⟨by assumption, by assumption⟩ | omega)⟩, (by first | assumption | (simp only [r9, r0, r1, r2, r3, s1, s2, q0, q1, rc, q3, q4, q5, q6, q7, q8, pr_8_100, pr_8_26, pr_8_40, pr_8_m4, pr_i_0, pr_i_1, pr_i_m1]; first | assumption | decide | exact ⟨by assumption, by assumption⟩ | exact ⟨Or.inl (by assumption), by assumption⟩ | omega) | decide | exact ⟨Or.inl (by assumption), by assumption⟩ | exact ⟨by assumption, by assumption⟩ | omega)⟩, (by first | assumption | (simp only [r9, r0, r1, r2, r3, s1, s2, q0, q1, rc, q3, q4, q5, q6, q7, q8, pr_8_100, pr_8_26, pr_8_40, pr_8_m4, pr_i_0, pr_i_1, pr_i_m1]; first | assumption | decide | exact ⟨by assumption, by assumption⟩ | exact ⟨Or.inl (by assumption), by assumption⟩ | omega) | decide | exact ⟨Or.inl (by assumption), by assumption⟩ | exact ⟨by assumption, by assumption⟩ | omega)⟩ ?_
        try simp only [r9, r0, r1, r2, r3, s1, s2, q0, q1, rc, q3, q4, q5, q6, q7, q8, pr_8_100, pr_8_26, pr_8_40, pr_8_m4, pr_i_0, pr_i_1, pr_i_m1]
        fail "no call@24 yX0_take"
    · simp only [ab_cmp, pr_8_100, pr_8_26, pr_8_40, pr_8_m4, pr_i_0, pr_i_1, pr_i_m1] at h6
      first
      | contradiction
      | exact absurd trivial h6
      | exact absurd h6 (by decide)
      | exact absurd (Classical.not_not.mp h6) (by decide)
      | skip
        refine pr_seqT (pc' := 10) 1 rfl ⟨trivial, trivial⟩ ?_
        try simp only [r9, r0, r1, r2, r3, s1, s2, q0, q1, rc, q3, q4, q5, q6, q7, q8, pr_8_100, pr_8_26, pr_8_40, pr_8_m4, pr_i_0, pr_i_1, pr_i_m1]
        exact pr_irT rfl trivial (by exact cp_s hl hv)
  · rw [q] at hp ⊢
    rw [if_pos rfl]
    have hn8 : x_n X ≤ 8 := d2
    have out : ∀ dl l, l + dl = 26 → ∀ (I : Nat → Nat → Int32) (o6 o7 : Option Value), cl_same M.1 I → cs_v I 49 (x_n X) (x_S X) (x_K X) (x_D X) (x_W X) → pr_T pX10_part 42 [some (.ref 1), some (.int (nI k)), some (.ref (tB b + 1)), some (.int (nI (ptc X (41 * l)).1)), some (.int (ptc X (41 * l)).2), some (.int (nI l)), o6, o7] [] h (I, M.2) (cp h M (if (ptc X 1066).2 = -4 ∨ nI k = 0 then (ptc X 1066).2 else nI (ptc X 1066).1, X)) := by
      intro dl
      induction dl with
      | zero =>
        intro l hll I o6 o7 hs hcv
        obtain rfl : l = 26 := by omega
        have e1 : (26 : Int32) ≤ nI 26 := by decide
        by_cases c1 : (ptc X 1066).2 = -4
        · rw [if_pos (Or.inl c1)]
          refine pr_seqT (pc' := 46) 2 rfl ⟨⟨trivial, trivial⟩, trivial⟩ ?_
          try simp only [r9, r0, r1, r2, r3, s1, s2, q0, q1, rc, q3, q4, q5, q6, q7, q8, pr_8_100, pr_8_26, pr_8_40, pr_8_m4, pr_i_0, pr_i_1, pr_i_m1]
          refine pr_icT rfl (fun h46 => ?_) (fun h46 => ?_)
          · simp only [ab_cmp, pr_8_100, pr_8_26, pr_8_40, pr_8_m4, pr_i_0, pr_i_1, pr_i_m1] at h46
            first
            | contradiction
            | exact absurd trivial h46
            | exact absurd h46 (by decide)
            | exact absurd (Classical.not_not.mp h46) (by decide)
            | skip
              refine pr_seqT (pc' := 158) 2 rfl ⟨⟨trivial, trivial⟩, trivial⟩ ?_
              try simp only [r9, r0, r1, r2, r3, s1, s2, q0, q1, rc, q3, q4, q5, q6, q7, q8, pr_8_100, pr_8_26, pr_8_40, pr_8_m4, pr_i_0, pr_i_1, pr_i_m1]
              refine pr_icT rfl (fun h158 => ?_) (fun h158 => ?_)
              · simp only [ab_cmp, pr_8_100, pr_8_26, pr_8_40, pr_8_m4, pr_i_0, pr_i_1, pr_i_m1] at h158
                first
                | contradiction
                | exact absurd trivial h158
                | exact absurd h158 (by decide)
                | exact absurd (Classical.not_not.mp h158) (by decide)
                | skip
                  refine pr_seqT (pc' := 171) 2 rfl ⟨⟨trivial, trivial⟩, trivial⟩ ?_
                  try simp only [r9, r0, r1, r2, r3, s1, s2, q0, q1, rc, q3, q4, q5, q6, q7, q8, pr_8_100, pr_8_26, pr_8_40, pr_8_m4, pr_i_0, pr_i_1, pr_i_m1]
                  exact pr_irT rfl trivial (cp_q hl hv rfl hs)
              · simp only [ab_cmp, pr_8_100, pr_8_26, pr_8_40, pr_8_m4, pr_i_0, pr_i_1, pr_i_m1] at h158
                first
                | contradiction
                | exact absurd trivial h158
                | exact absurd h158 (by decide)
                | exact absurd (Classical.not_not.mp h158) (by decide)
                | skip
                  refine pr_seqT (pc' := 162) 1 rfl ⟨trivial, trivial⟩ ?_
                  try simp only [r9, r0, r1, r2, r3, s1, s2, q0, q1, rc, q3, q4, q5, q6, q7, q8, pr_8_100, pr_8_26, pr_8_40, pr_8_m4, pr_i_0, pr_i_1, pr_i_m1]
                  refine pr_ifT rfl (fun h162 => ?_) (fun h162 => ?_)
                  · simp only [ab_cmp, pr_8_100, pr_8_26, pr_8_40, pr_8_m4, pr_i_0, pr_i_1, pr_i_m1] at h162
                    first
                    | contradiction
                    | exact absurd trivial h162
                    | exact absurd h162 (by decide)
                    | exact absurd (Classical.not_not.mp h162) (by decide)
                    | skip
                      refine pr_seqT (pc' := 171) 1 rfl ⟨trivial, trivial⟩ ?_
                      try simp only [r9, r0, r1, r2, r3, s1, s2, q0, q1, rc, q3, q4, q5, q6, q7, q8, pr_8_100, pr_8_26, pr_8_40, pr_8_m4, pr_i_0, pr_i_1, pr_i_m1]
                      exact pr_irT rfl trivial (cp_q hl hv rfl hs)
                  · simp only [ab_cmp, pr_8_100, pr_8_26, pr_8_40, pr_8_m4, pr_i_0, pr_i_1, pr_i_m1] at h162
                    first
                    | contradiction
                    | exact absurd trivial h162
                    | exact absurd h162 (by decide)
                    | exact absurd (Classical.not_not.mp h162) (by decide)
                    | skip
                      refine pr_seqT (pc' := 171) 2 rfl ⟨⟨trivial, trivial⟩, trivial⟩ ?_
                      try simp only [r9, r0, r1, r2, r3, s1, s2, q0, q1, rc, q3, q4, q5, q6, q7, q8, pr_8_100, pr_8_26, pr_8_40, pr_8_m4, pr_i_0, pr_i_1, pr_i_m1]
                      exact pr_irT rfl trivial (cp_q hl hv rfl hs)
          · simp only [ab_cmp, pr_8_100, pr_8_26, pr_8_40, pr_8_m4, pr_i_0, pr_i_1, pr_i_m1] at h46
            first
            | contradiction
            | exact absurd trivial h46
            | exact absurd h46 (by decide)
            | exact absurd (Classical.not_not.mp h46) (by decide)
            | skip
              fail
        · rcases (show k = 0 ∨ k = 1 by omega) with rfl | rfl
          · rw [if_pos (Or.inr (show nI 0 = 0 from rfl))]
            refine pr_seqT (pc' := 46) 2 rfl ⟨⟨trivial, trivial⟩, trivial⟩ ?_
            try simp only [r9, r0, r1, r2, r3, s1, s2, q0, q1, rc, q3, q4, q5, q6, q7, q8, pr_8_100, pr_8_26, pr_8_40, pr_8_m4, pr_i_0, pr_i_1, pr_i_m1]
            refine pr_icT rfl (fun h46 => ?_) (fun h46 => ?_)
            · simp only [ab_cmp, pr_8_100, pr_8_26, pr_8_40, pr_8_m4, pr_i_0, pr_i_1, pr_i_m1] at h46
              first
              | contradiction
              | exact absurd trivial h46
              | exact absurd h46 (by decide)
              | exact absurd (Classical.not_not.mp h46) (by decide)
              | exact absurd rfl h46
              | skip
                refine pr_seqT (pc' := 158) 2 rfl ⟨⟨trivial, trivial⟩, trivial⟩ ?_
                try simp only [r9, r0, r1, r2, r3, s1, s2, q0, q1, rc, q3, q4, q5, q6, q7, q8, pr_8_100, pr_8_26, pr_8_40, pr_8_m4, pr_i_0, pr_i_1, pr_i_m1]
                refine pr_icT rfl (fun h158 => ?_) (fun h158 => ?_)
                · simp only [ab_cmp, pr_8_100, pr_8_26, pr_8_40, pr_8_m4, pr_i_0, pr_i_1, pr_i_m1] at h158
                  first
                  | contradiction
                  | exact absurd trivial h158
                  | exact absurd h158 (by decide)
                  | exact absurd (Classical.not_not.mp h158) (by decide)
                  | exact absurd rfl h158
                  | skip
                    refine pr_seqT (pc' := 171) 2 rfl ⟨⟨trivial, trivial⟩, trivial⟩ ?_
                    try simp only [r9, r0, r1, r2, r3, s1, s2, q0, q1, rc, q3, q4, q5, q6, q7, q8, pr_8_100, pr_8_26, pr_8_40, pr_8_m4, pr_i_0, pr_i_1, pr_i_m1]
                    exact pr_irT rfl trivial (cp_q hl hv rfl hs)
                · simp only [ab_cmp, pr_8_100, pr_8_26, pr_8_40, pr_8_m4, pr_i_0, pr_i_1, pr_i_m1] at h158
                  first
                  | contradiction
                  | exact absurd trivial h158
                  | exact absurd h158 (by decide)
                  | exact absurd (Classical.not_not.mp h158) (by decide)
                  | exact absurd rfl h158
                  | skip
                    refine pr_seqT (pc' := 162) 1 rfl ⟨trivial, trivial⟩ ?_
                    try simp only [r9, r0, r1, r2, r3, s1, s2, q0, q1, rc, q3, q4, q5, q6, q7, q8, pr_8_100, pr_8_26, pr_8_40, pr_8_m4, pr_i_0, pr_i_1, pr_i_m1]
                    refine pr_ifT rfl (fun h162 => ?_) (fun h162 => ?_)
                    · simp only [ab_cmp, pr_8_100, pr_8_26, pr_8_40, pr_8_m4, pr_i_0, pr_i_1, pr_i_m1] at h162
                      first
                      | contradiction
                      | exact absurd trivial h162
                      | exact absurd h162 (by decide)
                      | exact absurd (Classical.not_not.mp h162) (by decide)
                      | exact absurd rfl h162
                      | skip
                        refine pr_seqT (pc' := 171) 1 rfl ⟨trivial, trivial⟩ ?_
                        try simp only [r9, r0, r1, r2, r3, s1, s2, q0, q1, rc, q3, q4, q5, q6, q7, q8, pr_8_100, pr_8_26, pr_8_40, pr_8_m4, pr_i_0, pr_i_1, pr_i_m1]
                        exact pr_irT rfl trivial (cp_q hl hv rfl hs)
                    · simp only [ab_cmp, pr_8_100, pr_8_26, pr_8_40, pr_8_m4, pr_i_0, pr_i_1, pr_i_m1] at h162
                      first
                      | contradiction
                      | exact absurd trivial h162
                      | exact absurd h162 (by decide)
                      | exact absurd (Classical.not_not.mp h162) (by decide)
                      | exact absurd rfl h162
                      | skip
                        refine pr_seqT (pc' := 171) 2 rfl ⟨⟨trivial, trivial⟩, trivial⟩ ?_
                        try simp only [r9, r0, r1, r2, r3, s1, s2, q0, q1, rc, q3, q4, q5, q6, q7, q8, pr_8_100, pr_8_26, pr_8_40, pr_8_m4, pr_i_0, pr_i_1, pr_i_m1]
                        exact pr_irT rfl trivial (cp_q hl hv rfl hs)
            · simp only [ab_cmp, pr_8_100, pr_8_26, pr_8_40, pr_8_m4, pr_i_0, pr_i_1, pr_i_m1] at h46
              first
              | contradiction
              | exact absurd trivial h46
              | exact absurd h46 (by decide)
              | exact absurd (Classical.not_not.mp h46) (by decide)
              | exact absurd rfl h46
              | skip
                fail
          · rw [if_neg (fun q => q.elim c1 (by decide))]
            refine pr_seqT (pc' := 46) 2 rfl ⟨⟨trivial, trivial⟩, trivial⟩ ?_
            try simp only [r9, r0, r1, r2, r3, s1, s2, q0, q1, rc, q3, q4, q5, q6, q7, q8, pr_8_100, pr_8_26, pr_8_40, pr_8_m4, pr_i_0, pr_i_1, pr_i_m1]
            refine pr_icT rfl (fun h46 => ?_) (fun h46 => ?_)
            · simp only [ab_cmp, pr_8_100, pr_8_26, pr_8_40, pr_8_m4, pr_i_0, pr_i_1, pr_i_m1] at h46
              first
              | contradiction
              | exact absurd trivial h46
              | exact absurd h46 (by decide)
              | exact absurd (Classical.not_not.mp h46) (by decide)
              | skip
                refine pr_seqT (pc' := 158) 2 rfl ⟨⟨trivial, trivial⟩, trivial⟩ ?_
                try simp only [r9, r0, r1, r2, r3, s1, s2, q0, q1, rc, q3, q4, q5, q6, q7, q8, pr_8_100, pr_8_26, pr_8_40, pr_8_m4, pr_i_0, pr_i_1, pr_i_m1]
                refine pr_icT rfl (fun h158 => ?_) (fun h158 => ?_)
                · simp only [ab_cmp, pr_8_100, pr_8_26, pr_8_40, pr_8_m4, pr_i_0, pr_i_1, pr_i_m1] at h158
                  first
                  | contradiction
                  | exact absurd trivial h158
                  | exact absurd h158 (by decide)
                  | exact absurd (Classical.not_not.mp h158) (by decide)
                  | skip
                    refine pr_seqT (pc' := 171) 2 rfl ⟨⟨trivial, trivial⟩, trivial⟩ ?_
                    try simp only [r9, r0, r1, r2, r3, s1, s2, q0, q1, rc, q3, q4, q5, q6, q7, q8, pr_8_100, pr_8_26, pr_8_40, pr_8_m4, pr_i_0, pr_i_1, pr_i_m1]
                    exact pr_irT rfl trivial (cp_q hl hv rfl hs)
                · simp only [ab_cmp, pr_8_100, pr_8_26, pr_8_40, pr_8_m4, pr_i_0, pr_i_1, pr_i_m1] at h158
                  first
                  | contradiction
                  | exact absurd trivial h158
                  | exact absurd h158 (by decide)
                  | exact absurd (Classical.not_not.mp h158) (by decide)
                  | skip
                    refine pr_seqT (pc' := 162) 1 rfl ⟨trivial, trivial⟩ ?_
                    try simp only [r9, r0, r1, r2, r3, s1, s2, q0, q1, rc, q3, q4, q5, q6, q7, q8, pr_8_100, pr_8_26, pr_8_40, pr_8_m4, pr_i_0, pr_i_1, pr_i_m1]
                    refine pr_ifT rfl (fun h162 => ?_) (fun h162 => ?_)
                    · simp only [ab_cmp, pr_8_100, pr_8_26, pr_8_40, pr_8_m4, pr_i_0, pr_i_1, pr_i_m1] at h162
                      first
                      | contradiction
                      | exact absurd trivial h162
                      | exact absurd h162 (by decide)
                      | exact absurd (Classical.not_not.mp h162) (by decide)
                      | skip
                        refine pr_seqT (pc' := 171) 1 rfl ⟨trivial, trivial⟩ ?_
                        try simp only [r9, r0, r1, r2, r3, s1, s2, q0, q1, rc, q3, q4, q5, q6, q7, q8, pr_8_100, pr_8_26, pr_8_40, pr_8_m4, pr_i_0, pr_i_1, pr_i_m1]
                        exact pr_irT rfl trivial (cp_q hl hv rfl hs)
                    · simp only [ab_cmp, pr_8_100, pr_8_26, pr_8_40, pr_8_m4, pr_i_0, pr_i_1, pr_i_m1] at h162
                      first
                      | contradiction
                      | exact absurd trivial h162
                      | exact absurd h162 (by decide)
                      | exact absurd (Classical.not_not.mp h162) (by decide)
                      | skip
                        refine pr_seqT (pc' := 171) 2 rfl ⟨⟨trivial, trivial⟩, trivial⟩ ?_
                        try simp only [r9, r0, r1, r2, r3, s1, s2, q0, q1, rc, q3, q4, q5, q6, q7, q8, pr_8_100, pr_8_26, pr_8_40, pr_8_m4, pr_i_0, pr_i_1, pr_i_m1]
                        exact pr_irT rfl trivial (cp_q hl hv rfl hs)
            · simp only [ab_cmp, pr_8_100, pr_8_26, pr_8_40, pr_8_m4, pr_i_0, pr_i_1, pr_i_m1] at h46
              first
              | contradiction
              | exact absurd trivial h46
              | exact absurd h46 (by decide)
              | exact absurd (Classical.not_not.mp h46) (by decide)
              | skip
                fail
      | succ dl iho =>
        intro l hll I o6 o7 hs hcv
        have e1 : ¬ (26 : Int32) ≤ nI l := nI_ge (show l < 26 by omega) (by decide)
        have e3 : (nI l).toNatClampNeg = l := nI_clamp (by omega)
        have hdI : ld_v I (tB b + 1) X.1.1 := ld_v_congr (fun a _ _ => hs a (by omega)) hd
        have vl : vp_in (nI l) (ab_n h (tB b + 1 + 1)) := by rw [m2]; exact vp_in_nI (by omega) (by decide)
        have hwe := c_weigh (l := l) h (I, M.2) hc hg hb hdI (by omega) (fun p hp => by
          have := a_win_le (law := X.1.1.2.2.1) (kind := (d_pn X.1.1 p).1) (l := l) (d8 p _ (d_pn_at hp)).2.2.2.2.2.2.2.1
          unfold d_wg
          omega)
        have hs1 : cl_same M.1 (cs_wg I 49 (d_wg X.1.1 l) (x_n X)) := fun a ha => by rw [cs_wg_far (by omega)]; exact hs a ha
        have cv1 : cs_v (cs_wg I 49 (d_wg X.1.1 l) (x_n X)) 49 (x_n X) (x_S X) (x_K X) (x_D X) (x_W X) := cs_v_congr (fun a _ _ => cs_wg_far (by omega)) hcv
        have wg1 : ∀ j, j < x_n X → cs_wg I 49 (d_wg X.1.1 l) (x_n X) (49 + 5) j = nI (d_wg X.1.1 l j) := fun j hj => cs_wg_at hj
        have hwe : pr_C pX0_weigh [.ref 49, .ref (tB b + 1), .int (nI l)] h (I, M.2) (some (.int (pr_b (!nb (fun p => decide (¬ d_wg X.1.1 l p = 0)) (x_n X))))) h (cs_wg I 49 (d_wg X.1.1 l) (x_n X), M.2.1, M.2.2) := hwe
        generalize cs_wg I 49 (d_wg X.1.1 l) (x_n X) = I1 at hwe hs1 cv1 wg1
        cases hz : nb (fun p => decide (¬ d_wg X.1.1 l p = 0)) (x_n X) with
        | true =>
          rw [hz] at hwe
          have hno : ∀ p, p < x_n X → d_wg X.1.1 l p = 0 := fun p hp => by
            have := nb_true _ hz p hp
            exact Classical.not_not.mp (of_decide_eq_false this)
          have hh := iho (l + 1) (by omega) I1 o6 o7 hs1 cv1
          rw [show 41 * (l + 1) = 41 * l + 41 by omega, ptc_none hno (by omega) 41 (by omega), ← nI_1] at hh
          refine pr_seqT (pc' := 46) 2 rfl ⟨⟨trivial, trivial⟩, trivial⟩ ?_
          try simp only [r9, r0, r1, r2, r3, s1, s2, q0, q1, rc, q3, q4, q5, q6, q7, q8, pr_8_100, pr_8_26, pr_8_40, pr_8_m4, pr_i_0, pr_i_1, pr_i_m1]
          refine pr_icT rfl (fun h46 => ?_) (fun h46 => ?_)
          · simp only [ab_cmp, pr_8_100, pr_8_26, pr_8_40, pr_8_m4, pr_i_0, pr_i_1, pr_i_m1] at h46
            first
            | contradiction
            | exact absurd trivial h46
            | exact absurd h46 (by decide)
            | exact absurd (Classical.not_not.mp h46) (by decide)
            | skip
              fail
          · simp only [ab_cmp, pr_8_100, pr_8_26, pr_8_40, pr_8_m4, pr_i_0, pr_i_1, pr_i_m1] at h46
            first
            | contradiction
            | exact absurd trivial h46
            | exact absurd h46 (by decide)
            | exact absurd (Classical.not_not.mp h46) (by decide)
            | skip
              refine pr_seqT (pc' := 56) 4 rfl ⟨⟨⟨⟨trivial, (by first | assumption | (simp only [r9, r0, r1, r2, r3, s1, s2, q0, q1, rc, q3, q4, q5, q6, q7, q8, pr_8_100, pr_8_26, pr_8_40, pr_8_m4, pr_i_0, pr_i_1, pr_i_m1]; first | assumption | decide | exact ⟨by assumption, by assumption⟩ | exact ⟨Or.inl (by assumption), by assumption⟩ | omega) | decide | exact ⟨Or.inl (by assumption), by assumption⟩ | exact ⟨by assumption, by assumption⟩ | omega)⟩, (by first | assumption | (simp only [r9, r0, r1, r2, r3, s1, s2, q0, q1, rc, q3, q4, q5, q6, q7, q8, pr_8_100, pr_8_26, pr_8_40, pr_8_m4, pr_i_0, pr_i_1, pr_i_m1]; first | assumption | decide | exact ⟨by assumption, by assumption⟩ | exact ⟨Or.inl (by assumption), by assumption⟩ | omega) | decide | exact ⟨Or.inl (by assumption), by assumption⟩ | exact ⟨by assumption, by assumption⟩ | omega)⟩, (by first | assumption | (simp only [r9, r0, r1, r2, r3, s1, s2, q0, q1, rc, q3, q4, q5, q6, q7, q8, pr_8_100, pr_8_26, pr_8_40, pr_8_m4, pr_i_0, pr_i_1, pr_i_m1]; first | assumption | decide | exact ⟨by assumption, by assumption⟩ | exact ⟨Or.inl (by assumption), by assumption⟩ | omega) | decide | exact ⟨Or.inl (by assumption), by assumption⟩ | exact ⟨by assumption, by assumption⟩ | omega)⟩, trivial⟩ ?_
              try simp only [r9, r0, r1, r2, r3, s1, s2, q0, q1, rc, q3, q4, q5, q6, q7, q8, pr_8_100, pr_8_26, pr_8_40, pr_8_m4, pr_i_0, pr_i_1, pr_i_m1]
              refine pr_cvT [_, _] rfl rfl rfl rfl rfl (Nat.le_of_ble_eq_true rfl) (by first | assumption | (simp only [r9, r0, r1, r2, r3, s1, s2, q0, q1, rc, q3, q4, q5, q6, q7, q8, pr_8_100, pr_8_26, pr_8_40, pr_8_m4, pr_i_0, pr_i_1, pr_i_m1]; first | assumption | decide | exact ⟨by assumption, by assumption⟩ | exact ⟨Or.inl (by assumption), by assumption⟩ | omega) | decide | exact ⟨Or.inl (by assumption), by assumption⟩ | exact ⟨by assumption, by assumption⟩ | omega) (Nat.le_of_ble_eq_true rfl) (hwe) ?_
              refine pr_ifT rfl (fun h59 => ?_) (fun h59 => ?_)
              · simp only [ab_cmp, pr_8_100, pr_8_26, pr_8_40, pr_8_m4, pr_i_0, pr_i_1, pr_i_m1] at h59
                first
                | contradiction
                | exact absurd trivial h59
                | exact absurd h59 (by decide)
                | exact absurd (Classical.not_not.mp h59) (by decide)
                | skip
                  refine pr_seqT (pc' := 42) 2 rfl ⟨⟨trivial, trivial⟩, trivial⟩ ?_
                  try simp only [r9, r0, r1, r2, r3, s1, s2, q0, q1, rc, q3, q4, q5, q6, q7, q8, pr_8_100, pr_8_26, pr_8_40, pr_8_m4, pr_i_0, pr_i_1, pr_i_m1]
                  exact hh
              · simp only [ab_cmp, pr_8_100, pr_8_26, pr_8_40, pr_8_m4, pr_i_0, pr_i_1, pr_i_m1] at h59
                first
                | contradiction
                | exact absurd trivial h59
                | exact absurd h59 (by decide)
                | exact absurd (Classical.not_not.mp h59) (by decide)
                | skip
                  fail
        | false =>
          rw [hz] at hwe
          have inn : ∀ dv v, v + dv = 41 → ∀ (I : Nat → Nat → Int32) (o7 : Option Value), cl_same M.1 I → cs_v I 49 (x_n X) (x_S (ptX X l v)) (x_K X) (x_D X) (x_W X) → (∀ j, j < x_n X → I (49 + 5) j = nI (d_wg X.1.1 l j)) → pr_T pX10_part 80 [some (.ref 1), some (.int (nI k)), some (.ref (tB b + 1)), some (.int (nI (ptc X (41 * l + v)).1)), some (.int (ptc X (41 * l + v)).2), some (.int (nI l)), some (.int (nI v)), o7] [] h (I, M.2) (cp h M (if (ptc X 1066).2 = -4 ∨ nI k = 0 then (ptc X 1066).2 else nI (ptc X 1066).1, X)) := by
            intro dv
            induction dv with
            | zero =>
              intro v hvv I o7 hs hcv hwg
              obtain rfl : v = 41 := by omega
              have e5 : (40 : Int32) < nI 41 := by decide
              have x1 : I (tB b + 1 + 1) l = nI (X.1.1.1 l) := by rw [hs _ (by omega)]; exact (d7 l (by omega)).1
              have hsf := c_shift (nI (X.1.1.1 l) - 40 - 1) h (I, M.2) hc hcv.1 hn8
              obtain ⟨cv2, wg2⟩ := cs_shv (S' := x_S X) (m := nI (X.1.1.1 l) - 40 - 1) hcv hwg (fun j hj => i32_p3 _ _ _ _ _ (pt_S X l 41 j) rfl)
              have hs2 : cl_same M.1 (cs_sh I 49 (nI (X.1.1.1 l) - 40 - 1) (x_n X)) := fun a ha => by rw [cs_sh_far (by omega)]; exact hs a ha
              have hh := iho (l + 1) (by omega) _ (some (.int (nI 41))) o7 hs2 cv2
              rw [show 41 * (l + 1) = 41 * l + 41 by omega, ← nI_1] at hh
              refine pr_seqT (pc' := 84) 2 rfl ⟨⟨trivial, trivial⟩, trivial⟩ ?_
              try simp only [r9, r0, r1, r2, r3, s1, s2, q0, q1, rc, q3, q4, q5, q6, q7, q8, e3, x1, pr_8_100, pr_8_26, pr_8_40, pr_8_m4, pr_i_0, pr_i_1, pr_i_m1]
              refine pr_icT rfl (fun h84 => ?_) (fun h84 => ?_)
              · simp only [ab_cmp, pr_8_100, pr_8_26, pr_8_40, pr_8_m4, pr_i_0, pr_i_1, pr_i_m1] at h84
                first
                | contradiction
                | exact absurd trivial h84
                | exact absurd h84 (by decide)
                | exact absurd (Classical.not_not.mp h84) (by decide)
                | skip
                  refine pr_seqT (pc' := 145) 10 rfl ⟨⟨⟨⟨⟨⟨⟨⟨⟨⟨trivial, (by first | assumption | (simp only [r9, r0, r1, r2, r3, s1, s2, q0, q1, rc, q3, q4, q5, q6, q7, q8, e3, x1, pr_8_100, pr_8_26, pr_8_40, pr_8_m4, pr_i_0, pr_i_1, pr_i_m1]; first | assumption | decide | exact ⟨by assumption, by assumption⟩ | exact ⟨Or.inl (by assumption), by assumption⟩ | omega) | decide | exact ⟨Or.inl (by assumption), by assumption⟩ | exact ⟨by assumption, by assumption⟩ | omega)⟩, (by first | assumption | (simp only [r9, r0, r1, r2, r3, s1, s2, q0, q1, rc, q3, q4, q5, q6, q7, q8, e3, x1, pr_8_100, pr_8_26, pr_8_40, pr_8_m4, pr_i_0, pr_i_1, pr_i_m1]; first | assumption | decide | exact ⟨by assumption, by assumption⟩ | exact ⟨Or.inl (by assumption), by assumption⟩ | omega) | decide | exact ⟨Or.inl (by assumption), by assumption⟩ | exact ⟨by assumption, by assumption⟩ | omega)⟩, (by first | assumption | (simp only [r9, r0, r1, r2, r3, s1, s2, q0, q1, rc, q3, q4, q5, q6, q7, q8, e3, x1, pr_8_100, pr_8_26, pr_8_40, pr_8_m4, pr_i_0, pr_i_1, pr_i_m1]; first | assumption | decide | exact ⟨by assumption, by assumption⟩ | exact ⟨Or.inl (by assumption), by assumption⟩ | omega) | decide | exact ⟨Or.inl (by assumption), by assumption⟩ | exact ⟨by assumption, by assumption⟩ | omega)⟩, (by first | assumption | (simp only [r9, r0, r1, r2, r3, s1, s2, q0, q1, rc, q3, q4, q5, q6, q7, q8, e3, x1, pr_8_100, pr_8_26, pr_8_40, pr_8_m4, pr_i_0, pr_i_1, pr_i_m1]; first | assumption | decide | exact ⟨by assumption, by assumption⟩ | exact ⟨Or.inl (by assumption), by assumption⟩ | omega) | decide | exact ⟨Or.inl (by assumption), by assumption⟩ | exact ⟨by assumption, by assumption⟩ | omega)⟩, trivial⟩, (by first | assumption | (simp only [r9, r0, r1, r2, r3, s1, s2, q0, q1, rc, q3, q4, q5, q6, q7, q8, e3, x1, pr_8_100, pr_8_26, pr_8_40, pr_8_m4, pr_i_0, pr_i_1, pr_i_m1]; first | assumption | decide | exact ⟨by assumption, by assumption⟩ | exact ⟨Or.inl (by assumption), by assumption⟩ | omega) | decide | exact ⟨Or.inl (by assumption), by assumption⟩ | exact ⟨by assumption, by assumption⟩ | omega)⟩, trivial⟩, trivial⟩, trivial⟩, trivial⟩ ?_
                  try simp only [r9, r0, r1, r2, r3, s1, s2, q0, q1, rc, q3, q4, q5, q6, q7, q8, e3, x1, pr_8_100, pr_8_26, pr_8_40, pr_8_m4, pr_i_0, pr_i_1, pr_i_m1]
                  refine pr_cvT [_] rfl rfl rfl rfl rfl (Nat.le_of_ble_eq_true rfl) (by first | assumption | (simp only [r9, r0, r1, r2, r3, s1, s2, q0, q1, rc, q3, q4, q5, q6, q7, q8, e3, x1, pr_8_100, pr_8_26, pr_8_40, pr_8_m4, pr_i_0, pr_i_1, pr_i_m1]; first | assumption | decide | exact ⟨by assumption, by assumption⟩ | exact ⟨Or.inl (by assumption), by assumption⟩ | omega) | decide | exact ⟨Or.inl (by assumption), by assumption⟩ | exact ⟨by assumption, by assumption⟩ | omega) (Nat.le_of_ble_eq_true rfl) (hsf) ?_
                  refine pr_seqT (pc' := 42) 2 rfl ⟨⟨trivial, trivial⟩, trivial⟩ ?_
                  try simp only [r9, r0, r1, r2, r3, s1, s2, q0, q1, rc, q3, q4, q5, q6, q7, q8, e3, x1, pr_8_100, pr_8_26, pr_8_40, pr_8_m4, pr_i_0, pr_i_1, pr_i_m1]
                  exact hh
              · simp only [ab_cmp, pr_8_100, pr_8_26, pr_8_40, pr_8_m4, pr_i_0, pr_i_1, pr_i_m1] at h84
                first
                | contradiction
                | exact absurd trivial h84
                | exact absurd h84 (by decide)
                | exact absurd (Classical.not_not.mp h84) (by decide)
                | skip
                  fail
            | succ dv ihi =>
              intro v hvv I o7 hs hcv hwg
              have e5 : ¬ (40 : Int32) < nI v := fun q => by
                have := (nI_ltI (a := 40) (b := v) (by omega) (by omega)).mp q
                omega
              have hm := c_howMany h (I, M.2) hc hcv
              have hm : pr_C pX0_howMany [.ref 49] h (I, M.2) (some (.int (nI (ptn X l v)))) h (I, M.2) := hm
              have hsf := c_shift 1 h (I, M.2) hc hcv.1 hn8
              obtain ⟨cv2, wg2⟩ := cs_shv (S' := x_S (ptX X l (v + 1))) (m := 1) hcv hwg (fun j hj => i32_p2 _ _ _ _ _ _ _ (pt_S X l v j) (pt_S X l (v + 1) j) (nI_1 v).symm)
              have hs2 : cl_same M.1 (cs_sh I 49 1 (x_n X)) := fun a ha => by rw [cs_sh_far (by omega)]; exact hs a ha
              have hh := ihi (v + 1) (by omega) _ (some (.int (nI (ptn X l v)))) hs2 cv2 wg2
              have e8 : (41 * l + v) / 41 = l ∧ (41 * l + v) % 41 = v := by omega
              have em : ptc X (41 * l + (v + 1)) = if (ptc X (41 * l + v)).1 < ptn X l v then (ptn X l v, 100 * nI l + nI v) else ptc X (41 * l + v) := by
                rw [show 41 * l + (v + 1) = 41 * l + v + 1 by omega, ptc, e8.1, e8.2]
              have b1 := ptc_le X (41 * l + v)
              have b2 : ptn X l v ≤ x_n X := cnt_le _ _
              rw [← nI_1, em] at hh
              by_cases c : (ptc X (41 * l + v)).1 < ptn X l v
              · have c3 : ¬ nI (ptn X l v) ≤ nI (ptc X (41 * l + v)).1 := nI_ge c (by omega)
                rw [if_pos c] at hh
                refine pr_seqT (pc' := 84) 2 rfl ⟨⟨trivial, trivial⟩, trivial⟩ ?_
                try simp only [r9, r0, r1, r2, r3, s1, s2, q0, q1, rc, q3, q4, q5, q6, q7, q8, pr_8_100, pr_8_26, pr_8_40, pr_8_m4, pr_i_0, pr_i_1, pr_i_m1]
                refine pr_icT rfl (fun h84 => ?_) (fun h84 => ?_)
                · simp only [ab_cmp, pr_8_100, pr_8_26, pr_8_40, pr_8_m4, pr_i_0, pr_i_1, pr_i_m1] at h84
                  first
                  | contradiction
                  | exact absurd trivial h84
                  | exact absurd h84 (by decide)
                  | exact absurd (Classical.not_not.mp h84) (by decide)
                  | skip
                    fail
                · simp only [ab_cmp, pr_8_100, pr_8_26, pr_8_40, pr_8_m4, pr_i_0, pr_i_1, pr_i_m1] at h84
                  first
                  | contradiction
                  | exact absurd trivial h84
                  | exact absurd h84 (by decide)
                  | exact absurd (Classical.not_not.mp h84) (by decide)
                  | skip
                    refine pr_seqT (pc' := 91) 2 rfl ⟨⟨trivial, (by first | assumption | (simp only [r9, r0, r1, r2, r3, s1, s2, q0, q1, rc, q3, q4, q5, q6, q7, q8, pr_8_100, pr_8_26, pr_8_40, pr_8_m4, pr_i_0, pr_i_1, pr_i_m1]; first | assumption | decide | exact ⟨by assumption, by assumption⟩ | exact ⟨Or.inl (by assumption), by assumption⟩ | omega) | decide | exact ⟨Or.inl (by assumption), by assumption⟩ | exact ⟨by assumption, by assumption⟩ | omega)⟩, (by first | assumption | (simp only [r9, r0, r1, r2, r3, s1, s2, q0, q1, rc, q3, q4, q5, q6, q7, q8, pr_8_100, pr_8_26, pr_8_40, pr_8_m4, pr_i_0, pr_i_1, pr_i_m1]; first | assumption | decide | exact ⟨by assumption, by assumption⟩ | exact ⟨Or.inl (by assumption), by assumption⟩ | omega) | decide | exact ⟨Or.inl (by assumption), by assumption⟩ | exact ⟨by assumption, by assumption⟩ | omega)⟩ ?_
                    try simp only [r9, r0, r1, r2, r3, s1, s2, q0, q1, rc, q3, q4, q5, q6, q7, q8, pr_8_100, pr_8_26, pr_8_40, pr_8_m4, pr_i_0, pr_i_1, pr_i_m1]
                    refine pr_cvT [] rfl rfl rfl rfl rfl (Nat.le_of_ble_eq_true rfl) (by first | assumption | (simp only [r9, r0, r1, r2, r3, s1, s2, q0, q1, rc, q3, q4, q5, q6, q7, q8, pr_8_100, pr_8_26, pr_8_40, pr_8_m4, pr_i_0, pr_i_1, pr_i_m1]; first | assumption | decide | exact ⟨by assumption, by assumption⟩ | exact ⟨Or.inl (by assumption), by assumption⟩ | omega) | decide | exact ⟨Or.inl (by assumption), by assumption⟩ | exact ⟨by assumption, by assumption⟩ | omega) (Nat.le_of_ble_eq_true rfl) (hm) ?_
                    refine pr_seqT (pc' := 99) 3 rfl ⟨⟨⟨trivial, trivial⟩, trivial⟩, trivial⟩ ?_
                    try simp only [r9, r0, r1, r2, r3, s1, s2, q0, q1, rc, q3, q4, q5, q6, q7, q8, pr_8_100, pr_8_26, pr_8_40, pr_8_m4, pr_i_0, pr_i_1, pr_i_m1]
                    refine pr_icT rfl (fun h99 => ?_) (fun h99 => ?_)
                    · simp only [ab_cmp, pr_8_100, pr_8_26, pr_8_40, pr_8_m4, pr_i_0, pr_i_1, pr_i_m1] at h99
                      first
                      | contradiction
                      | exact absurd trivial h99
                      | exact absurd h99 (by decide)
                      | exact absurd (Classical.not_not.mp h99) (by decide)
                      | skip
                        refine pr_seqT (pc' := 120) 3 rfl ⟨⟨⟨trivial, (by first | assumption | (simp only [r9, r0, r1, r2, r3, s1, s2, q0, q1, rc, q3, q4, q5, q6, q7, q8, pr_8_100, pr_8_26, pr_8_40, pr_8_m4, pr_i_0, pr_i_1, pr_i_m1]; first | assumption | decide | exact ⟨by assumption, by assumption⟩ | exact ⟨Or.inl (by assumption), by assumption⟩ | omega) | decide | exact ⟨Or.inl (by assumption), by assumption⟩ | exact ⟨by assumption, by assumption⟩ | omega)⟩, (by first | assumption | (simp only [r9, r0, r1, r2, r3, s1, s2, q0, q1, rc, q3, q4, q5, q6, q7, q8, pr_8_100, pr_8_26, pr_8_40, pr_8_m4, pr_i_0, pr_i_1, pr_i_m1]; first | assumption | decide | exact ⟨by assumption, by assumption⟩ | exact ⟨Or.inl (by assumption), by assumption⟩ | omega) | decide | exact ⟨Or.inl (by assumption), by assumption⟩ | exact ⟨by assumption, by assumption⟩ | omega)⟩, trivial⟩ ?_
                        try simp only [r9, r0, r1, r2, r3, s1, s2, q0, q1, rc, q3, q4, q5, q6, q7, q8, pr_8_100, pr_8_26, pr_8_40, pr_8_m4, pr_i_0, pr_i_1, pr_i_m1]
                        refine pr_cvT [_] rfl rfl rfl rfl rfl (Nat.le_of_ble_eq_true rfl) (by first | assumption | (simp only [r9, r0, r1, r2, r3, s1, s2, q0, q1, rc, q3, q4, q5, q6, q7, q8, pr_8_100, pr_8_26, pr_8_40, pr_8_m4, pr_i_0, pr_i_1, pr_i_m1]; first | assumption | decide | exact ⟨by assumption, by assumption⟩ | exact ⟨Or.inl (by assumption), by assumption⟩ | omega) | decide | exact ⟨Or.inl (by assumption), by assumption⟩ | exact ⟨by assumption, by assumption⟩ | omega) (Nat.le_of_ble_eq_true rfl) (hsf) ?_
                        refine pr_seqT (pc' := 80) 2 rfl ⟨⟨trivial, trivial⟩, trivial⟩ ?_
                        try simp only [r9, r0, r1, r2, r3, s1, s2, q0, q1, rc, q3, q4, q5, q6, q7, q8, pr_8_100, pr_8_26, pr_8_40, pr_8_m4, pr_i_0, pr_i_1, pr_i_m1]
                        exact hh
                    · simp only [ab_cmp, pr_8_100, pr_8_26, pr_8_40, pr_8_m4, pr_i_0, pr_i_1, pr_i_m1] at h99
                      first
                      | contradiction
                      | exact absurd trivial h99
                      | exact absurd h99 (by decide)
                      | exact absurd (Classical.not_not.mp h99) (by decide)
                      | skip
                        refine pr_seqT (pc' := 120) 11 rfl ⟨⟨⟨⟨⟨⟨⟨⟨⟨⟨⟨trivial, trivial⟩, trivial⟩, trivial⟩, trivial⟩, trivial⟩, trivial⟩, trivial⟩, trivial⟩, (by first | assumption | (simp only [r9, r0, r1, r2, r3, s1, s2, q0, q1, rc, q3, q4, q5, q6, q7, q8, pr_8_100, pr_8_26, pr_8_40, pr_8_m4, pr_i_0, pr_i_1, pr_i_m1]; first | assumption | decide | exact ⟨by assumption, by assumption⟩ | exact ⟨Or.inl (by assumption), by assumption⟩ | omega) | decide | exact ⟨Or.inl (by assumption), by assumption⟩ | exact ⟨by assumption, by assumption⟩ | omega)⟩, (by first | assumption | (simp only [r9, r0, r1, r2, r3, s1, s2, q0, q1, rc, q3, q4, q5, q6, q7, q8, pr_8_100, pr_8_26, pr_8_40, pr_8_m4, pr_i_0, pr_i_1, pr_i_m1]; first | assumption | decide | exact ⟨by assumption, by assumption⟩ | exact ⟨Or.inl (by assumption), by assumption⟩ | omega) | decide | exact ⟨Or.inl (by assumption), by assumption⟩ | exact ⟨by assumption, by assumption⟩ | omega)⟩, trivial⟩ ?_
                        try simp only [r9, r0, r1, r2, r3, s1, s2, q0, q1, rc, q3, q4, q5, q6, q7, q8, pr_8_100, pr_8_26, pr_8_40, pr_8_m4, pr_i_0, pr_i_1, pr_i_m1]
                        refine pr_cvT [_] rfl rfl rfl rfl rfl (Nat.le_of_ble_eq_true rfl) (by first | assumption | (simp only [r9, r0, r1, r2, r3, s1, s2, q0, q1, rc, q3, q4, q5, q6, q7, q8, pr_8_100, pr_8_26, pr_8_40, pr_8_m4, pr_i_0, pr_i_1, pr_i_m1]; first | assumption | decide | exact ⟨by assumption, by assumption⟩ | exact ⟨Or.inl (by assumption), by assumption⟩ | omega) | decide | exact ⟨Or.inl (by assumption), by assumption⟩ | exact ⟨by assumption, by assumption⟩ | omega) (Nat.le_of_ble_eq_true rfl) (hsf) ?_
                        refine pr_seqT (pc' := 80) 2 rfl ⟨⟨trivial, trivial⟩, trivial⟩ ?_
                        try simp only [r9, r0, r1, r2, r3, s1, s2, q0, q1, rc, q3, q4, q5, q6, q7, q8, pr_8_100, pr_8_26, pr_8_40, pr_8_m4, pr_i_0, pr_i_1, pr_i_m1]
                        exact hh
              · have c3 : nI (ptn X l v) ≤ nI (ptc X (41 * l + v)).1 := nI_le (by omega) (by omega)
                rw [if_neg c] at hh
                refine pr_seqT (pc' := 84) 2 rfl ⟨⟨trivial, trivial⟩, trivial⟩ ?_
                try simp only [r9, r0, r1, r2, r3, s1, s2, q0, q1, rc, q3, q4, q5, q6, q7, q8, pr_8_100, pr_8_26, pr_8_40, pr_8_m4, pr_i_0, pr_i_1, pr_i_m1]
                refine pr_icT rfl (fun h84 => ?_) (fun h84 => ?_)
                · simp only [ab_cmp, pr_8_100, pr_8_26, pr_8_40, pr_8_m4, pr_i_0, pr_i_1, pr_i_m1] at h84
                  first
                  | contradiction
                  | exact absurd trivial h84
                  | exact absurd h84 (by decide)
                  | exact absurd (Classical.not_not.mp h84) (by decide)
                  | skip
                    fail
                · simp only [ab_cmp, pr_8_100, pr_8_26, pr_8_40, pr_8_m4, pr_i_0, pr_i_1, pr_i_m1] at h84
                  first
                  | contradiction
                  | exact absurd trivial h84
                  | exact absurd h84 (by decide)
                  | exact absurd (Classical.not_not.mp h84) (by decide)
                  | skip
                    refine pr_seqT (pc' := 91) 2 rfl ⟨⟨trivial, (by first | assumption | (simp only [r9, r0, r1, r2, r3, s1, s2, q0, q1, rc, q3, q4, q5, q6, q7, q8, pr_8_100, pr_8_26, pr_8_40, pr_8_m4, pr_i_0, pr_i_1, pr_i_m1]; first | assumption | decide | exact ⟨by assumption, by assumption⟩ | exact ⟨Or.inl (by assumption), by assumption⟩ | omega) | decide | exact ⟨Or.inl (by assumption), by assumption⟩ | exact ⟨by assumption, by assumption⟩ | omega)⟩, (by first | assumption | (simp only [r9, r0, r1, r2, r3, s1, s2, q0, q1, rc, q3, q4, q5, q6, q7, q8, pr_8_100, pr_8_26, pr_8_40, pr_8_m4, pr_i_0, pr_i_1, pr_i_m1]; first | assumption | decide | exact ⟨by assumption, by assumption⟩ | exact ⟨Or.inl (by assumption), by assumption⟩ | omega) | decide | exact ⟨Or.inl (by assumption), by assumption⟩ | exact ⟨by assumption, by assumption⟩ | omega)⟩ ?_
                    try simp only [r9, r0, r1, r2, r3, s1, s2, q0, q1, rc, q3, q4, q5, q6, q7, q8, pr_8_100, pr_8_26, pr_8_40, pr_8_m4, pr_i_0, pr_i_1, pr_i_m1]
                    refine pr_cvT [] rfl rfl rfl rfl rfl (Nat.le_of_ble_eq_true rfl) (by first | assumption | (simp only [r9, r0, r1, r2, r3, s1, s2, q0, q1, rc, q3, q4, q5, q6, q7, q8, pr_8_100, pr_8_26, pr_8_40, pr_8_m4, pr_i_0, pr_i_1, pr_i_m1]; first | assumption | decide | exact ⟨by assumption, by assumption⟩ | exact ⟨Or.inl (by assumption), by assumption⟩ | omega) | decide | exact ⟨Or.inl (by assumption), by assumption⟩ | exact ⟨by assumption, by assumption⟩ | omega) (Nat.le_of_ble_eq_true rfl) (hm) ?_
                    refine pr_seqT (pc' := 99) 3 rfl ⟨⟨⟨trivial, trivial⟩, trivial⟩, trivial⟩ ?_
                    try simp only [r9, r0, r1, r2, r3, s1, s2, q0, q1, rc, q3, q4, q5, q6, q7, q8, pr_8_100, pr_8_26, pr_8_40, pr_8_m4, pr_i_0, pr_i_1, pr_i_m1]
                    refine pr_icT rfl (fun h99 => ?_) (fun h99 => ?_)
                    · simp only [ab_cmp, pr_8_100, pr_8_26, pr_8_40, pr_8_m4, pr_i_0, pr_i_1, pr_i_m1] at h99
                      first
                      | contradiction
                      | exact absurd trivial h99
                      | exact absurd h99 (by decide)
                      | exact absurd (Classical.not_not.mp h99) (by decide)
                      | skip
                        refine pr_seqT (pc' := 120) 3 rfl ⟨⟨⟨trivial, (by first | assumption | (simp only [r9, r0, r1, r2, r3, s1, s2, q0, q1, rc, q3, q4, q5, q6, q7, q8, pr_8_100, pr_8_26, pr_8_40, pr_8_m4, pr_i_0, pr_i_1, pr_i_m1]; first | assumption | decide | exact ⟨by assumption, by assumption⟩ | exact ⟨Or.inl (by assumption), by assumption⟩ | omega) | decide | exact ⟨Or.inl (by assumption), by assumption⟩ | exact ⟨by assumption, by assumption⟩ | omega)⟩, (by first | assumption | (simp only [r9, r0, r1, r2, r3, s1, s2, q0, q1, rc, q3, q4, q5, q6, q7, q8, pr_8_100, pr_8_26, pr_8_40, pr_8_m4, pr_i_0, pr_i_1, pr_i_m1]; first | assumption | decide | exact ⟨by assumption, by assumption⟩ | exact ⟨Or.inl (by assumption), by assumption⟩ | omega) | decide | exact ⟨Or.inl (by assumption), by assumption⟩ | exact ⟨by assumption, by assumption⟩ | omega)⟩, trivial⟩ ?_
                        try simp only [r9, r0, r1, r2, r3, s1, s2, q0, q1, rc, q3, q4, q5, q6, q7, q8, pr_8_100, pr_8_26, pr_8_40, pr_8_m4, pr_i_0, pr_i_1, pr_i_m1]
                        refine pr_cvT [_] rfl rfl rfl rfl rfl (Nat.le_of_ble_eq_true rfl) (by first | assumption | (simp only [r9, r0, r1, r2, r3, s1, s2, q0, q1, rc, q3, q4, q5, q6, q7, q8, pr_8_100, pr_8_26, pr_8_40, pr_8_m4, pr_i_0, pr_i_1, pr_i_m1]; first | assumption | decide | exact ⟨by assumption, by assumption⟩ | exact ⟨Or.inl (by assumption), by assumption⟩ | omega) | decide | exact ⟨Or.inl (by assumption), by assumption⟩ | exact ⟨by assumption, by assumption⟩ | omega) (Nat.le_of_ble_eq_true rfl) (hsf) ?_
                        refine pr_seqT (pc' := 80) 2 rfl ⟨⟨trivial, trivial⟩, trivial⟩ ?_
                        try simp only [r9, r0, r1, r2, r3, s1, s2, q0, q1, rc, q3, q4, q5, q6, q7, q8, pr_8_100, pr_8_26, pr_8_40, pr_8_m4, pr_i_0, pr_i_1, pr_i_m1]
                        exact hh
                    · simp only [ab_cmp, pr_8_100, pr_8_26, pr_8_40, pr_8_m4, pr_i_0, pr_i_1, pr_i_m1] at h99
                      first
                      | contradiction
                      | exact absurd trivial h99
                      | exact absurd h99 (by decide)
                      | exact absurd (Classical.not_not.mp h99) (by decide)
                      | skip
                        refine pr_seqT (pc' := 120) 11 rfl ⟨⟨⟨⟨⟨⟨⟨⟨⟨⟨⟨trivial, trivial⟩, trivial⟩, trivial⟩, trivial⟩, trivial⟩, trivial⟩, trivial⟩, trivial⟩, (by first | assumption | (simp only [r9, r0, r1, r2, r3, s1, s2, q0, q1, rc, q3, q4, q5, q6, q7, q8, pr_8_100, pr_8_26, pr_8_40, pr_8_m4, pr_i_0, pr_i_1, pr_i_m1]; first | assumption | decide | exact ⟨by assumption, by assumption⟩ | exact ⟨Or.inl (by assumption), by assumption⟩ | omega) | decide | exact ⟨Or.inl (by assumption), by assumption⟩ | exact ⟨by assumption, by assumption⟩ | omega)⟩, (by first | assumption | (simp only [r9, r0, r1, r2, r3, s1, s2, q0, q1, rc, q3, q4, q5, q6, q7, q8, pr_8_100, pr_8_26, pr_8_40, pr_8_m4, pr_i_0, pr_i_1, pr_i_m1]; first | assumption | decide | exact ⟨by assumption, by assumption⟩ | exact ⟨Or.inl (by assumption), by assumption⟩ | omega) | decide | exact ⟨Or.inl (by assumption), by assumption⟩ | exact ⟨by assumption, by assumption⟩ | omega)⟩, trivial⟩ ?_
                        try simp only [r9, r0, r1, r2, r3, s1, s2, q0, q1, rc, q3, q4, q5, q6, q7, q8, pr_8_100, pr_8_26, pr_8_40, pr_8_m4, pr_i_0, pr_i_1, pr_i_m1]
                        refine pr_cvT [_] rfl rfl rfl rfl rfl (Nat.le_of_ble_eq_true rfl) (by first | assumption | (simp only [r9, r0, r1, r2, r3, s1, s2, q0, q1, rc, q3, q4, q5, q6, q7, q8, pr_8_100, pr_8_26, pr_8_40, pr_8_m4, pr_i_0, pr_i_1, pr_i_m1]; first | assumption | decide | exact ⟨by assumption, by assumption⟩ | exact ⟨Or.inl (by assumption), by assumption⟩ | omega) | decide | exact ⟨Or.inl (by assumption), by assumption⟩ | exact ⟨by assumption, by assumption⟩ | omega) (Nat.le_of_ble_eq_true rfl) (hsf) ?_
                        refine pr_seqT (pc' := 80) 2 rfl ⟨⟨trivial, trivial⟩, trivial⟩ ?_
                        try simp only [r9, r0, r1, r2, r3, s1, s2, q0, q1, rc, q3, q4, q5, q6, q7, q8, pr_8_100, pr_8_26, pr_8_40, pr_8_m4, pr_i_0, pr_i_1, pr_i_m1]
                        exact hh
          have x1 : I1 (tB b + 1 + 1) l = nI (X.1.1.1 l) := by rw [hs1 _ (by omega)]; exact (d7 l (by omega)).1
          have hsf := c_shift (-(nI (X.1.1.1 l))) h (I1, M.2) hc cv1.1 hn8
          obtain ⟨cv2, wg2⟩ := cs_shv (S' := x_S (ptX X l 0)) (m := -(nI (X.1.1.1 l))) cv1 wg1 (fun j hj => by
            have := i32_p1 _ _ _ _ _ (pt_S X l 0 j)
            rw [show nI 0 = 0 from rfl] at this
            rw [this]
            grind)
          have hs2 : cl_same M.1 (cs_sh I1 49 (-(nI (X.1.1.1 l))) (x_n X)) := fun a ha => by rw [cs_sh_far (by omega)]; exact hs1 a ha
          have h0 := inn 41 0 (by omega) _ o7 hs2 cv2 wg2
          refine pr_seqT (pc' := 46) 2 rfl ⟨⟨trivial, trivial⟩, trivial⟩ ?_
          try simp only [r9, r0, r1, r2, r3, s1, s2, q0, q1, rc, q3, q4, q5, q6, q7, q8, e3, x1, pr_8_100, pr_8_26, pr_8_40, pr_8_m4, pr_i_0, pr_i_1, pr_i_m1]
          refine pr_icT rfl (fun h46 => ?_) (fun h46 => ?_)
          · simp only [ab_cmp, pr_8_100, pr_8_26, pr_8_40, pr_8_m4, pr_i_0, pr_i_1, pr_i_m1] at h46
            first
            | contradiction
            | exact absurd trivial h46
            | exact absurd h46 (by decide)
            | exact absurd (Classical.not_not.mp h46) (by decide)
            | skip
              fail
          · simp only [ab_cmp, pr_8_100, pr_8_26, pr_8_40, pr_8_m4, pr_i_0, pr_i_1, pr_i_m1] at h46
            first
            | contradiction
            | exact absurd trivial h46
            | exact absurd h46 (by decide)
            | exact absurd (Classical.not_not.mp h46) (by decide)
            | skip
              refine pr_seqT (pc' := 56) 4 rfl ⟨⟨⟨⟨trivial, (by first | assumption | (simp only [r9, r0, r1, r2, r3, s1, s2, q0, q1, rc, q3, q4, q5, q6, q7, q8, e3, x1, pr_8_100, pr_8_26, pr_8_40, pr_8_m4, pr_i_0, pr_i_1, pr_i_m1]; first | assumption | decide | exact ⟨by assumption, by assumption⟩ | exact ⟨Or.inl (by assumption), by assumption⟩ | omega) | decide | exact ⟨Or.inl (by assumption), by assumption⟩ | exact ⟨by assumption, by assumption⟩ | omega)⟩, (by first | assumption | (simp only [r9, r0, r1, r2, r3, s1, s2, q0, q1, rc, q3, q4, q5, q6, q7, q8, e3, x1, pr_8_100, pr_8_26, pr_8_40, pr_8_m4, pr_i_0, pr_i_1, pr_i_m1]; first | assumption | decide | exact ⟨by assumption, by assumption⟩ | exact ⟨Or.inl (by assumption), by assumption⟩ | omega) | decide | exact ⟨Or.inl (by assumption), by assumption⟩ | exact ⟨by assumption, by assumption⟩ | omega)⟩, (by first | assumption | (simp only [r9, r0, r1, r2, r3, s1, s2, q0, q1, rc, q3, q4, q5, q6, q7, q8, e3, x1, pr_8_100, pr_8_26, pr_8_40, pr_8_m4, pr_i_0, pr_i_1, pr_i_m1]; first | assumption | decide | exact ⟨by assumption, by assumption⟩ | exact ⟨Or.inl (by assumption), by assumption⟩ | omega) | decide | exact ⟨Or.inl (by assumption), by assumption⟩ | exact ⟨by assumption, by assumption⟩ | omega)⟩, trivial⟩ ?_
              try simp only [r9, r0, r1, r2, r3, s1, s2, q0, q1, rc, q3, q4, q5, q6, q7, q8, e3, x1, pr_8_100, pr_8_26, pr_8_40, pr_8_m4, pr_i_0, pr_i_1, pr_i_m1]
              refine pr_cvT [_, _] rfl rfl rfl rfl rfl (Nat.le_of_ble_eq_true rfl) (by first | assumption | (simp only [r9, r0, r1, r2, r3, s1, s2, q0, q1, rc, q3, q4, q5, q6, q7, q8, e3, x1, pr_8_100, pr_8_26, pr_8_40, pr_8_m4, pr_i_0, pr_i_1, pr_i_m1]; first | assumption | decide | exact ⟨by assumption, by assumption⟩ | exact ⟨Or.inl (by assumption), by assumption⟩ | omega) | decide | exact ⟨Or.inl (by assumption), by assumption⟩ | exact ⟨by assumption, by assumption⟩ | omega) (Nat.le_of_ble_eq_true rfl) (hwe) ?_
              refine pr_ifT rfl (fun h59 => ?_) (fun h59 => ?_)
              · simp only [ab_cmp, pr_8_100, pr_8_26, pr_8_40, pr_8_m4, pr_i_0, pr_i_1, pr_i_m1] at h59
                first
                | contradiction
                | exact absurd trivial h59
                | exact absurd h59 (by decide)
                | exact absurd (Classical.not_not.mp h59) (by decide)
                | skip
                  fail
              · simp only [ab_cmp, pr_8_100, pr_8_26, pr_8_40, pr_8_m4, pr_i_0, pr_i_1, pr_i_m1] at h59
                first
                | contradiction
                | exact absurd trivial h59
                | exact absurd h59 (by decide)
                | exact absurd (Classical.not_not.mp h59) (by decide)
                | skip
                  refine pr_seqT (pc' := 74) 7 rfl ⟨⟨⟨⟨⟨⟨⟨trivial, (by first | assumption | (simp only [r9, r0, r1, r2, r3, s1, s2, q0, q1, rc, q3, q4, q5, q6, q7, q8, e3, x1, pr_8_100, pr_8_26, pr_8_40, pr_8_m4, pr_i_0, pr_i_1, pr_i_m1]; first | assumption | decide | exact ⟨by assumption, by assumption⟩ | exact ⟨Or.inl (by assumption), by assumption⟩ | omega) | decide | exact ⟨Or.inl (by assumption), by assumption⟩ | exact ⟨by assumption, by assumption⟩ | omega)⟩, (by first | assumption | (simp only [r9, r0, r1, r2, r3, s1, s2, q0, q1, rc, q3, q4, q5, q6, q7, q8, e3, x1, pr_8_100, pr_8_26, pr_8_40, pr_8_m4, pr_i_0, pr_i_1, pr_i_m1]; first | assumption | decide | exact ⟨by assumption, by assumption⟩ | exact ⟨Or.inl (by assumption), by assumption⟩ | omega) | decide | exact ⟨Or.inl (by assumption), by assumption⟩ | exact ⟨by assumption, by assumption⟩ | omega)⟩, (by first | assumption | (simp only [r9, r0, r1, r2, r3, s1, s2, q0, q1, rc, q3, q4, q5, q6, q7, q8, e3, x1, pr_8_100, pr_8_26, pr_8_40, pr_8_m4, pr_i_0, pr_i_1, pr_i_m1]; first | assumption | decide | exact ⟨by assumption, by assumption⟩ | exact ⟨Or.inl (by assumption), by assumption⟩ | omega) | decide | exact ⟨Or.inl (by assumption), by assumption⟩ | exact ⟨by assumption, by assumption⟩ | omega)⟩, (by first | assumption | (simp only [r9, r0, r1, r2, r3, s1, s2, q0, q1, rc, q3, q4, q5, q6, q7, q8, e3, x1, pr_8_100, pr_8_26, pr_8_40, pr_8_m4, pr_i_0, pr_i_1, pr_i_m1]; first | assumption | decide | exact ⟨by assumption, by assumption⟩ | exact ⟨Or.inl (by assumption), by assumption⟩ | omega) | decide | exact ⟨Or.inl (by assumption), by assumption⟩ | exact ⟨by assumption, by assumption⟩ | omega)⟩, trivial⟩, (by first | assumption | (simp only [r9, r0, r1, r2, r3, s1, s2, q0, q1, rc, q3, q4, q5, q6, q7, q8, e3, x1, pr_8_100, pr_8_26, pr_8_40, pr_8_m4, pr_i_0, pr_i_1, pr_i_m1]; first | assumption | decide | exact ⟨by assumption, by assumption⟩ | exact ⟨Or.inl (by assumption), by assumption⟩ | omega) | decide | exact ⟨Or.inl (by assumption), by assumption⟩ | exact ⟨by assumption, by assumption⟩ | omega)⟩, trivial⟩ ?_
                  try simp only [r9, r0, r1, r2, r3, s1, s2, q0, q1, rc, q3, q4, q5, q6, q7, q8, e3, x1, pr_8_100, pr_8_26, pr_8_40, pr_8_m4, pr_i_0, pr_i_1, pr_i_m1]
                  refine pr_cvT [_] rfl rfl rfl rfl rfl (Nat.le_of_ble_eq_true rfl) (by first | assumption | (simp only [r9, r0, r1, r2, r3, s1, s2, q0, q1, rc, q3, q4, q5, q6, q7, q8, e3, x1, pr_8_100, pr_8_26, pr_8_40, pr_8_m4, pr_i_0, pr_i_1, pr_i_m1]; first | assumption | decide | exact ⟨by assumption, by assumption⟩ | exact ⟨Or.inl (by assumption), by assumption⟩ | omega) | decide | exact ⟨Or.inl (by assumption), by assumption⟩ | exact ⟨by assumption, by assumption⟩ | omega) (Nat.le_of_ble_eq_true rfl) (hsf) ?_
                  refine pr_seqT (pc' := 80) 2 rfl ⟨⟨trivial, trivial⟩, trivial⟩ ?_
                  try simp only [r9, r0, r1, r2, r3, s1, s2, q0, q1, rc, q3, q4, q5, q6, q7, q8, e3, x1, pr_8_100, pr_8_26, pr_8_40, pr_8_m4, pr_i_0, pr_i_1, pr_i_m1]
                  exact h0
    refine pr_seqT (pc' := 3) 3 rfl ⟨⟨⟨trivial, trivial⟩, trivial⟩, trivial⟩ ?_
    try simp only [r9, r0, r1, r2, r3, s1, s2, q0, q1, rc, q3, q4, q5, q6, q7, q8, pr_8_100, pr_8_26, pr_8_40, pr_8_m4, pr_i_0, pr_i_1, pr_i_m1]
    refine pr_csT [_, _, _] rfl rfl rfl rfl rfl (Nat.le_of_ble_eq_true rfl) (Nat.le_of_ble_eq_true rfl) (hp) ?_
    refine pr_ifT rfl (fun h6 => ?_) (fun h6 => ?_)
    · simp only [ab_cmp, pr_8_100, pr_8_26, pr_8_40, pr_8_m4, pr_i_0, pr_i_1, pr_i_m1] at h6
      first
      | contradiction
      | exact absurd trivial h6
      | exact absurd h6 (by decide)
      | exact absurd (Classical.not_not.mp h6) (by decide)
      | skip
        refine pr_seqT (pc' := 24) 7 rfl ⟨⟨⟨⟨⟨⟨⟨trivial, (by first | assumption | (simp only [r9, r0, r1, r2, r3, s1, s2, q0, q1, rc, q3, q4, q5, q6, q7, q8, pr_8_100, pr_8_26, pr_8_40, pr_8_m4, pr_i_0, pr_i_1, pr_i_m1]; first | assumption | decide | exact ⟨by assumption, by assumption⟩ | exact ⟨Or.inl (by assumption), by assumption⟩ | omega) | decide | exact ⟨Or.inl (by assumption), by assumption⟩ | exact ⟨by assumption, by assumption⟩ | omega)⟩, (by first | assumption | (simp only [r9, r0, r1, r2, r3, s1, s2, q0, q1, rc, q3, q4, q5, q6, q7, q8, pr_8_100, pr_8_26, pr_8_40, pr_8_m4, pr_i_0, pr_i_1, pr_i_m1]; first | assumption | decide | exact ⟨by assumption, by assumption⟩ | exact ⟨Or.inl (by assumption), by assumption⟩ | omega) | decide | exact ⟨Or.inl (by assumption), by assumption⟩ | exact ⟨by assumption, by assumption⟩ | omega)⟩, (by first | assumption | (simp only [r9, r0, r1, r2, r3, s1, s2, q0, q1, rc, q3, q4, q5, q6, q7, q8, pr_8_100, pr_8_26, pr_8_40, pr_8_m4, pr_i_0, pr_i_1, pr_i_m1]; first | assumption | decide | exact ⟨by assumption, by assumption⟩ | exact ⟨Or.inl (by assumption), by assumption⟩ | omega) | decide | exact ⟨Or.inl (by assumption), by assumption⟩ | exact ⟨by assumption, by assumption⟩ | omega)⟩, (by first | assumption | (simp only [r9, r0, r1, r2, r3, s1, s2, q0, q1, rc, q3, q4, q5, q6, q7, q8, pr_8_100, pr_8_26, pr_8_40, pr_8_m4, pr_i_0, pr_i_1, pr_i_m1]; first | assumption | decide | exact ⟨by assumption, by assumption⟩ | exact ⟨Or.inl (by assumption), by assumption⟩ | omega) | decide | exact ⟨Or.inl (by assumption), by assumption⟩ | exact ⟨by assumption, by assumption⟩ | omega)⟩, (by first | assumption | (simp only [r9, r0, r1, r2, r3, s1, s2, q0, q1, rc, q3, q4, q5, q6, q7, q8, pr_8_100, pr_8_26, pr_8_40, pr_8_m4, pr_i_0, pr_i_1, pr_i_m1]; first | assumption | decide | exact ⟨by assumption, by assumption⟩ | exact ⟨Or.inl (by assumption), by assumption⟩ | omega) | decide | exact ⟨Or.inl (by assumption), by assumption⟩ | exact ⟨by assumption, by assumption⟩ | omega)⟩, (by first | assumption | (simp only [r9, r0, r1, r2, r3, s1, s2, q0, q1, rc, q3, q4, q5, q6, q7, q8, pr_8_100, pr_8_26, pr_8_40, pr_8_m4, pr_i_0, pr_i_1, pr_i_m1]; first | assumption | decide | exact ⟨by assumption, by assumption⟩ | exact ⟨Or.inl (by assumption), by assumption⟩ | omega) | decide | exact ⟨Or.inl (by assumption), by assumption⟩ | exact ⟨by assumption, by assumption⟩ | omega)⟩, (by first | assumption | (simp only [r9, r0, r1, r2, r3, s1, s2, q0, q1, rc, q3, q4, q5, q6, q7, q8, pr_8_100, pr_8_26, pr_8_40, pr_8_m4, pr_i_0, pr_i_1, pr_i_m1]; first | assumption | decide | exact ⟨by assumption, by assumption⟩ | exact ⟨Or.inl (by assumption), by assumption⟩ | omega) | decide | exact ⟨Or.inl (by assumption), by assumption⟩ | exact ⟨by assumption, by assumption⟩ | omega)⟩ ?_
        try simp only [r9, r0, r1, r2, r3, s1, s2, q0, q1, rc, q3, q4, q5, q6, q7, q8, pr_8_100, pr_8_26, pr_8_40, pr_8_m4, pr_i_0, pr_i_1, pr_i_m1]
        refine pr_cvX [_] rfl rfl rfl rfl rfl (Nat.le_of_ble_eq_true rfl) (by first | assumption | (simp only [r9, r0, r1, r2, r3, s1, s2, q0, q1, rc, q3, q4, q5, q6, q7, q8, pr_8_100, pr_8_26, pr_8_40, pr_8_m4, pr_i_0, pr_i_1, pr_i_m1]; first | assumption | decide | exact ⟨by assumption, by assumption⟩ | exact ⟨Or.inl (by assumption), by assumption⟩ | omega) | decide | exact ⟨Or.inl (by assumption), by assumption⟩ | exact ⟨by assumption, by assumption⟩ | omega) (Nat.le_of_ble_eq_true rfl) (c_take h M hc hg hb hd) (fun v24 M24 q24 => ?_)
        obtain ⟨rfl, e2, e3, e4⟩ := q24
        obtain ⟨I1, Z1⟩ := M24
        dsimp only at e2 e3 e4
        subst e2
        refine pr_seqT (pc' := 31) 2 rfl ⟨⟨trivial, (by first | assumption | (simp only [r9, r0, r1, r2, r3, s1, s2, q0, q1, rc, q3, q4, q5, q6, q7, q8, pr_8_100, pr_8_26, pr_8_40, pr_8_m4, pr_i_0, pr_i_1, pr_i_m1]; first | assumption | decide | exact ⟨by assumption, by assumption⟩ | exact ⟨Or.inl (by assumption), by assumption⟩ | omega) | decide | exact ⟨Or.inl (by assumption), by assumption⟩ | exact ⟨by assumption, by assumption⟩ | omega)⟩, (by first | assumption | (simp only [r9, r0, r1, r2, r3, s1, s2, q0, q1, rc, q3, q4, q5, q6, q7, q8, pr_8_100, pr_8_26, pr_8_40, pr_8_m4, pr_i_0, pr_i_1, pr_i_m1]; first | assumption | decide | exact ⟨by assumption, by assumption⟩ | exact ⟨Or.inl (by assumption), by assumption⟩ | omega) | decide | exact ⟨Or.inl (by assumption), by assumption⟩ | exact ⟨by assumption, by assumption⟩ | omega)⟩ ?_
        try simp only [r9, r0, r1, r2, r3, s1, s2, q0, q1, rc, q3, q4, q5, q6, q7, q8, pr_8_100, pr_8_26, pr_8_40, pr_8_m4, pr_i_0, pr_i_1, pr_i_m1]
        refine pr_cvT [] rfl rfl rfl rfl rfl (Nat.le_of_ble_eq_true rfl) (by first | assumption | (simp only [r9, r0, r1, r2, r3, s1, s2, q0, q1, rc, q3, q4, q5, q6, q7, q8, pr_8_100, pr_8_26, pr_8_40, pr_8_m4, pr_i_0, pr_i_1, pr_i_m1]; first | assumption | decide | exact ⟨by assumption, by assumption⟩ | exact ⟨Or.inl (by assumption), by assumption⟩ | omega) | decide | exact ⟨Or.inl (by assumption), by assumption⟩ | exact ⟨by assumption, by assumption⟩ | omega) (Nat.le_of_ble_eq_true rfl) (c_howMany h (I1, M.2) hc e3) ?_
        refine pr_seqT (pc' := 42) 5 rfl ⟨⟨⟨⟨⟨trivial, trivial⟩, trivial⟩, trivial⟩, trivial⟩, trivial⟩ ?_
        try simp only [r9, r0, r1, r2, r3, s1, s2, q0, q1, rc, q3, q4, q5, q6, q7, q8, pr_8_100, pr_8_26, pr_8_40, pr_8_m4, pr_i_0, pr_i_1, pr_i_m1]
        exact out 26 0 (by omega) I1 none none (cs_same e4) e3
    · simp only [ab_cmp, pr_8_100, pr_8_26, pr_8_40, pr_8_m4, pr_i_0, pr_i_1, pr_i_m1] at h6
      first
      | contradiction
      | exact absurd trivial h6
      | exact absurd h6 (by decide)
      | exact absurd (Classical.not_not.mp h6) (by decide)
      | skip
        refine pr_seqT (pc' := 10) 1 rfl ⟨trivial, trivial⟩ ?_
        try simp only [r9, r0, r1, r2, r3, s1, s2, q0, q1, rc, q3, q4, q5, q6, q7, q8, pr_8_100, pr_8_26, pr_8_40, pr_8_m4, pr_i_0, pr_i_1, pr_i_m1]
        exact pr_irT rfl trivial (by first | rfl | (simp only [r9, r0, r1, r2, r3, s1, s2, q0, q1, rc, q3, q4, q5, q6, q7, q8, pr_8_100, pr_8_26, pr_8_40, pr_8_m4, pr_i_0, pr_i_1, pr_i_m1]; done) | (simp [pr_b, pr_8_100, pr_8_26, pr_8_40, pr_8_m4, pr_i_0, pr_i_1, pr_i_m1, *]; done) | (simp_all [pr_b, pr_8_100, pr_8_26, pr_8_40, pr_8_m4, pr_i_0, pr_i_1, pr_i_m1]; done))
